section
variable {b nv nc tc : Nat} {I J : WI}
theorem kinds {x : Int32} (h : bt 0 5 x) : x = 0 ∨ x = 1 ∨ x = 2 ∨ x = 3 ∨ x = 4 ∨ x = 5 := by
  obtain ⟨h1, h2⟩ := h
  have t : (0 : Int32).toInt = 0 ∧ (1 : Int32).toInt = 1 ∧ (2 : Int32).toInt = 2 ∧ (3 : Int32).toInt = 3 ∧ (4 : Int32).toInt = 4 ∧ (5 : Int32).toInt = 5 := by decide
  rcases (show x.toInt = 0 ∨ x.toInt = 1 ∨ x.toInt = 2 ∨ x.toInt = 3 ∨ x.toInt = 4 ∨ x.toInt = 5 by omega) with z | z | z | z | z | z
  · exact Or.inl (Int32.toInt_inj.mp (by omega))
  · exact Or.inr (Or.inl (Int32.toInt_inj.mp (by omega)))
  · exact Or.inr (Or.inr (Or.inl (Int32.toInt_inj.mp (by omega))))
  · exact Or.inr (Or.inr (Or.inr (Or.inl (Int32.toInt_inj.mp (by omega)))))
  · exact Or.inr (Or.inr (Or.inr (Or.inr (Or.inl (Int32.toInt_inj.mp (by omega))))))
  · exact Or.inr (Or.inr (Or.inr (Or.inr (Or.inr (Int32.toInt_inj.mp (by omega))))))
theorem term_eq (h : kA b I J) {i : Nat} (hi : i < 3) (d : Int32) : v_30 I (b + 1) (nI i) d = v_186 J d (nI i) := by
  obtain ⟨⟨-, a2, -, a4, a5⟩, -, -, -, c4, -⟩ := h
  have ew : I (b + 1 + 1) (nI i).toNatClampNeg = J 78 (4 + nI i).toNatClampNeg := by
    rw [show (4 : Int32) = nI 4 from rfl, nI_add, cl (show i < 2 ^ 31 by omega), cl (show 4 + i < 2 ^ 31 by omega)]
    exact a5 i hi
  unfold v_30 v_186 v_187 v_188
  rw [a2, a4]
  simp only [bx, ew]
  rcases kinds c4 with e | e | e | e | e | e <;> rw [e] <;> simp
theorem mx (x y : Int32) : (if x < y then y else x) = if x ≤ y then y else x := by
  simp only [Int32.lt_iff_toInt_lt, Int32.le_iff_toInt_le]
  by_cases h : x.toInt < y.toInt
  · rw [if_pos h, if_pos (by omega)]
  · rw [if_neg h]
    split
    · exact Int32.toInt_inj.mp (by omega)
    · rfl
theorem mn (x y : Int32) : (if y < x then y else x) = if x ≤ y then x else y := by
  simp only [Int32.lt_iff_toInt_lt, Int32.le_iff_toInt_le]
  by_cases h : y.toInt < x.toInt
  · rw [if_pos h, if_neg (by omega)]
  · rw [if_neg h, if_pos (by omega)]
theorem v283_eq (x y : Int32) : v_283 x y = if x ≤ y then y else x := mx x y
theorem v282_eq (x y : Int32) : v_282 x y = if x ≤ y then x else y := mn x y
theorem meas_eq (h : kA b I J) (d e f : Int32) : v_29 I (b + 1) d e f = v_185 J d e f := by
  have t0 : ∀ d, v_30 I (b + 1) 0 d = v_186 J d 0 := fun d => term_eq h (i := 0) (by omega) d
  have t1 : ∀ d, v_30 I (b + 1) 1 d = v_186 J d 1 := fun d => term_eq h (i := 1) (by omega) d
  have t2 : ∀ d, v_30 I (b + 1) 2 d = v_186 J d 2 := fun d => term_eq h (i := 2) (by omega) d
  obtain ⟨⟨-, -, a3, a4, -⟩, -, -, -, c4, -⟩ := h
  unfold v_29 v_185
  rw [t0, t1, t2, a3, a4]
  simp only [bx, v282_eq, v283_eq]
theorem abs_far {x y : Int32} (hx : bt (-999) 999 x) (hy : bt (-999) 999 y) : v_285 (x - y) = v_184 x y := by
  obtain ⟨h1, h2⟩ := hx
  obtain ⟨h3, h4⟩ := hy
  unfold v_285 v_184
  have e : (x - y).toInt = x.toInt - y.toInt := ti_sub (by omega) (by omega)
  have e2 : (y - x).toInt = y.toInt - x.toInt := ti_sub (by omega) (by omega)
  have e0 : (0 : Int32).toInt = 0 := by decide
  simp only [Int32.le_iff_toInt_le, e, e0]
  by_cases h : x.toInt ≤ y.toInt
  · rw [if_pos h]
    by_cases g : 0 ≤ x.toInt - y.toInt
    · rw [if_pos g]; exact Int32.toInt_inj.mp (by omega)
    · rw [if_neg g]; exact Int32.toInt_inj.mp (by rw [ti_neg (by omega)]; omega)
  · rw [if_neg h, if_pos (by omega)]
theorem betw_eq (hA : kA b I J) (hP : kP b I J) {v w : Nat} (hv : v < 12) (hw : w < 12) : v_71 I b (nI v) (nI w) = v_183 J (nI v) (nI w) := by
  unfold v_71 v_183
  simp only [bx, n30, nI_1, nI_2, cl (show 3 * v < 2 ^ 31 by omega), cl (show 3 * v + 1 < 2 ^ 31 by omega), cl (show 3 * v + 2 < 2 ^ 31 by omega), cl (show 3 * w < 2 ^ 31 by omega), cl (show 3 * w + 1 < 2 ^ 31 by omega), cl (show 3 * w + 2 < 2 ^ 31 by omega)]
  have f : ∀ i, i < 3 → v_285 (I (b + 7) (3 * v + i) - I (b + 7) (3 * w + i)) = v_184 (J 84 (3 * v + i)) (J 84 (3 * w + i)) := fun i hi => by
    have p1 := hP (3 * v + i) (by omega)
    have p2 := hP (3 * w + i) (by omega)
    rw [p1.1, p2.1]
    exact abs_far p1.2 p2.2
  have f0 : v_285 (I (b + 7) (3 * v) - I (b + 7) (3 * w)) = v_184 (J 84 (3 * v)) (J 84 (3 * w)) := f 0 (by omega)
  rw [f0, f 1 (by omega), f 2 (by omega)]
  exact meas_eq hA _ _ _
theorem g_term {i : Nat} (hi : i < 3) (d : Int32) : g_30 I b (nI i) d ∧ g_186 J d (nI i) := by
  have h3 : vp_in (nI i) 3 := vin hi (by omega)
  have h7 : vp_in (4 + nI i) 7 := by rw [show (4 : Int32) = nI 4 from rfl, nI_add]; exact vin (by omega) (by omega)
  constructor
  · unfold g_30
    exact ⟨fun _ => trivial, fun _ => ⟨fun _ => h3, fun _ => ⟨fun _ => trivial, fun _ => ⟨fun _ => h3, fun _ => ⟨fun _ => trivial, fun _ => h3⟩⟩⟩⟩⟩
  · exact fun _ _ _ => h7
theorem g_meas (d e f : Int32) : g_29 I b d e f ∧ g_185 J d e f :=
  ⟨⟨(g_term (J := J) (i := 0) (by omega) d).1, (g_term (J := J) (i := 1) (by omega) e).1, (g_term (J := J) (i := 2) (by omega) f).1⟩, ⟨(g_term (I := I) (b := b) (i := 0) (by omega) d).2, (g_term (I := I) (b := b) (i := 1) (by omega) e).2, (g_term (I := I) (b := b) (i := 2) (by omega) f).2⟩⟩
theorem g_betw {v w : Nat} (hv : v < 12) (hw : w < 12) : g_71 I b (nI v) (nI w) ∧ g_183 J (nI v) (nI w) := by
  have q0 : ∀ v, v < 12 → vp_in (3 * nI v) 36 := fun v hv => by rw [n30]; exact vin (by omega) (by omega)
  have q1 : ∀ v, v < 12 → vp_in (3 * nI v + 1) 36 := fun v hv => by rw [n31]; exact vin (by omega) (by omega)
  have q2 : ∀ v, v < 12 → vp_in (3 * nI v + 2) 36 := fun v hv => by rw [n32]; exact vin (by omega) (by omega)
  exact ⟨⟨q0 v hv, q0 w hw, q1 v hv, q1 w hw, q2 v hv, q2 w hw, (g_meas (J := J) _ _ _).1⟩, ⟨q0 v hv, q0 w hw, q1 v hv, q1 w hw, q2 v hv, q2 w hw, (g_meas (I := I) (b := b) _ _ _).2⟩⟩
theorem op_apart (h : kR 1 nv nc tc I J) (x1 x2 : Int32) : g_121 I x1 x2 ∧ g_182 J x1 x2 ∧ v_121 I x1 x2 = v_182 J x1 x2 := by
  have hV := h.2.2.2.2.2.1
  have h12 := hV.1
  unfold v_121 v_182 g_121 g_182
  rw [(e110 hV x1).1, (e110 hV x1).2, (e110 hV x2).1, (e110 hV x2).2]
  rcases vnum (nv := nv) (by omega) x1 with ⟨e1, v, hv, rfl⟩ | e1
  · rcases vnum (nv := nv) (by omega) x2 with ⟨e2, w, hw, rfl⟩ | e2
    · rw [e1, e2, if_neg d10, if_neg d10, if_pos d10, if_neg d10]
      have hg := g_betw (I := I) (J := J) (b := 1) (v := v) (w := w) (by omega) (by omega)
      exact ⟨fun _ _ => hg.1, fun _ _ => hg.2, betw_eq h.1 h.2.2.2.2.1 (by omega) (by omega)⟩
    · rw [e1, e2, if_neg d10, if_neg d10, if_neg d00, if_pos rfl]
      exact ⟨fun _ g => absurd rfl g, fun _ g => absurd rfl g, rfl⟩
  · rw [e1, if_pos rfl, if_pos rfl]
    exact ⟨fun g => absurd rfl g, fun g => absurd rfl g, rfl⟩
end
