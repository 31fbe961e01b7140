section
variable {b nv nc tc : Nat} {I J : WI}
/-! what is told low: the same of both; no number lacks; and no more than what is told high of the measure -/
theorem cmpv (x y : Int) : (Op.cmpValue (some (compare x y)) .l ≤ (0 : Int32) ↔ x ≤ y) ∧ (Op.cmpValue (some (compare x y)) .l < (0 : Int32) ↔ x < y) := by
  rcases Int.lt_trichotomy x y with h | h | h
  · rw [(FP.Core.compare_lt_iff x y).mpr h]
    exact ⟨⟨fun _ => by omega, fun _ => by decide⟩, ⟨fun _ => h, fun _ => by decide⟩⟩
  · rw [(FP.Core.compare_eq_iff x y).mpr h]
    exact ⟨⟨fun _ => by omega, fun _ => by decide⟩, ⟨fun q => absurd q (by decide), fun q => by omega⟩⟩
  · rw [(FP.Core.compare_gt_iff x y).mpr h]
    exact ⟨⟨fun q => absurd q (by decide), fun q => by omega⟩, ⟨fun q => absurd q (by decide), fun q => by omega⟩⟩
theorem cmp_le0 {a c : UInt32} : Op.cmpValue (FP.fcmp a c) .l ≤ (0 : Int32) ↔ ¬ FP.fcmp a c = some .gt := by
  rcases FP.fcmp a c with _ | o
  · exact ⟨fun _ q => absurd q (by decide), fun _ => by decide⟩
  · cases o
    · exact ⟨fun _ q => absurd q (by decide), fun _ => by decide⟩
    · exact ⟨fun _ q => absurd q (by decide), fun _ => by decide⟩
    · exact ⟨fun q => absurd q (by decide), fun q => absurd rfl q⟩
theorem mxf {d e : Int32} (hd : bt 0 1998 d) (he : bt 0 1998 e) : (if Op.cmpValue (FP.fcmp (FP.i2f d) (FP.i2f e)) .l < 0 then FP.i2f e else FP.i2f d) = FP.i2f (if d ≤ e then e else d) ∧ (if Op.cmpValue (FP.fcmp (FP.i2f d) (FP.i2f e)) .l ≤ 0 then FP.i2f e else FP.i2f d) = FP.i2f (if d ≤ e then e else d) := by
  obtain ⟨d1, d2⟩ := hd
  obtain ⟨e1, e2⟩ := he
  have hc : FP.fcmp (FP.i2f d) (FP.i2f e) = some (compare d.toInt e.toInt) := FP.Core.fcmp_int (FP.Core.i2f_int (by omega)) (FP.Core.i2f_int (by omega))
  rw [hc]
  have h := cmpv d.toInt e.toInt
  have hle : d ≤ e ↔ d.toInt ≤ e.toInt := Int32.le_iff_toInt_le
  constructor
  · by_cases c : d.toInt < e.toInt
    · rw [if_pos (h.2.mpr c), if_pos (hle.mpr (by omega))]
    · rw [if_neg (fun q => c (h.2.mp q))]
      by_cases c2 : d.toInt ≤ e.toInt
      · rw [if_pos (hle.mpr c2), show d = e from Int32.toInt_inj.mp (by omega)]
      · rw [if_neg (fun q => c2 (hle.mp q))]
  · by_cases c : d.toInt ≤ e.toInt
    · rw [if_pos (h.1.mpr c), if_pos (hle.mpr c)]
    · rw [if_neg (fun q => c (h.1.mp q)), if_neg (fun q => c (hle.mp q))]
theorem z0f : FP.i2f 0 = FP.fconst0 := by decide +kernel
theorem ub1 : ub FP.fconst1 1 := by
  have h : FP.fconst1 = FP.i2f 1 := by decide +kernel
  rw [h]
  exact ub_i2f (n := 1) (N := 1) (by decide) (by decide)
theorem ub4 : ub 1082130432 4 := by
  have h : (1082130432 : UInt32) = FP.i2f 4 := by decide +kernel
  rw [h]
  exact ub_i2f (n := 4) (N := 4) (by decide) (by decide)
theorem ew {i : Nat} (hi : i < 3) : (4 + nI i).toNatClampNeg = 4 + i := by rw [show (4 : Int32) = nI 4 from rfl, nI_add, cl (by omega)]
/-- what a term is made of -/
def trm (J : WI) (d : Int32) : Int32 := if v_187 J = 0 then d else v_188 J d
theorem trm_bt (hA : kA b I J) {d : Int32} (hd : bt 0 1998 d) : bt 0 1998 (trm J d) := by
  unfold trm
  split
  · exact hd
  · exact above_bt hd hA.2.2.1
theorem tfr (h : J 78 3 = 2 ∨ J 78 3 = 4) (d i : Int32) : v_222 J d i = FP.i2f d := by
  have e : v_187 J = 0 := by
    unfold v_187
    rcases h with h | h <;> rw [h] <;> decide
  unfold v_222
  simp only [bx, if_pos e]
  rcases h with h | h
  · rw [if_pos h]
  · rw [if_neg (by rw [h]; decide), if_neg (by rw [h]; decide)]
theorem tf_eq (hA : kA b I J) {i : Nat} (hi : i < 3) (d : Int32) : v_26 I (b + 1) (nI i) d = v_222 J d (nI i) := by
  obtain ⟨⟨-, a2, -, a4, a5⟩, -, -, -, c4, -⟩ := hA
  have e : I (b + 1 + 1) (nI i).toNatClampNeg = J 78 (4 + i) := by rw [cl (by omega)]; exact a5 i hi
  have q0 : ¬ J 78 3 = 3 → ¬ J 78 3 = 5 → v_187 J = 0 := fun h3 h5 => by unfold v_187; rw [if_neg h3, if_pos h5]
  have q1 : J 78 3 = 3 ∨ J 78 3 = 5 → ¬ v_187 J = 0 := fun h => by
    unfold v_187
    rcases h with h | h <;> rw [h] <;> decide
  have q2 : FP.i2f (v_188 J d) = if d ≤ J 78 1 then FP.fconst0 else FP.i2f (d - J 78 1) := by
    unfold v_188
    by_cases c : d ≤ J 78 1
    · rw [if_pos c, if_pos c, z0f]
    · rw [if_neg c, if_neg c]
  unfold v_26 v_222
  rw [a2, a4, e, ew hi]
  dsimp only [bx]
  have n10 : ¬ (1 : Int32) = 0 := by decide
  have n20 : ¬ (2 : Int32) = 0 := by decide
  have n30 : ¬ (3 : Int32) = 0 := by decide
  have n40 : ¬ (4 : Int32) = 0 := by decide
  have n50 : ¬ (5 : Int32) = 0 := by decide
  have n21 : ¬ (2 : Int32) = 1 := by decide
  have n31 : ¬ (3 : Int32) = 1 := by decide
  have n41 : ¬ (4 : Int32) = 1 := by decide
  have n51 : ¬ (5 : Int32) = 1 := by decide
  have n02 : ¬ (0 : Int32) = 2 := by decide
  have n12 : ¬ (1 : Int32) = 2 := by decide
  have n32 : ¬ (3 : Int32) = 2 := by decide
  have n42 : ¬ (4 : Int32) = 2 := by decide
  have n52 : ¬ (5 : Int32) = 2 := by decide
  have n43 : ¬ (4 : Int32) = 3 := by decide
  have n53 : ¬ (5 : Int32) = 3 := by decide
  have n04 : ¬ (0 : Int32) = 4 := by decide
  have n14 : ¬ (1 : Int32) = 4 := by decide
  have n34 : ¬ (3 : Int32) = 4 := by decide
  have n54 : ¬ (5 : Int32) = 4 := by decide
  rcases kinds c4 with k | k | k | k | k | k
  · rw [if_pos (q0 (by rw [k]; decide) (by rw [k]; decide)), k, if_pos rfl, if_neg n02, if_pos n04, if_neg d00]
  · rw [if_pos (q0 (by rw [k]; decide) (by rw [k]; decide)), k, if_neg n10, if_pos rfl, if_neg n12, if_pos n14, if_pos n10]
  · rw [if_pos (q0 (by rw [k]; decide) (by rw [k]; decide)), k, if_neg n20, if_neg n21, if_pos rfl, if_pos rfl]
  · rw [if_neg (q1 (Or.inl k)), k, if_neg n30, if_neg n31, if_neg n32, if_pos rfl, if_neg n32, if_pos n34, if_pos n30, q2]
  · rw [if_pos (q0 (by rw [k]; decide) (by rw [k]; decide)), k, if_neg n40, if_neg n41, if_neg n42, if_neg n43, if_pos rfl, if_neg n42, if_neg (fun q => q rfl)]
  · rw [if_neg (q1 (Or.inr k)), k, if_neg n50, if_neg n51, if_neg n52, if_neg n53, if_neg n54, if_neg n52, if_pos n54, if_pos n50, q2]
theorem t_ub (hA : kA b I J) {i : Nat} (hi : i < 3) {d : Int32} (hd : bt 0 1998 d) : ∃ P w : Nat, P ≤ 1998 ∧ 1 ≤ w ∧ w ≤ 9 ∧ (trm J d).toInt = P ∧ (J 78 (4 + i)).toInt = w ∧ ub (FP.i2f (trm J d)) P ∧ ub (FP.fmul (FP.i2f (trm J d)) (FP.i2f (trm J d))) (P * P) ∧
    ub (FP.fmul (FP.fmul (FP.i2f (trm J d)) (FP.i2f (trm J d))) (FP.i2f (J 78 (4 + i)))) (P * P * w + P * P * w / 8388608) := by
  have hp := trm_bt hA hd
  have hw := hA.2.2.2.2.2 i hi
  obtain ⟨p1, p2⟩ := hp
  obtain ⟨w1, w2⟩ := hw
  have hP : (trm J d).toInt.toNat * (trm J d).toInt.toNat ≤ 1998 * 1998 := Nat.mul_le_mul (by omega) (by omega)
  have u1 : ub (FP.i2f (trm J d)) (trm J d).toInt.toNat := ub_i2f (by omega) (by omega)
  have u2 := ub_mul u1 u1 (by omega)
  rw [Nat.div_eq_of_lt (by omega), Nat.add_zero] at u2
  have u3 : ub (FP.i2f (J 78 (4 + i))) (J 78 (4 + i)).toInt.toNat := ub_i2f (by omega) (by omega)
  have hPw : (trm J d).toInt.toNat * (trm J d).toInt.toNat * (J 78 (4 + i)).toInt.toNat ≤ 1998 * 1998 * 9 := Nat.mul_le_mul hP (by omega)
  exact ⟨(trm J d).toInt.toNat, (J 78 (4 + i)).toInt.toNat, by omega, by omega, by omega, by omega, by omega, u1, u2, ub_mul u2 u3 (by omega)⟩
/-- a term, and its float's bound -/
theorem tf_ub (hA : kA b I J) {i : Nat} (hi : i < 3) {d : Int32} (hd : bt 0 1998 d) : g_26 I (b + 1) (nI i) d ∧ g_222 J d (nI i) ∧ ∃ T : Nat, (v_186 J d (nI i)).toInt = T ∧ T ≤ 35928036 ∧ ub (v_222 J d (nI i)) (T + T / 8388608) := by
  have hv3 : vp_in (nI i) 3 := vin hi (by omega)
  have hv7 : vp_in (4 + nI i) 7 := by rw [show (4 : Int32) = nI 4 from rfl, nI_add]; exact vin (by omega) (by omega)
  obtain ⟨P, w, hP, hw1, hw2, eP, ewt, u1, u2, u3⟩ := t_ub hA hi hd
  have q1 : P * P ≤ 1998 * 1998 := Nat.mul_le_mul hP hP
  have q2 : P * P * w ≤ 1998 * 1998 * 9 := Nat.mul_le_mul q1 hw2
  have hpb : bt 0 1998 (trm J d) := trm_bt hA hd
  have s1 := mul_bt hpb hpb (by decide)
  have hwb : bt 0 9 (J 78 (4 + i)) := bt_w (hA.2.2.2.2.2 i hi) (by decide) (Int.le_refl _)
  have s2 := mul_bt s1.2 hwb (by decide)
  have e1 : (trm J d * trm J d).toInt = ((P * P : Nat) : Int) := by rw [s1.1, eP, Int.natCast_mul]
  have e2 : (trm J d * trm J d * J 78 (4 + i)).toInt = ((P * P * w : Nat) : Int) := by rw [s2.1, e1, ewt]; exact (Int.natCast_mul _ _).symm
  obtain ⟨⟨-, a2, -, a4, a5⟩, -, -, -, c4, -⟩ := hA
  have e : I (b + 1 + 1) (nI i).toNatClampNeg = J 78 (4 + i) := by rw [cl (by omega)]; exact a5 i hi
  have hval : v_186 J d (nI i) = if J 78 3 = 2 then trm J d else if ¬ J 78 3 = 4 then (if ¬ J 78 3 = 0 then trm J d * trm J d * J 78 (4 + i) else trm J d * trm J d) else trm J d := by
    unfold v_186 trm
    rw [ew hi]
    dsimp only [bx]
  have hflt : v_222 J d (nI i) = if J 78 3 = 2 then FP.i2f (trm J d) else if ¬ J 78 3 = 4 then (if ¬ J 78 3 = 0 then FP.fmul (FP.fmul (FP.i2f (trm J d)) (FP.i2f (trm J d))) (FP.i2f (J 78 (4 + i))) else FP.fmul (FP.i2f (trm J d)) (FP.i2f (trm J d))) else FP.i2f (trm J d) := by
    unfold v_222 trm
    rw [ew hi]
    dsimp only [bx]
  refine ⟨?_, ?_, ?_⟩
  · have n1 : v_187 J = 0 → vf_n32 (FP.fmul (FP.i2f d) (FP.i2f d)) ∧ vf_n32 (FP.fmul (FP.fmul (FP.i2f d) (FP.i2f d)) (FP.i2f (J 78 (4 + i)))) := fun h => by
      have t : trm J d = d := if_pos h
      rw [t] at u2 u3
      exact ⟨ub_n u2, ub_n u3⟩
    have n2 : ¬ v_187 J = 0 → vf_n32 (FP.fmul (if d ≤ J 78 1 then FP.fconst0 else FP.i2f (d - J 78 1)) (if d ≤ J 78 1 then FP.fconst0 else FP.i2f (d - J 78 1))) ∧ vf_n32 (FP.fmul (FP.fmul (if d ≤ J 78 1 then FP.fconst0 else FP.i2f (d - J 78 1)) (if d ≤ J 78 1 then FP.fconst0 else FP.i2f (d - J 78 1))) (FP.i2f (J 78 (4 + i)))) := fun h => by
      have t : trm J d = if d ≤ J 78 1 then 0 else d - J 78 1 := if_neg h
      have t2 : FP.i2f (trm J d) = if d ≤ J 78 1 then FP.fconst0 else FP.i2f (d - J 78 1) := by
        rw [t]
        by_cases c : d ≤ J 78 1
        · rw [if_pos c, if_pos c, z0f]
        · rw [if_neg c, if_neg c]
      rw [t2] at u2 u3
      exact ⟨ub_n u2, ub_n u3⟩
    have q0 : ¬ J 78 3 = 3 → ¬ J 78 3 = 5 → v_187 J = 0 := fun h3 h5 => by unfold v_187; rw [if_neg h3, if_pos h5]
    have q1 : J 78 3 = 3 ∨ J 78 3 = 5 → ¬ v_187 J = 0 := fun h => by
      unfold v_187
      rcases h with h | h <;> rw [h] <;> decide
    unfold g_26
    rw [a2, a4, e]
    dsimp only [bx]
    have k0 : ∀ {p : Prop} {x y : Int32}, x = y → ¬ x = y → p := fun h1 h2 => absurd h1 h2
    rcases kinds c4 with k | k | k | k | k | k
    · have m := n1 (q0 (by rw [k]; decide) (by rw [k]; decide))
      exact ⟨hv3, fun _ => m.1, fun q => k0 k q⟩
    · have m := n1 (q0 (by rw [k]; decide) (by rw [k]; decide))
      have d0 : ¬ J 78 3 = 0 := by rw [k]; decide
      exact ⟨hv3, fun q => k0 q d0, fun _ => ⟨fun _ => m, fun q => k0 k q⟩⟩
    · have d0 : ¬ J 78 3 = 0 := by rw [k]; decide
      have d1 : ¬ J 78 3 = 1 := by rw [k]; decide
      exact ⟨hv3, fun q => k0 q d0, fun _ => ⟨fun q => k0 q d1, fun _ => ⟨fun _ => trivial, fun q => k0 k q⟩⟩⟩
    · have m := n2 (q1 (Or.inl k))
      have d0 : ¬ J 78 3 = 0 := by rw [k]; decide
      have d1 : ¬ J 78 3 = 1 := by rw [k]; decide
      have d2 : ¬ J 78 3 = 2 := by rw [k]; decide
      exact ⟨hv3, fun q => k0 q d0, fun _ => ⟨fun q => k0 q d1, fun _ => ⟨fun q => k0 q d2, fun _ => ⟨fun _ => m, fun q => k0 k q⟩⟩⟩⟩
    · have d0 : ¬ J 78 3 = 0 := by rw [k]; decide
      have d1 : ¬ J 78 3 = 1 := by rw [k]; decide
      have d2 : ¬ J 78 3 = 2 := by rw [k]; decide
      have d3 : ¬ J 78 3 = 3 := by rw [k]; decide
      exact ⟨hv3, fun q => k0 q d0, fun _ => ⟨fun q => k0 q d1, fun _ => ⟨fun q => k0 q d2, fun _ => ⟨fun q => k0 q d3, fun _ => ⟨fun _ => trivial, fun q => k0 k q⟩⟩⟩⟩⟩
    · have m := n2 (q1 (Or.inr k))
      have d0 : ¬ J 78 3 = 0 := by rw [k]; decide
      have d1 : ¬ J 78 3 = 1 := by rw [k]; decide
      have d2 : ¬ J 78 3 = 2 := by rw [k]; decide
      have d3 : ¬ J 78 3 = 3 := by rw [k]; decide
      have d4 : ¬ J 78 3 = 4 := by rw [k]; decide
      exact ⟨hv3, fun q => k0 q d0, fun _ => ⟨fun q => k0 q d1, fun _ => ⟨fun q => k0 q d2, fun _ => ⟨fun q => k0 q d3, fun _ => ⟨fun q => k0 q d4, fun _ => m⟩⟩⟩⟩⟩
  · unfold g_222
    rw [ew hi]
    exact fun _ _ => ⟨ub_n u2, fun _ => ⟨hv7, ub_n u3⟩⟩
  · rw [hval, hflt]
    split
    · exact ⟨P, eP, by omega, ub_w u1 (by omega)⟩
    · split
      · split
        · exact ⟨P * P * w, e2, by omega, u3⟩
        · exact ⟨P * P, e1, by omega, ub_w u2 (by omega)⟩
      · exact ⟨P, eP, by omega, ub_w u1 (by omega)⟩
/-- a bound that is told low enough of a whole number -/
def okW (W X : Nat) : Prop := W * 16777200 ≤ (X - X / 8388608) * 16777216
theorem okW_small {X : Nat} (h : X < 8388608) : okW X X := by
  unfold okW
  rw [Nat.div_eq_of_lt h, Nat.sub_zero]
  exact Nat.mul_le_mul_left _ (by decide)
theorem ar1 {q S s E : Nat} (h1 : q * s ≤ S) (h6 : E ≤ 5 * s) : E * (2 * q) + s * (2 * q) ≤ 16 * S := by
  have a1 : E * (2 * q) ≤ 5 * s * (2 * q) := Nat.mul_le_mul_right _ h6
  have a2 : 5 * s * (2 * q) = 10 * (q * s) := by rw [Nat.mul_mul_mul_comm, Nat.mul_comm s q]
  have a3 : s * (2 * q) = 2 * (q * s) := by rw [Nat.mul_left_comm, Nat.mul_comm s q]
  omega
theorem ar2 {S s E : Nat} (h1 : 8388608 * s ≤ S) (h6 : E ≤ 5 * s) : (S + E) * 16777200 ≤ (S - s) * 16777216 := by
  have h := ar1 h1 h6
  have h2 : (2 * 8388608 : Nat) = 16777216 := rfl
  rw [h2] at h
  have h3 : S * 16777216 = S * 16777200 + 16 * S := by rw [show (16777216 : Nat) = 16777200 + 16 from rfl, Nat.mul_add, Nat.mul_comm S 16]
  have h4 : E * 16777200 ≤ E * 16777216 := Nat.mul_le_mul_left _ (by decide)
  rw [Nat.sub_mul, Nat.add_mul, h3]
  refine Nat.le_sub_of_add_le ?_
  rw [Nat.add_assoc]
  exact Nat.add_le_add_left (Nat.le_trans (Nat.add_le_add_right h4 _) h) _
theorem ar6 {A B C a b c s : Nat} (h1 : 8388608 * a ≤ A) (h2 : 8388608 * b ≤ B) (h3 : 8388608 * c ≤ C) (h4 : A + B + C < 8388608 * s + 8388608) : a + b + c ≤ s := by omega
theorem ar7 {x y u s : Nat} (h1 : 8388608 * u ≤ x) (h2 : x ≤ y + 1000) (h3 : y < 8388608 * s + 8388608) : u ≤ s + 1 := by omega
theorem ar8 {x u : Nat} (h1 : 8388608 * u ≤ x) (h2 : x ≤ 8388607) : u = 0 := by omega
theorem ar9 {x u : Nat} (h1 : 8388608 * u ≤ x) (h2 : x ≤ 35928036) : u ≤ 4 := by omega
theorem dv (x : Nat) : 8388608 * (x / 8388608) ≤ x ∧ x < 8388608 * (x / 8388608) + 8388608 := by omega
theorem okW_sum {A B C : Nat} (hA : A ≤ 35928036) (hB : B ≤ 35928036) (hC : C ≤ 35928036) : okW (A + A / 8388608 + (B + B / 8388608) + (A + A / 8388608 + (B + B / 8388608)) / 8388608 + (C + C / 8388608) + (A + A / 8388608 + (B + B / 8388608) + (A + A / 8388608 + (B + B / 8388608)) / 8388608 + (C + C / 8388608)) / 8388608) (A + B + C) := by
  have dA := dv A
  have dB := dv B
  have dC := dv C
  have dS := dv (A + B + C)
  have dU := dv (A + A / 8388608 + (B + B / 8388608))
  have dV := dv (A + A / 8388608 + (B + B / 8388608) + (A + A / 8388608 + (B + B / 8388608)) / 8388608 + (C + C / 8388608))
  obtain ⟨v, hv⟩ : ∃ v, v = (A + A / 8388608 + (B + B / 8388608) + (A + A / 8388608 + (B + B / 8388608)) / 8388608 + (C + C / 8388608)) / 8388608 := ⟨_, rfl⟩
  obtain ⟨u, hu⟩ : ∃ u, u = (A + A / 8388608 + (B + B / 8388608)) / 8388608 := ⟨_, rfl⟩
  rw [← hv] at dV ⊢
  rw [← hu] at dU dV ⊢
  obtain ⟨s, hs⟩ : ∃ s, s = (A + B + C) / 8388608 := ⟨_, rfl⟩
  obtain ⟨a, ha⟩ : ∃ a, a = A / 8388608 := ⟨_, rfl⟩
  obtain ⟨b, hb⟩ : ∃ b, b = B / 8388608 := ⟨_, rfl⟩
  obtain ⟨c, hc⟩ : ∃ c, c = C / 8388608 := ⟨_, rfl⟩
  rw [← hs] at dS
  rw [← ha] at dA dU dV ⊢
  rw [← hb] at dB dU dV ⊢
  rw [← hc] at dC dV ⊢
  clear hv hu ha hb hc
  have a4 := ar9 dA.1 hA
  have b4 := ar9 dB.1 hB
  have c4 := ar9 dC.1 hC
  have h6 := ar6 dA.1 dB.1 dC.1 dS.2
  have h7 : u ≤ s + 1 := ar7 (y := A + B + C) dU.1 (by clear dA dB dC dS dU dV; omega) dS.2
  have h12 : s ≤ 13 := by
    have := ar7 (x := A + B + C) (y := 107784108) (s := 12) dS.1 (by clear dA dB dC dS dU dV; omega) (by decide)
    omega
  have h8 : v ≤ s + 1 := ar7 (y := A + B + C) dV.1 (by clear dA dB dC dS dU dV; omega) dS.2
  have h9 : a + b + c + u + v ≤ 5 * s := by
    by_cases z : s = 0
    · subst z
      have h10 : a = 0 ∧ b = 0 ∧ c = 0 := by clear dA dB dC dS dU dV; omega
      obtain ⟨rfl, rfl, rfl⟩ := h10
      have h13 := dS.2
      have h11 : u = 0 := ar8 dU.1 (by clear dA dB dC dS dU dV; omega)
      subst h11
      have h12 : v = 0 := ar8 dV.1 (by clear dA dB dC dS dU dV; omega)
      subst h12
      exact Nat.le_refl _
    · clear dA dB dC dS dU dV; omega
  have h2 := ar2 dS.1 h9
  have e : A + a + (B + b) + u + (C + c) + v = A + B + C + (a + b + c + u + v) := by clear dA dB dC dS dU dV h2; omega
  unfold okW
  rw [e, ← hs]
  exact h2
theorem low_all (hA : kA b I J) {d e f : Int32} (hd : bt 0 1998 d) (he : bt 0 1998 e) (hf : bt 0 1998 f) : v_25 I (b + 1) d e f = v_221 J d e f ∧ g_25 I (b + 1) d e f ∧ g_221 J d e f ∧ ∃ w W X, v_221 J d e f = FP.fmul w 1065353200 ∧ ub w W ∧ (v_185 J d e f).toInt = ((X : Nat) : Int) ∧ X ≤ 107784108 ∧ okW W X := by
  obtain ⟨g0, r0, T0, t0, b0, u0⟩ := tf_ub hA (i := 0) (by omega) hd
  obtain ⟨g1, r1, T1, t1, b1, u1⟩ := tf_ub hA (i := 1) (by omega) he
  obtain ⟨g2, r2, T2, t2, b2, u2⟩ := tf_ub hA (i := 2) (by omega) hf
  have e0 := tf_eq hA (i := 0) (by omega) d
  have e1 := tf_eq hA (i := 1) (by omega) e
  have e2 := tf_eq hA (i := 2) (by omega) f
  have y0 : bt 0 35928036 (v_186 J d (nI 0)) := term_bt hA (by omega) hd
  have y1 : bt 0 35928036 (v_186 J e (nI 1)) := term_bt hA (by omega) he
  have y2 : bt 0 35928036 (v_186 J f (nI 2)) := term_bt hA (by omega) hf
  have s1 := add_bt y0 y1 (by decide)
  have s2 := add_bt s1.2 y2 (by decide)
  have cap := hA.2.2.2.1
  obtain ⟨⟨-, -, a3, a4, -⟩, -, -, -, c4, -⟩ := hA
  have e0 : v_26 I (b + 1) 0 d = v_222 J d 0 := e0
  have e1 : v_26 I (b + 1) 1 e = v_222 J e 1 := e1
  have e2 : v_26 I (b + 1) 2 f = v_222 J f 2 := e2
  have g0 : g_26 I (b + 1) 0 d := g0
  have g1 : g_26 I (b + 1) 1 e := g1
  have g2 : g_26 I (b + 1) 2 f := g2
  have r0 : g_222 J d 0 := r0
  have r1 : g_222 J e 1 := r1
  have r2 : g_222 J f 2 := r2
  have u0 : ub (v_222 J d 0) (T0 + T0 / 8388608) := u0
  have u1 : ub (v_222 J e 1) (T1 + T1 / 8388608) := u1
  have u2 : ub (v_222 J f 2) (T2 + T2 / 8388608) := u2
  have v1 := ub_add u0 u1 (by omega)
  have v2 := ub_add v1 u2 (by omega)
  have lo : ∀ {w W}, ub w W → W ≤ 150000000 → vf_n32 (FP.fmul w 1065353200) := fun {w W} h hW => by
    have hk : ub 1065353200 1 := ⟨⟨_, _, klo.1⟩, by rw [klo.2]; decide⟩
    exact ub_n (ub_mul h hk (by omega))
  have hs : (v_186 J d 0 + v_186 J e 1 + v_186 J f 2).toInt = ((T0 + T1 + T2 : Nat) : Int) := by
    have s11 : (v_186 J d 0 + v_186 J e 1).toInt = (v_186 J d 0).toInt + (v_186 J e 1).toInt := s1.1
    have s22 : (v_186 J d 0 + v_186 J e 1 + v_186 J f 2).toInt = (v_186 J d 0 + v_186 J e 1).toInt + (v_186 J f 2).toInt := s2.1
    have t0 : (v_186 J d 0).toInt = T0 := t0
    have t1 : (v_186 J e 1).toInt = T1 := t1
    have t2 : (v_186 J f 2).toInt = T2 := t2
    rw [s22, s11, t0, t1, t2]; omega
  have hsum := okW_sum b0 b1 b2
  have hadd : ¬ J 78 3 = 4 → ¬ J 78 3 = 2 → ¬ J 78 3 = 5 → v_25 I (b + 1) d e f = v_221 J d e f ∧ g_25 I (b + 1) d e f ∧ g_221 J d e f ∧ ∃ w W X, v_221 J d e f = FP.fmul w 1065353200 ∧ ub w W ∧ (v_185 J d e f).toInt = ((X : Nat) : Int) ∧ X ≤ 107784108 ∧ okW W X := by
    intro n4 n2 n5
    have c27 : ∀ x y, v_27 I (b + 1) x y = FP.fadd x y := fun x y => by unfold v_27; rw [a4, if_pos n4]
    have c28 : ∀ x, v_28 I (b + 1) x = x := fun x => by unfold v_28; rw [a4, if_pos n2, if_pos n4, if_pos n5]
    have h21 : v_221 J d e f = FP.fmul (FP.fadd (FP.fadd (v_222 J d 0) (v_222 J e 1)) (v_222 J f 2)) 1065353200 := by
      unfold v_221
      rw [if_pos n4, if_pos n2, if_pos n5]
      rfl
    have h25 : v_25 I (b + 1) d e f = FP.fmul (FP.fadd (FP.fadd (v_222 J d 0) (v_222 J e 1)) (v_222 J f 2)) 1065353200 := by
      unfold v_25
      rw [e0, e1, e2, c27, c27, c28]
    refine ⟨h25.trans h21.symm, ?_, ?_, _, _, T0 + T1 + T2, h21, v2, ?_, by omega, hsum⟩
    · unfold g_25 g_27 g_28
      rw [e0, e1, e2, c27, c27, c28, a4]
      exact ⟨g0, g1, fun _ => ub_n v1, g2, fun _ => ub_n v2, ⟨fun _ q => absurd n4 q, fun q => absurd n2 q⟩, lo v2 (by omega)⟩
    · unfold g_221
      refine ⟨r0, r1, r2, ⟨fun _ => ⟨ub_n v1, ub_n v2, fun q => absurd n2 q⟩, fun q => absurd n4 q⟩, ?_⟩
      rw [if_pos n4, if_pos n2, if_pos n5]
      exact lo v2 (by omega)
    · unfold v_185
      rw [if_pos n4, if_pos n2, if_pos n5]
      exact hs
  rcases kinds c4 with k | k | k | k | k | k
  · exact hadd (by rw [k]; decide) (by rw [k]; decide) (by rw [k]; decide)
  · exact hadd (by rw [k]; decide) (by rw [k]; decide) (by rw [k]; decide)
  · -- blocks
    have n4 : ¬ J 78 3 = 4 := by rw [k]; decide
    have y2 : ¬ ¬ J 78 3 = 2 := fun q => q k
    have c27 : ∀ x y, v_27 I (b + 1) x y = FP.fadd x y := fun x y => by unfold v_27; rw [a4, if_pos n4]
    have c28 : ∀ x, v_28 I (b + 1) x = FP.fmul 1082130432 x := fun x => by unfold v_28; rw [a4, if_neg y2]
    have h21 : v_221 J d e f = FP.fmul (FP.fmul 1082130432 (FP.fadd (FP.fadd (v_222 J d 0) (v_222 J e 1)) (v_222 J f 2))) 1065353200 := by
      unfold v_221
      rw [if_pos n4, if_neg y2]
      rfl
    have h25 : v_25 I (b + 1) d e f = FP.fmul (FP.fmul 1082130432 (FP.fadd (FP.fadd (v_222 J d 0) (v_222 J e 1)) (v_222 J f 2))) 1065353200 := by
      unfold v_25
      rw [e0, e1, e2, c27, c27, c28]
    have td : ∀ x i, v_186 J x i = x := fun x i => term_d (Or.inl k)
    have t0 : (v_186 J d 0).toInt = T0 := t0
    have t1 : (v_186 J e 1).toInt = T1 := t1
    have t2 : (v_186 J f 2).toInt = T2 := t2
    rw [td] at t0 t1 t2
    have h0 : T0 ≤ 1998 := by have := hd.2; omega
    have h1 : T1 ≤ 1998 := by have := he.2; omega
    have h2 : T2 ≤ 1998 := by have := hf.2; omega
    have w0 : ub (v_222 J d 0) T0 := ub_w u0 (by omega)
    have w1 : ub (v_222 J e 1) T1 := ub_w u1 (by omega)
    have w2 : ub (v_222 J f 2) T2 := ub_w u2 (by omega)
    have z1 : ub (FP.fadd (v_222 J d 0) (v_222 J e 1)) (T0 + T1) := ub_w (ub_add w0 w1 (by omega)) (by omega)
    have z2 : ub (FP.fadd (FP.fadd (v_222 J d 0) (v_222 J e 1)) (v_222 J f 2)) (T0 + T1 + T2) := ub_w (ub_add z1 w2 (by omega)) (by omega)
    have z3 : ub (FP.fmul 1082130432 (FP.fadd (FP.fadd (v_222 J d 0) (v_222 J e 1)) (v_222 J f 2))) (4 * (T0 + T1 + T2)) := ub_w (ub_mul ub4 z2 (by omega)) (by omega)
    refine ⟨h25.trans h21.symm, ?_, ?_, _, _, 4 * (T0 + T1 + T2), h21, z3, ?_, by omega, okW_small (by omega)⟩
    · unfold g_25 g_27 g_28
      rw [e0, e1, e2, c27, c27, c28, a4]
      exact ⟨g0, g1, fun _ => ub_n z1, g2, fun _ => ub_n z2, ⟨fun q => absurd q y2, fun _ => ub_n z3⟩, lo z3 (by omega)⟩
    · unfold g_221
      refine ⟨r0, r1, r2, ⟨fun _ => ⟨ub_n z1, ub_n z2, fun _ => ub_n z3⟩, fun q => absurd n4 q⟩, ?_⟩
      rw [if_pos n4, if_neg y2]
      exact lo z3 (by omega)
    · unfold v_185
      rw [if_pos n4, if_neg y2]
      have t4 : (4 : Int32).toInt = 4 := by decide
      rw [ti_mul (by rw [t4]; omega) (by rw [t4]; omega), hs, t4]; omega
  · exact hadd (by rw [k]; decide) (by rw [k]; decide) (by rw [k]; decide)
  · -- the most
    have y4 : ¬ ¬ J 78 3 = 4 := fun q => q k
    have n2 : ¬ J 78 3 = 2 := by rw [k]; decide
    have tf : ∀ x i, v_222 J x i = FP.i2f x := fun x i => tfr (Or.inr k) x i
    have td : ∀ x i, v_186 J x i = x := fun x i => term_d (Or.inr k)
    have hm1 := max_bt hd he
    have hm2 := max_bt hm1 hf
    have c27 : ∀ x y, v_27 I (b + 1) x y = if Op.cmpValue (FP.fcmp x y) .l < 0 then y else x := fun x y => by unfold v_27; rw [a4, if_neg y4]
    have c28 : ∀ x, v_28 I (b + 1) x = FP.fadd (FP.fmul 1082130432 x) FP.fconst1 := fun x => by unfold v_28; rw [a4, if_pos n2, if_neg y4]
    have c271 : v_27 I (b + 1) (FP.i2f d) (FP.i2f e) = FP.i2f (if d ≤ e then e else d) := (c27 _ _).trans (mxf hd he).1
    have c272 : v_27 I (b + 1) (FP.i2f (if d ≤ e then e else d)) (FP.i2f f) = FP.i2f (if (if d ≤ e then e else d) ≤ f then f else (if d ≤ e then e else d)) := (c27 _ _).trans (mxf hm1 hf).1
    have h25 : v_25 I (b + 1) d e f = FP.fmul (FP.fadd (FP.fmul 1082130432 (FP.i2f (if (if d ≤ e then e else d) ≤ f then f else (if d ≤ e then e else d)))) FP.fconst1) 1065353200 := by
      unfold v_25
      rw [e0, e1, e2, tf, tf, tf, c271, c272, c28]
    have h21 : v_221 J d e f = FP.fmul (FP.fadd (FP.fmul 1082130432 (FP.i2f (if (if d ≤ e then e else d) ≤ f then f else (if d ≤ e then e else d)))) FP.fconst1) 1065353200 := by
      unfold v_221
      rw [if_neg y4, tf, tf, tf, (mxf hd he).2]
      dsimp only [bx]
      rw [(mxf hm1 hf).2]
    obtain ⟨M, hM⟩ : ∃ M, M = (if (if d ≤ e then e else d) ≤ f then f else (if d ≤ e then e else d)) := ⟨_, rfl⟩
    rw [← hM] at h25 h21 hm2
    obtain ⟨m1, m2⟩ := hm2
    have z1 : ub (FP.i2f M) M.toInt.toNat := ub_i2f (by omega) (by omega)
    have z2 : ub (FP.fmul 1082130432 (FP.i2f M)) (4 * M.toInt.toNat) := ub_w (ub_mul ub4 z1 (by omega)) (by omega)
    have z3 : ub (FP.fadd (FP.fmul 1082130432 (FP.i2f M)) FP.fconst1) (4 * M.toInt.toNat + 1) := ub_w (ub_add z2 ub1 (by omega)) (by omega)
    refine ⟨h25.trans h21.symm, ?_, ?_, _, _, 4 * M.toInt.toNat + 1, h21, z3, ?_, by omega, okW_small (by omega)⟩
    · unfold g_25 g_27 g_28
      rw [e0, e1, e2, tf, tf, tf, c271, c272, c28, ← hM, a4]
      exact ⟨g0, g1, fun q => absurd q y4, g2, fun q => absurd q y4, ⟨fun _ _ => ⟨ub_n z2, ub_n z3⟩, fun q => absurd n2 q⟩, lo z3 (by omega)⟩
    · unfold g_221
      refine ⟨r0, r1, r2, ⟨fun q => absurd q y4, fun _ => ?_⟩, ?_⟩
      · rw [tf, tf, tf, (mxf hd he).2]
        dsimp only [bx]
        rw [(mxf hm1 hf).2, ← hM]
        exact ⟨ub_n z2, ub_n z3⟩
      · have h4 : vf_n32 (v_221 J d e f) := by rw [h21]; exact lo z3 (by omega)
        exact h4
    · unfold v_185
      rw [if_neg y4, td, td, td]
      dsimp only [bx]
      rw [← hM]
      have t4 : (4 : Int32).toInt = 4 ∧ (1 : Int32).toInt = 1 := by decide
      have q1 : (4 * M).toInt = 4 * M.toInt := by rw [ti_mul (by rw [t4.1]; omega) (by rw [t4.1]; omega), t4.1]
      rw [ti_add (by rw [q1, t4.2]; omega) (by rw [q1, t4.2]; omega), q1, t4.2]
      omega
  · -- no more than the cap
    have n4 : ¬ J 78 3 = 4 := by rw [k]; decide
    have n2 : ¬ J 78 3 = 2 := by rw [k]; decide
    have y5 : ¬ ¬ J 78 3 = 5 := fun q => q k
    obtain ⟨p1, p2⟩ := cap
    obtain ⟨S, hS⟩ : ∃ S, S = FP.fadd (FP.fadd (v_222 J d 0) (v_222 J e 1)) (v_222 J f 2) := ⟨_, rfl⟩
    have c27 : ∀ x y, v_27 I (b + 1) x y = FP.fadd x y := fun x y => by unfold v_27; rw [a4, if_pos n4]
    have c28 : ∀ x, v_28 I (b + 1) x = if Op.cmpValue (FP.fcmp x (FP.i2f (J 78 2))) .l ≤ 0 then x else FP.i2f (J 78 2) := fun x => by unfold v_28; rw [a4, a3, if_pos n2, if_pos n4, if_neg y5]
    have h21 : v_221 J d e f = FP.fmul (if Op.cmpValue (FP.fcmp S (FP.i2f (J 78 2))) .l ≤ 0 then S else FP.i2f (J 78 2)) 1065353200 := by
      unfold v_221
      rw [if_pos n4, if_pos n2, if_neg y5, ← hS]
      rfl
    have h25 : v_25 I (b + 1) d e f = FP.fmul (if Op.cmpValue (FP.fcmp S (FP.i2f (J 78 2))) .l ≤ 0 then S else FP.i2f (J 78 2)) 1065353200 := by
      unfold v_25
      rw [e0, e1, e2, c27, c27, ← hS, c28]
    have uc : ub (FP.i2f (J 78 2)) (J 78 2).toInt.toNat := ub_i2f (by omega) (by omega)
    have us := v2
    rw [← hS] at us
    -- the smaller of both
    have hmin : ∃ W X, ub (if Op.cmpValue (FP.fcmp S (FP.i2f (J 78 2))) .l ≤ 0 then S else FP.i2f (J 78 2)) W ∧ (v_185 J d e f).toInt = ((X : Nat) : Int) ∧ X ≤ 107784108 ∧ okW W X ∧ W ≤ 150000000 := by
      have hx : v_185 J d e f = if v_186 J d 0 + v_186 J e 1 + v_186 J f 2 ≤ J 78 2 then v_186 J d 0 + v_186 J e 1 + v_186 J f 2 else J 78 2 := by
        unfold v_185
        rw [if_pos n4, if_pos n2, if_neg y5]
      rw [hx]
      have hcc : v_186 J d 0 + v_186 J e 1 + v_186 J f 2 ≤ J 78 2 ↔ ((T0 + T1 + T2 : Nat) : Int) ≤ (J 78 2).toInt := by rw [Int32.le_iff_toInt_le, hs]
      obtain ⟨-, K, k1, k2⟩ := i2f_lb (n := J 78 2) (N := (J 78 2).toInt.toNat) (by omega) (by omega)
      by_cases c : ((T0 + T1 + T2 : Nat) : Int) ≤ (J 78 2).toInt
      · rw [if_pos (hcc.mpr c)]
        have us' : ub S (T0 + T1 + T2) := ub_w us (by omega)
        refine ⟨T0 + T1 + T2, T0 + T1 + T2, ?_, hs, by omega, okW_small (by omega), by omega⟩
        by_cases g : Op.cmpValue (FP.fcmp S (FP.i2f (J 78 2))) .l ≤ 0
        · rw [if_pos g]; exact us'
        · exfalso
          have g2 := Classical.not_not.mp (fun z => g (cmp_le0.mpr z))
          obtain ⟨-, -, g3⟩ := FP.Core.fcmp_gt.mp g2
          obtain ⟨⟨c1, q1, hv1⟩, hz1⟩ := us'
          obtain ⟨c2, q2, hv2⟩ := uc.1
          have f1 : FP.Core.zval FP.Core.b32 (FP.Core.val32 S) = ((FP.Core.zmag FP.Core.b32 (FP.Core.val32 S) : Nat) : Int) := by rw [hv1]; rfl
          have f2 : FP.Core.zval FP.Core.b32 (FP.Core.val32 (FP.i2f (J 78 2))) = ((FP.Core.zmag FP.Core.b32 (FP.Core.val32 (FP.i2f (J 78 2))) : Nat) : Int) := by rw [hv2]; rfl
          have g3 : FP.Core.zval FP.Core.b32 (FP.Core.val32 (FP.i2f (J 78 2))) < FP.Core.zval FP.Core.b32 (FP.Core.val32 S) := g3
          rw [f1, f2] at g3
          have g4 := Int.ofNat_lt.mp g3
          have l1 : (T0 + T1 + T2) * 2 ^ 149 ≤ (J 78 2).toInt.toNat * 2 ^ 149 := Nat.mul_le_mul_right _ (by omega)
          have hKe : (J 78 2).toInt.toNat * 2 ^ 149 ≤ K * 2 ^ 149 := Nat.mul_le_mul_right _ (by omega)
          exact absurd (Nat.lt_of_lt_of_le g4 (Nat.le_trans hz1 (Nat.le_trans l1 (Nat.le_trans hKe k1)))) (Nat.lt_irrefl _)
      · rw [if_neg (fun q => c (hcc.mp q))]
        refine ⟨(J 78 2).toInt.toNat, (J 78 2).toInt.toNat, ?_, by omega, by omega, okW_small (by omega), by omega⟩
        by_cases g : Op.cmpValue (FP.fcmp S (FP.i2f (J 78 2))) .l ≤ 0
        · rw [if_pos g]
          have g2 := cmp_le0.mp g
          obtain ⟨c1, q1, hv1⟩ := us.1
          obtain ⟨c2, q2, hv2⟩ := uc.1
          have f1 : FP.Core.zval FP.Core.b32 (FP.Core.val32 S) = ((FP.Core.zmag FP.Core.b32 (FP.Core.val32 S) : Nat) : Int) := by rw [hv1]; rfl
          have f2 : FP.Core.zval FP.Core.b32 (FP.Core.val32 (FP.i2f (J 78 2))) = ((FP.Core.zmag FP.Core.b32 (FP.Core.val32 (FP.i2f (J 78 2))) : Nat) : Int) := by rw [hv2]; rfl
          have hle : FP.Core.zmag FP.Core.b32 (FP.Core.val32 S) ≤ FP.Core.zmag FP.Core.b32 (FP.Core.val32 (FP.i2f (J 78 2))) := by
            refine Nat.le_of_not_lt fun hlt => g2 (FP.Core.fcmp_gt.mpr ⟨by rw [hv1]; exact FP.Core.Datum.noConfusion, by rw [hv2]; exact FP.Core.Datum.noConfusion, ?_⟩)
            rw [f1]
            exact Int.lt_of_le_of_lt (Int.le_of_eq f2) (Int.ofNat_lt.mpr hlt)
          exact ⟨us.1, Nat.le_trans hle uc.2⟩
        · rw [if_neg g]; exact uc
    obtain ⟨W, X, w1, w2, w3, w4, w5⟩ := hmin
    refine ⟨h25.trans h21.symm, ?_, ?_, _, W, X, h21, w1, w2, w3, w4⟩
    · unfold g_25 g_27 g_28
      rw [e0, e1, e2, c27, c27, ← hS, c28, a4]
      exact ⟨g0, g1, fun _ => ub_n v1, g2, fun _ => ub_n us, ⟨fun _ q => absurd n4 q, fun q => absurd n2 q⟩, lo w1 w5⟩
    · unfold g_221
      refine ⟨r0, r1, r2, ⟨fun _ => ⟨ub_n v1, ub_n v2, fun q => absurd n2 q⟩, fun q => absurd n4 q⟩, ?_⟩
      have h4 : vf_n32 (v_221 J d e f) := by rw [h21]; exact lo w1 w5
      exact h4
end
