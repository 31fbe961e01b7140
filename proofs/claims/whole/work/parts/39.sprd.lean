section
variable {b nv nc tc : Nat} {I J : WI}
/-! how far the present lie from their cells, in squares -/
theorem sq78 {x y : Int32} (f : Nat) (hp : ¬ v_180 J x = 0) : lp_233_78 J x (f + 4) y 0 = y + (J 84 (3 * x + 0).toNatClampNeg - J 80 (3 * J 86 x.toNatClampNeg + 0).toNatClampNeg) * (J 84 (3 * x + 0).toNatClampNeg - J 80 (3 * J 86 x.toNatClampNeg + 0).toNatClampNeg) +
    (J 84 (3 * x + 1).toNatClampNeg - J 80 (3 * J 86 x.toNatClampNeg + 1).toNatClampNeg) * (J 84 (3 * x + 1).toNatClampNeg - J 80 (3 * J 86 x.toNatClampNeg + 1).toNatClampNeg) +
    (J 84 (3 * x + 2).toNatClampNeg - J 80 (3 * J 86 x.toNatClampNeg + 2).toNatClampNeg) * (J 84 (3 * x + 2).toNatClampNeg - J 80 (3 * J 86 x.toNatClampNeg + 2).toNatClampNeg) := by
  have st : ∀ f y z, lp_233_78 J x (f + 1) y z = if 3 ≤ z then y else if v_180 J x = 0 then y else lp_233_78 J x f (y + (J 84 (3 * x + z).toNatClampNeg - J 80 (3 * J 86 x.toNatClampNeg + z).toNatClampNeg) * (J 84 (3 * x + z).toNatClampNeg - J 80 (3 * J 86 x.toNatClampNeg + z).toNatClampNeg)) (z + 1) := fun _ _ _ => rfl
  have s1 : (0 : Int32) + 1 = 1 := by decide
  have s2 : (1 : Int32) + 1 = 2 := by decide
  have s3 : (2 : Int32) + 1 = 3 := by decide
  rw [st, if_neg (show ¬ (3 : Int32) ≤ 0 by decide), if_neg hp, s1, st, if_neg (show ¬ (3 : Int32) ≤ 1 by decide), if_neg hp, s2, st, if_neg (show ¬ (3 : Int32) ≤ 2 by decide), if_neg hp, s3, st, if_pos (show (3 : Int32) ≤ 3 by decide)]
theorem sq59 {v c : Int32} : lp_59_5 I b v c 0 3 = 0 + (I (b + 7) (3 * v + nI 0).toNatClampNeg - I (b + 4) (3 * c + nI 0).toNatClampNeg) * (I (b + 7) (3 * v + nI 0).toNatClampNeg - I (b + 4) (3 * c + nI 0).toNatClampNeg) +
    (I (b + 7) (3 * v + nI 1).toNatClampNeg - I (b + 4) (3 * c + nI 1).toNatClampNeg) * (I (b + 7) (3 * v + nI 1).toNatClampNeg - I (b + 4) (3 * c + nI 1).toNatClampNeg) +
    (I (b + 7) (3 * v + nI 2).toNatClampNeg - I (b + 4) (3 * c + nI 2).toNatClampNeg) * (I (b + 7) (3 * v + nI 2).toNatClampNeg - I (b + 4) (3 * c + nI 2).toNatClampNeg) := rfl
theorem spread_lp (hC : kC b nc I J) (hP : kP b I J) (hV : kV b nv nc I J) : ∀ k, k ≤ nv → lp_77_4 I b 0 k = lp_233_66 J 0 k := by
  have h4 := hC.1
  have h12 := hV.1
  intro k
  induction k with
  | zero => intro _; rfl
  | succ k ih =>
    intro hk
    have ih := ih (by omega)
    have e1 : lp_77_4 I b 0 (k + 1) = if v_61 I b (nI k) = 0 then lp_77_4 I b 0 k else if I (b + 9) (nI k).toNatClampNeg = -1 then lp_77_4 I b 0 k else lp_77_4 I b 0 k + lp_59_5 I b (nI k) (I (b + 9) (nI k).toNatClampNeg) 0 3 := rfl
    have e2 : lp_233_66 J 0 (k + 1) = lp_233_78 J (nI k) (396 + 4) (lp_233_66 J 0 k) 0 := rfl
    rw [e1, e2, ih]
    have th := there_eq hV h4 (v := k) (by omega)
    have hv := (hV.2.2.2.1 k (by omega)).2.2
    rcases th with ⟨t1, ⟨t2, t3, c, hc, hcv⟩ | ⟨t2, t3⟩⟩
    · rw [sq78 396 (by rw [← t1, t2]; exact d10)]
      simp only [cl (show k < 2 ^ 31 by omega)]
      rw [t2, if_neg d10, hv, hcv, if_neg (nIm1 (by omega)), sq59]
      have p0 := (hP (3 * k + 0) (by omega)).1
      have p1 := (hP (3 * k + 1) (by omega)).1
      have p2 := (hP (3 * k + 2) (by omega)).1
      have q0 := (hC.2.2.2 (3 * c + 0) (by omega)).1
      have q1 := (hC.2.2.2 (3 * c + 1) (by omega)).1
      have q2 := (hC.2.2.2 (3 * c + 2) (by omega)).1
      have z0 : (0 : Int32) = nI 0 := rfl
      have z1 : (1 : Int32) = nI 1 := rfl
      have z2 : (2 : Int32) = nI 2 := rfl
      rw [z1, z2, z0]
      simp only [n30, nI_add, cl (show 3 * k + 0 < 2 ^ 31 by omega), cl (show 3 * k + 1 < 2 ^ 31 by omega), cl (show 3 * k + 2 < 2 ^ 31 by omega), cl (show 3 * c + 0 < 2 ^ 31 by omega), cl (show 3 * c + 1 < 2 ^ 31 by omega), cl (show 3 * c + 2 < 2 ^ 31 by omega), p0, p1, p2, q0, q1, q2]
      have zz : ∀ x : Int32, nI 0 + x = x := fun x => Int32.zero_add x
      rw [zz]
      simp only [Int32.add_assoc]
    · have e3 : lp_233_78 J (nI k) (396 + 4) (lp_233_66 J 0 k) 0 = if (3 : Int32) ≤ 0 then lp_233_66 J 0 k else if v_180 J (nI k) = 0 then lp_233_66 J 0 k else lp_233_78 J (nI k) 399 (lp_233_66 J 0 k + (J 84 (3 * nI k + 0).toNatClampNeg - J 80 (3 * J 86 (nI k).toNatClampNeg + 0).toNatClampNeg) * (J 84 (3 * nI k + 0).toNatClampNeg - J 80 (3 * J 86 (nI k).toNatClampNeg + 0).toNatClampNeg)) (0 + 1) := rfl
      rw [e3, if_neg (show ¬ (3 : Int32) ≤ 0 by decide), ← t1, t2, if_pos rfl, if_pos rfl]
end
