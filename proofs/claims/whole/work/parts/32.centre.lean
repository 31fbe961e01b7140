section
variable {b nv nc tc : Nat} {I J : WI}
theorem sums {m c i : Nat} (h12 : nv ≤ 12) (hm : m < 2 ^ nv) (hP : kP b I J) (hw : ∀ j, j < nv → m.testBit j = decide (J 86 j = nI c)) (hi : i < 3) : ∀ k, k ≤ nv →
    lp_75_35 I b (nI m) (nI i) 0 k = (lp_232_39 J (nI c) (nI i) 0 0 k).1 ∧ (lp_232_39 J (nI c) (nI i) 0 0 k).2 = nI (pc m k) ∧
      -999 * (pc m k : Int) ≤ (lp_232_39 J (nI c) (nI i) 0 0 k).1.toInt ∧ (lp_232_39 J (nI c) (nI i) 0 0 k).1.toInt ≤ 999 * (pc m k : Int) ∧ pc m k ≤ k := by
  intro k
  induction k with
  | zero => intro _; exact ⟨rfl, rfl, by show -999 * ((0 : Nat) : Int) ≤ (0 : Int32).toInt; decide, by show (0 : Int32).toInt ≤ 999 * ((0 : Nat) : Int); decide, Nat.le_refl _⟩
  | succ k ih =>
    intro hk
    obtain ⟨i1, i2, i3, i4, i5⟩ := ih (by omega)
    simp only [lp_75_35, lp_232_39, bx, cl (show k < 2 ^ 31 by omega), n30, nI_add, cl (show 3 * k + i < 2 ^ 31 by omega)]
    rw [v111_eq (p12 hm h12) (by omega), hw k (by omega)]
    have hp := hP (3 * k + i) (by omega)
    rw [hp.1]
    generalize lp_75_35 I b (nI m) (nI i) 0 k = A at i1
    generalize lp_232_39 J (nI c) (nI i) 0 0 k = R at i1 i2 i3 i4
    have e : pc m (k + 1) = pc m k + if m.testBit k then 1 else 0 := rfl
    rw [e, hw k (by omega)]
    by_cases z : J 86 k = nI c
    · rw [decide_eq_true z, if_pos rfl, if_neg d10, if_neg (fun a => a z), if_neg (fun a => a z), if_pos rfl]
      have hb := hp.2
      unfold bt at hb
      have ea : (R.1 + J 84 (3 * k + i)).toInt = R.1.toInt + (J 84 (3 * k + i)).toInt := ti_add (by omega) (by omega)
      refine ⟨by rw [i1], ?_, ?_, ?_, by omega⟩
      · show R.2 + 1 = nI (pc m k + 1)
        rw [i2, show (1 : Int32) = nI 1 from rfl, nI_add]
      · show _ ≤ (R.1 + J 84 (3 * k + i)).toInt
        rw [ea]; omega
      · show (R.1 + J 84 (3 * k + i)).toInt ≤ _
        rw [ea]; omega
    · rw [decide_eq_false z, if_neg (show ¬ false = true by decide), if_pos rfl, if_pos z, if_pos z, if_neg (show ¬ false = true by decide)]
      have ea : R.1 + 0 = R.1 := by
        have t0 : (0 : Int32).toInt = 0 := by decide
        exact Int32.toInt_inj.mp (by rw [ti_add (by omega) (by omega)]; omega)
      have eb : R.2 + 0 = R.2 := by rw [i2, show (0 : Int32) = nI 0 from rfl, nI_add]; rfl
      refine ⟨by rw [i1], ?_, ?_, ?_, by omega⟩
      · show R.2 + 0 = nI (pc m k + 0)
        rw [eb]; exact i2
      · show _ ≤ (R.1 + 0).toInt
        rw [ea]; omega
      · show (R.1 + 0).toInt ≤ _
        rw [ea]; omega
theorem up2_same {A : WI} {q j : Nat} : ∀ q' j', up2 A q j (A q j) q' j' = A q' j' := fun q' j' => by
  by_cases z : q' = q ∧ j' = j
  · obtain ⟨rfl, rfl⟩ := z
    simp [up2]
  · rw [up2_nk z]
/-- one cell goes to the middle of its own -/
theorem cen {c : Nat} (hc : c < nc) (hC : kC b nc I J) (hP : kP b I J) (h12 : nv ≤ 12) (h8 : I b 8 = nI nv) (h18 : J 74 18 = nI nv) (hw : ∀ j, j < nv → (I (b + 9) j = nI c ↔ J 86 j = nI c)) :
    g_75 I b (nI c) ∧ gl_232_24 J (nI c) 0 3 ∧ (v_75 I b (nI c)).1 = (lp_232_24 J (nI c) 0 3).1 ∧ ((lp_232_24 J (nI c) 0 3).1 = 0 ∨ (lp_232_24 J (nI c) 0 3).1 = 1) ∧ kC b nc (v_75 I b (nI c)).2 (lp_232_24 J (nI c) 0 3).2 ∧
      (∀ q j, q ≠ b + 4 → (v_75 I b (nI c)).2 q j = I q j) ∧ (∀ q j, q ≠ 80 → (lp_232_24 J (nI c) 0 3).2 q j = J q j) := by
  have h4 := hC.1
  obtain ⟨m, m1, m2, m3⟩ := mask (I := I) (b := b) (c := c) nv h12
  have m4 : ∀ j, j < nv → m.testBit j = decide (J 86 j = nI c) := fun j hj => by
    rw [m3 j hj]
    exact decide_eq_decide.mpr (hw j hj)
  have e66 : v_66 I b (nI c) = nI m := by
    unfold v_66
    simp only [bx, h8, cl (show nv < 2 ^ 31 by omega)]
    exact m2
  have epop := pop m1 h12
  have g66 : g_66 I b (nI c) := by
    unfold g_66
    rw [h8, cl (show nv < 2 ^ 31 by omega)]
    exact fun k hk => vin (by omega) (by omega)
  have s0 := sums h12 m1 hP m4 (i := 0) (by omega) nv (Nat.le_refl _)
  have hn := s0.2.2.2.2
  clear s0
  -- what the reference's pass does to a state like J
  have pass : ∀ k, k < 3 → ∀ (A R : WI), kP b A R → R 74 18 = nI nv → (∀ j, R 86 j = J 86 j) → A b 8 = nI nv →
      gl_232_39 R (nI c) (nI k) 0 0 (R 74 18).toNatClampNeg ∧ gl_75_35 A b (nI m) (nI k) 0 (A b 8).toNatClampNeg ∧
      (lp_232_39 R (nI c) (nI k) 0 0 (R 74 18).toNatClampNeg).2 = nI (pc m nv) ∧ lp_75_35 A b (nI m) (nI k) 0 (A b 8).toNatClampNeg = (lp_232_39 R (nI c) (nI k) 0 0 (R 74 18).toNatClampNeg).1 ∧
      (¬ pc m nv = 0 → v_284 (lp_75_35 A b (nI m) (nI k) 0 (A b 8).toNatClampNeg) (nI (pc m nv)) = v_212 (lp_232_39 R (nI c) (nI k) 0 0 (R 74 18).toNatClampNeg).1 (nI (pc m nv)) ∧ bt (-999) 999 (v_212 (lp_232_39 R (nI c) (nI k) 0 0 (R 74 18).toNatClampNeg).1 (nI (pc m nv)))) := by
    intro k hk A R hP' h1 h2 h3
    rw [h1, h3, cl (show nv < 2 ^ 31 by omega)]
    have s := sums h12 m1 hP' (fun j hj => by rw [h2 j]; exact m4 j hj) hk nv (Nat.le_refl _)
    refine ⟨fun j hj => ⟨vin (by omega) (by omega), ?_, vin (by omega) (by omega)⟩, fun j hj => ?_, s.2.1, s.1, fun hz => ?_⟩
    · intro _
      rw [n30, nI_add]
      exact vin (by omega) (by omega)
    · intro _
      rw [n30, nI_add]
      exact vin (by omega) (by omega)
    · rw [s.1]
      have tn : (nI (pc m nv)).toInt = (pc m nv : Int) := nI_toInt (by omega)
      exact flo (by rw [tn]; omega) (by rw [tn]; omega) (by rw [tn]; exact s.2.2.1) (by rw [tn]; exact s.2.2.2.1)
  have vi3 : ∀ k, k < 3 → vp_in (3 * nI c + nI k) 12 := fun k hk => by
    rw [n30, nI_add]
    exact vin (by omega) (by omega)
  by_cases hz : pc m nv = 0
  · -- nobody there
    have z0 : nI (pc m nv) = 0 := by rw [hz]; rfl
    have ev : v_75 I b (nI c) = (0, I) := by
      unfold v_75
      rw [e66, epop, z0, if_neg d00]
    have inv : ∀ k, k ≤ 3 → (lp_232_24 J (nI c) 0 k).1 = 0 ∧ (∀ q j, (lp_232_24 J (nI c) 0 k).2 q j = J q j) := by
      intro k
      induction k with
      | zero => intro _; exact ⟨rfl, fun _ _ => rfl⟩
      | succ k ih =>
        intro hk
        obtain ⟨i1, i2⟩ := ih (by omega)
        simp only [lp_232_24, bx]
        generalize lp_232_24 J (nI c) 0 k = R at i1 i2
        have ps := pass k (by omega) I R.2 (kP_cg hP (fun _ _ => rfl) (fun _ _ => i2 _ _)) (by rw [i2]; exact h18) (fun j => i2 _ _) h8
        rw [ps.2.2.1, z0, i1, if_neg d00, if_neg d00, if_pos rfl]
        exact ⟨rfl, fun q j => by rw [up2_same]; exact i2 q j⟩
    have gl : gl_232_24 J (nI c) 0 3 := by
      intro k hk
      obtain ⟨i1, i2⟩ := inv k (by omega)
      generalize lp_232_24 J (nI c) 0 k = R at i1 i2
      have ps := pass k (by omega) I R.2 (kP_cg hP (fun _ _ => rfl) (fun _ _ => i2 _ _)) (by rw [i2]; exact h18) (fun j => i2 _ _) h8
      exact ⟨ps.1, ⟨fun g => g, fun _ => vi3 k hk⟩, fun _ => vi3 k hk, vi3 k hk⟩
    rw [ev]
    have i3 := inv 3 (by omega)
    refine ⟨⟨g66, fun g => ?_⟩, gl, i3.1.symm, Or.inl i3.1, kC_cg hC (fun _ _ _ => rfl) (fun _ _ _ => i3.2 _ _), fun _ _ _ => rfl, fun q j _ => i3.2 q j⟩
    rw [e66, epop, z0] at g
    exact absurd rfl g
  · have z0 : ¬ nI (pc m nv) = 0 := by
      rw [show (0 : Int32) = nI 0 from rfl, nI_eq (by omega) (by omega)]
      exact hz
    have inv : ∀ k, k ≤ 3 → (lp_75_23 I b (nI c) (nI m) (nI (pc m nv)) 0 k).1 = (lp_232_24 J (nI c) 0 k).1 ∧ ((lp_232_24 J (nI c) 0 k).1 = 0 ∨ (lp_232_24 J (nI c) 0 k).1 = 1) ∧
        kC b nc (lp_75_23 I b (nI c) (nI m) (nI (pc m nv)) 0 k).2 (lp_232_24 J (nI c) 0 k).2 ∧ (∀ q j, q ≠ b + 4 → (lp_75_23 I b (nI c) (nI m) (nI (pc m nv)) 0 k).2 q j = I q j) ∧ (∀ q j, q ≠ 80 → (lp_232_24 J (nI c) 0 k).2 q j = J q j) := by
      intro k
      induction k with
      | zero => intro _; exact ⟨rfl, Or.inl rfl, hC, fun _ _ _ => rfl, fun _ _ _ => rfl⟩
      | succ k ih =>
        intro hk
        obtain ⟨i1, i2, i3, i4, i5⟩ := ih (by omega)
        simp only [lp_75_23, lp_232_24, bx]
        generalize lp_75_23 I b (nI c) (nI m) (nI (pc m nv)) 0 k = A at i1 i3 i4
        generalize lp_232_24 J (nI c) 0 k = R at i1 i2 i3 i5
        have ps := pass k (by omega) A.2 R.2 (kP_cg hP (fun k' _ => i4 (b + 7) k' (by omega)) (fun k' _ => i5 84 k' (by omega))) (by rw [i5 74 18 (by omega)]; exact h18) (fun j => i5 86 j (by omega)) (by rw [i4 b 8 (by omega)]; exact h8)
        obtain ⟨-, -, p3, -, p5⟩ := ps
        obtain ⟨p6, p7⟩ := p5 hz
        rw [p3, if_pos z0, p6, i1]
        generalize v_212 (lp_232_39 R.2 (nI c) (nI k) 0 0 (R.2 74 18).toNatClampNeg).1 (nI (pc m nv)) = y at p7
        simp only [n30, nI_add, cl (show 3 * c + k < 2 ^ 31 by omega)]
        rw [(i3.2.2.2 (3 * c + k) (by omega)).1]
        refine ⟨rfl, ?_, ?_, fun q j hq => ?_, fun q j hq => ?_⟩
        · split
          · exact Or.inr rfl
          · split
            · exact Or.inl rfl
            · exact Or.inr rfl
        · refine ⟨h4, ?_, ?_, fun i hi => ?_⟩
          · rw [up2_nk (by omega)]; exact i3.2.1
          · rw [up2_nk (by omega)]; exact i3.2.2.1
          · by_cases w : i = 3 * c + k
            · subst w
              simp only [up2, and_self, if_true]
              exact ⟨trivial, p7⟩
            · rw [up2_nk (by omega), up2_nk (by omega)]
              exact i3.2.2.2 i hi
        · rw [up2_nk (by omega)]; exact i4 q j hq
        · rw [up2_nk (by omega)]; exact i5 q j hq
    have ev : v_75 I b (nI c) = lp_75_23 I b (nI c) (nI m) (nI (pc m nv)) 0 3 := by
      unfold v_75
      rw [e66, epop, if_pos z0]
      rfl
    have i3 := inv 3 (by omega)
    have gl : gl_232_24 J (nI c) 0 3 ∧ gl_75_23 I b (nI c) (nI m) (nI (pc m nv)) 0 3 := by
      have both : ∀ k, k < 3 → _ := fun k hk => by
        obtain ⟨i1, i2, i3, i4, i5⟩ := inv k (by omega)
        exact pass k hk (lp_75_23 I b (nI c) (nI m) (nI (pc m nv)) 0 k).2 (lp_232_24 J (nI c) 0 k).2 (kP_cg hP (fun k' _ => i4 (b + 7) k' (by omega)) (fun k' _ => i5 84 k' (by omega))) (by rw [i5 74 18 (by omega)]; exact h18) (fun j => i5 86 j (by omega)) (by rw [i4 b 8 (by omega)]; exact h8)
      exact ⟨fun k hk => ⟨(both k hk).1, ⟨fun g => g, fun _ => vi3 k hk⟩, fun _ => vi3 k hk, vi3 k hk⟩, fun k hk => ⟨(both k hk).2.1, z0, fun _ => vi3 k hk, vi3 k hk⟩⟩
    rw [ev]
    refine ⟨⟨g66, fun _ => ?_⟩, gl.1, i3.1, i3.2.1, i3.2.2.1, i3.2.2.2.1, i3.2.2.2.2⟩
    rw [e66, epop]
    refine ⟨gl.2, ?_⟩
    show (lp_75_23 I b (nI c) (nI m) (nI (pc m nv)) 0 3).1 &&& 1 = (lp_75_23 I b (nI c) (nI m) (nI (pc m nv)) 0 3).1
    rw [i3.1]
    rcases i3.2.1 with z | z <;> rw [z] <;> decide
end
