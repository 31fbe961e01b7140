section
theorem judge13 {r1 r4 x a : Nat} {en : Int32 → Int32} {I : WI} {cs : List Int32} {p : Int32} (hr1 : 45 ≤ r1) (hr4 : r4 ≤ 22) (hx : x < 12) (ha : a + cs.length ≤ 160) (h3 : ∀ j, j < cs.length → I (r1 + 1) (a + j) = cs.getD j 0) (hen : ∀ z, z < 0 → ¬ z < -6 → v_15 I z r4 (nI x) = en z) (hp : ∀ R, runL en cs R = p :: R) {x2 x3 : Int32} (hx2 : x2 = nI a) (hx3 : x3 = nI (a + cs.length)) :
    g_13 I r1 x2 x3 r4 (nI x) ∧ (v_13 I r1 x2 x3 r4 (nI x)).1 = p := by
  subst hx2 hx3
  have f : ∀ c k, ¬ c = 35 → up2 I 35 1 0 c k = I c k := fun c k hc => up2_nk (by omega)
  obtain ⟨j1, j2, j3, j4⟩ := judgeL (r4 := r4) (en := en) hr1 hr4 hx cs 400 a [] (up2 I 35 1 0) (by omega) ha (Nat.zero_le _) up2_pt trivial (fun j hj => by rw [f _ _ (by omega)]; exact h3 j hj) (fun z z1 z2 => by
    rw [← hen z z1 z2]
    unfold v_15
    simp only [f (r4 + 7) _ (by omega), f (r4 + 8) _ (by omega), f (r4 + 9) _ (by omega)])
  rw [hp []] at j2 j3
  refine ⟨j1, ?_⟩
  unfold v_13
  generalize lp_13_8 r1 (nI (a + cs.length)) r4 (nI x) 400 (nI a) (up2 I 35 1 0) = A at j2 j3
  have e : ¬ A 35 1 ≤ 0 := by rw [j2]; exact fun w => absurd w (by decide : ¬ nI 1 ≤ 0)
  rw [bxd, if_neg e]
  exact j3.1
def cq (v : Int32) : Int32 := v_283 0 (v_282 99 v)
/-- weigh: what fits, what a push is -/
theorem weighS {r2 r1 nv : Nat} {en : Nat → Int32 → Int32} {I : WI} {cs1 cs2 : List Int32} {p q : Nat → Int32} (hr2 : 45 ≤ r2) (hr1 : r1 ≤ 21) (hv : nv ≤ 12) (ha : cs1.length + cs2.length ≤ 160) (h1 : I r2 1 = nI (cs1.length + cs2.length)) (h2 : I r2 2 = nI cs1.length)
    (h3 : ∀ j, j < cs1.length + cs2.length → I (r2 + 1) j = (cs1 ++ cs2).getD j 0) (h8 : I r1 8 = nI nv) (hen : ∀ x, x < nv → ∀ z, z < 0 → ¬ z < -6 → v_15 I z r1 (nI x) = en x z) (hp : ∀ x, x < nv → ∀ R, runL (en x) cs1 R = p x :: R) (hq : ∀ x, x < nv → ∀ R, runL (en x) cs2 R = q x :: R) :
    g_12 I r1 r2 ∧ ∃ m, m < 2 ^ nv ∧ v_12 I r1 r2 35 2 = nI m ∧ ∀ j, j < nv → (m.testBit j = true ↔ ¬ p j = 0) ∧ v_12 I r1 r2 37 j = cq (q j) := by
  have step : ∀ k, k ≤ nv → gl_12_7 (up2 I 35 2 0) r1 r2 k ∧ (∀ c j, c ≠ 36 → c ≠ 37 → ¬ (c = 35 ∧ (j = 1 ∨ j = 2)) → lp_12_7 (up2 I 35 2 0) r1 r2 k c j = I c j) ∧ ∃ m, m < 2 ^ k ∧ lp_12_7 (up2 I 35 2 0) r1 r2 k 35 2 = nI m ∧ ∀ j, j < k → (m.testBit j = true ↔ ¬ p j = 0) ∧ lp_12_7 (up2 I 35 2 0) r1 r2 k 37 j = cq (q j) := by
    intro k
    induction k with
    | zero => exact fun _ => ⟨⟨fun j hj => absurd hj (Nat.not_lt_zero _), rfl⟩, fun c j a b d => up2_nk (by omega), 0, by decide, up2_pt, fun j hj => absurd hj (Nat.not_lt_zero _)⟩
    | succ k ih =>
      intro hk
      obtain ⟨⟨gl1, gl2⟩, fr, m, m1, m2, m3⟩ := ih (by omega)
      have r8 : ∀ A : WI, A r1 8 = I r1 8 → A r1 8 = (up2 I 35 2 0) r1 8 := fun A h => h.trans (up2_nk (by omega)).symm
      suffices w : bx (lp_12_7 (up2 I 35 2 0) r1 r2 k) (fun p1 => (((p1 r1 8) = ((up2 I 35 2 0) r1 8)) ∧ ((g_13 p1 r2 (0 : Int32) (p1 r2 2) r1 (nI k)) ∧ (bx ((v_13 p1 r2 (0 : Int32) (p1 r2 2) r1 (nI k)) : Int32 × WI) (fun p2 => (bx ((if p2.1 = 0 then p2.2 else (up2 p2.2 35 2 ((p2.2 35 2) ||| (1 <<< ((nI k) &&& 31))))) : WI) (fun p3 => ((g_13 p3 r2 (p3 r2 2) (p3 r2 1) r1 (nI k)) ∧ (bx ((v_13 p3 r2 (p3 r2 2) (p3 r2 1) r1 (nI k)) : Int32 × WI) (fun p4 => (vp_in (nI k) 12))))))))))) ∧ (∀ c j, c ≠ 36 → c ≠ 37 → ¬ (c = 35 ∧ (j = 1 ∨ j = 2)) → lp_12_7 (up2 I 35 2 0) r1 r2 (k + 1) c j = I c j) ∧ ∃ m, m < 2 ^ (k + 1) ∧ lp_12_7 (up2 I 35 2 0) r1 r2 (k + 1) 35 2 = nI m ∧ ∀ j, j < k + 1 → (m.testBit j = true ↔ ¬ p j = 0) ∧ lp_12_7 (up2 I 35 2 0) r1 r2 (k + 1) 37 j = cq (q j) by
        refine ⟨⟨fun j hj => ?_, ?_⟩, w.2⟩
        · by_cases y : j = k
          · subst y; exact w.1
          · exact gl1 j (by omega)
        · rw [bxd]; exact r8 _ (w.2.1 _ _ (by omega) (by omega) (by omega))
      rw [lp_12_7]
      generalize lp_12_7 (up2 I 35 2 0) r1 r2 k = A at fr m2 m3
      dsimp only [bx]
      have en15 : ∀ B : WI, (∀ c j, c = r1 + 7 ∨ c = r1 + 8 ∨ c = r1 + 9 → B c j = A c j) → ∀ z, z < 0 → ¬ z < -6 → v_15 B z r1 (nI k) = en k z := fun B hB z z1 z2 => by
        rw [← hen k (by omega) z z1 z2]
        unfold v_15
        have b7 : ∀ j, B (r1 + 7) j = I (r1 + 7) j := fun j => (hB _ _ (by omega)).trans (fr _ _ (by omega) (by omega) (by omega))
        have b8 : ∀ j, B (r1 + 8) j = I (r1 + 8) j := fun j => (hB _ _ (by omega)).trans (fr _ _ (by omega) (by omega) (by omega))
        have b9 : ∀ j, B (r1 + 9) j = I (r1 + 9) j := fun j => (hB _ _ (by omega)).trans (fr _ _ (by omega) (by omega) (by omega))
        simp only [b7, b8, b9]
      obtain ⟨g1, ep⟩ := judge13 (I := A) (a := 0) hr2 (show r1 ≤ 22 by omega) (show k < 12 by omega) (by omega) (fun j hj => by
        rw [fr _ _ (by omega) (by omega) (by omega), Nat.zero_add, h3 j (by omega), getD_app, if_pos hj]) (en15 A (fun _ _ _ => rfl)) (hp k (by omega)) (x2 := 0) (x3 := A r2 2) rfl (by rw [fr _ _ (by omega) (by omega) (by omega), h2, Nat.zero_add])
      have f1 : ∀ c j, c ≠ 36 → ¬ (c = 35 ∧ j = 1) → (v_13 A r2 0 (A r2 2) r1 (nI k)).2 c j = A c j := fun c j a b => frI_v_13 (by omega) a
      generalize v_13 A r2 0 (A r2 2) r1 (nI k) = B at ep f1
      have f2 : ∃ D : WI, D = (if B.1 = 0 then B.2 else (up2 B.2 35 2 ((B.2 35 2) ||| (1 <<< ((nI k) &&& 31))))) := ⟨_, rfl⟩
      obtain ⟨D, hD⟩ := f2
      rw [← hD]
      have fD : ∀ c j, c ≠ 36 → ¬ (c = 35 ∧ (j = 1 ∨ j = 2)) → D c j = A c j := fun c j a b => by
        rw [hD]
        split
        · exact f1 c j a (by omega)
        · exact (up2_nk (by omega)).trans (f1 c j a (by omega))
      have hm : ∃ m', m' < 2 ^ (k + 1) ∧ D 35 2 = nI m' ∧ ∀ j, j < k + 1 → (m'.testBit j = true ↔ ¬ p j = 0) := by
        have e2 : B.2 35 2 = nI m := (f1 35 2 (by omega) (by omega)).trans m2
        have m12 : m < 4096 := Nat.lt_of_lt_of_le m1 (Nat.pow_le_pow_right (by omega) (show k ≤ 12 by omega))
        by_cases z : p k = 0
        · refine ⟨m, Nat.lt_of_lt_of_le m1 (Nat.pow_le_pow_right (by omega) (by omega)), ?_, fun j hj => ?_⟩
          · rw [hD, if_pos (ep.trans z)]; exact e2
          · by_cases y : j = k
            · rw [y, tb_hi m1 (Nat.le_refl _)]; simp [z]
            · exact (m3 j (by omega)).1
        · refine ⟨m ||| 2 ^ k, Nat.or_lt_two_pow (Nat.lt_of_lt_of_le m1 (Nat.pow_le_pow_right (by omega) (by omega))) (Nat.pow_lt_pow_right (by omega) (by omega)), ?_, fun j hj => ?_⟩
          · have zz : ¬ B.1 = 0 := by rw [ep]; exact z
            rw [hD, if_neg zz, up2_pt, e2, bit_or m12 (by omega)]
          · rw [Nat.testBit_or, Nat.testBit_two_pow]
            by_cases y : j = k
            · simp [y, z]
            · rw [show decide (k = j) = false from decide_eq_false (by omega), Bool.or_false]
              exact (m3 j (by omega)).1
      obtain ⟨g2, eq⟩ := judge13 (I := D) (a := cs1.length) hr2 (show r1 ≤ 22 by omega) (show k < 12 by omega) (by omega) (fun j hj => by
        rw [fD _ _ (by omega) (by omega), fr _ _ (by omega) (by omega) (by omega), h3 _ (by omega), getD_app, if_neg (by omega), show cs1.length + j - cs1.length = j by omega]) (en15 D (fun c j hh => fD c j (by omega) (by omega))) (hq k (by omega)) (x2 := D r2 2) (x3 := D r2 1) (by rw [fD _ _ (by omega) (by omega), fr _ _ (by omega) (by omega) (by omega), h2]) (by rw [fD _ _ (by omega) (by omega), fr _ _ (by omega) (by omega) (by omega), h1])
      have f3 : ∀ c j, c ≠ 36 → ¬ (c = 35 ∧ j = 1) → (v_13 D r2 (D r2 2) (D r2 1) r1 (nI k)).2 c j = D c j := fun c j a b => frI_v_13 (by omega) a
      generalize v_13 D r2 (D r2 2) (D r2 1) r1 (nI k) = E at eq f3
      rw [cl (show k < 2 ^ 31 by omega)]
      refine ⟨⟨r8 A (fr _ _ (by omega) (by omega) (by omega)), g1, g2, vin (by omega) (by omega)⟩, fun c j a b d => (up2_nk (by omega)).trans ((f3 c j a (by omega)).trans ((fD c j a (by omega)).trans (fr c j a b d))), ?_⟩
      obtain ⟨m', n1, n2, n3⟩ := hm
      refine ⟨m', n1, (up2_nk (by omega)).trans ((f3 _ _ (by omega) (by omega)).trans n2), fun j hj => ⟨n3 j hj, ?_⟩⟩
      by_cases y : j = k
      · rw [y, up2_pt, eq]; rfl
      · exact (up2_nk (by omega)).trans ((f3 _ _ (by omega) (by omega)).trans ((fD _ _ (by omega) (by omega)).trans (m3 j (by omega)).2))
  have e8 : ((up2 I 35 2 0) r1 8).toNatClampNeg = nv := by
    rw [up2_nk (by omega), h8, cl (by omega)]
  obtain ⟨g, -, m, m1, m2, m3⟩ := step nv (Nat.le_refl _)
  unfold g_12 v_12
  rw [e8, bxd]
  exact ⟨g, m, m1, m2, m3⟩
end
