section
variable {S : Nat → List Int32 × List Int32} {nv nc tc r : Nat} {I J : WI} {L : WL} {F : WF}
theorem RY_of {J' : WI} (h : RX J J') : RY J J' := fun c k a b d e => h c k (by omega) b d (by omega)
theorem RY_ro {J' J2 : WI} (h : RY J J') (h2 : RO J' J2) : RY J J2 := fun c k a b d e => (h2 c k (by omega) b d).trans (h c k a b d e)
theorem op_near (h : WJ S 1 nv nc tc r I J L) (h9 : I 0 9 = nI tc) (x1 x2 : Int32) : g_128 I F x1 x2 ∧ g_236 J L x1 x2 ∧ (v_128 I F x1 x2).1 = (v_236 J L x1 x2).1 ∧ RY J (v_236 J L x1 x2).2.1 ∧ kM S tc (v_236 J L x1 x2).2.1 (v_236 J L x1 x2).2.2 := by
  have hM : kM S tc J L := h.2.2.2.1
  have hV := h.1.2.2.2.2.2.1
  have h12 := hV.1
  have k1 : v_170 (Int32.toInt64 x1) 1 5 = v_107 x1 1 5 := v170_107 x1 1 5
  have k2 : v_170 (Int32.toInt64 x2) 0 9 = v_107 x2 0 9 := v170_107 x2 0 9
  have k3 : v_170 (Int32.toInt64 x2) 5 7 = v_107 x2 5 7 := v170_107 x2 5 7
  have ryR : RY J J := fun _ _ _ _ _ _ => rfl
  rcases v107_cases x1 1 5 with ⟨y1, b1, b2⟩ | ⟨y1, -⟩
  rotate_left
  · unfold g_128 g_236 v_128 v_236
    rw [k1, y1, if_pos (rfl : (0 : Int32) = 0), if_pos (rfl : (0 : Int32) = 0)]
    exact ⟨fun w => absurd rfl w, fun w => absurd rfl w, rfl, ryR, hM⟩
  have t1 : (1 : Int32).toInt = 1 := by decide
  have t5 : (5 : Int32).toInt = 5 := by decide
  obtain ⟨k, kk1, kk2, rfl⟩ : ∃ k : Nat, 1 ≤ k ∧ k ≤ 5 ∧ x1 = nI k := ⟨x1.toInt.toNat, by omega, by omega, ti_eq (by omega)⟩
  rcases vnum (nv := 10) (by omega) x2 with ⟨y2, w, hw, rfl⟩ | y2
  rotate_left
  · rw [show nI 10 - 1 = 9 by decide] at y2
    unfold g_128 g_236 v_128 v_236
    rw [k1, k2, y1, y2, if_neg d10, if_neg d10, if_neg d00, if_neg d00]
    exact ⟨fun _ w => absurd rfl w, fun _ w => absurd rfl w, rfl, ryR, hM⟩
  rw [show nI 10 - 1 = 9 by decide] at y2
  obtain ⟨m, A, I', F', J', L', m1, m2, m3, wA, eC, g237, e237, ry, km, hl, h46, h47, h48, h96, gC⟩ := near_C (F := F) h h9 kk1 kk2 hw
  obtain ⟨rg, J1, L1, r1, r2, r3, r4⟩ := readAll wA m3 nv (Nat.le_refl _)
  have e18 : (J 74 18).toNatClampNeg = nv := by rw [hV.2.2.1, cl (by omega)]
  have e238 : v_238 J L = (J1, L1) := by unfold v_238; rw [e18, bxd, r1]
  have g238 : g_238 J L := by unfold g_238; rw [e18]; exact rg
  have w1 := WJ_cx h r2 r3
  obtain ⟨cg, J2, L2, c1, c2, c3⟩ := count_lp w1 (m := m) (fun v hv => (m2 v hv).trans (FT_cx r2).symm) nv (Nat.le_refl _)
  have e18' : (J1 74 18).toNatClampNeg = nv := by rw [r2 74 18 (by omega) (by omega) (by omega) (by omega)]; exact e18
  have e228 : v_228 J1 L1 = (nI (pc m nv), J2, L2) := by unfold v_228; rw [e18', bxd, c1]
  have g228 : g_228 J1 L1 := by unfold g_228; rw [e18']; exact cg
  have hpc := pc_le' m nv
  have hs := HL_size hl
  have tw := nI_toInt (n := w) (by omega)
  have f97 : ∀ v, v < nv → (m.testBit v = true ↔ ¬ J1 97 v = 0) := fun v hv => by
    obtain ⟨a1, a2, -⟩ := r4 v hv
    rw [m2 v hv, ← a2]
    rcases a1 with a | a
    · rw [a]; exact ⟨fun z => absurd z.symm d10, fun z => absurd rfl z⟩
    · rw [a]; exact ⟨fun _ => d10, fun _ => rfl⟩
  have f96 : ∀ v, v < nv → J1 96 v = J' 96 v := fun v hv => (r4 v hv).2.2.1.trans (h96 v hv).symm
  have j18 : J1 74 18 = nI nv := (r2 74 18 (by omega) (by omega) (by omega) (by omega)).trans hV.2.2.1
  have hat := fun j (hj : j < 100) => held_at hl j18 h12 kk2 f97 f96 hj
  have hat2 := fun j (hj : j < 100) => held_at (J1 := J2) hl ((c2 74 18 (by omega) (by omega) (by omega)).trans j18) h12 kk2 (fun v hv => by rw [c2 97 v (by omega) (by omega) (by omega)]; exact f97 v hv) (fun v hv => by rw [c2 96 v (by omega) (by omega) (by omega)]; exact f96 v hv) hj
  have wle : ∀ n : Nat, n < 20 → (nI n ≤ nI w ↔ n ≤ w) := fun n hn => by
    rw [Int32.le_iff_toInt_le, nI_toInt (by omega), nI_toInt (by omega)]
    omega
  have w5 : (5 : Int32) ≤ nI w ↔ 5 ≤ w := wle 5 (by omega)
  have wk : nI k ≤ nI w ↔ k ≤ w := wle k (by omega)
  have wne : ∀ n : Nat, n < 20 → (nI w = nI n ↔ w = n) := fun n hn => nI_eq (by omega) (by omega)
  have x5 : nI w = 5 ↔ w = 5 := wne 5 (by omega)
  have x6 : nI w = 6 ↔ w = 6 := wne 6 (by omega)
  have x7 : nI w = 7 ↔ w = 7 := wne 7 (by omega)
  have x8 : nI w = 8 ↔ w = 8 := wne 8 (by omega)
  have x9 : nI w = 9 ↔ w = 9 := wne 9 (by omega)
  have e3 : (if nI k ≤ nI (pc m nv) then nI k else nI (pc m nv)) = nI (min k (pc m nv)) := by
    by_cases y : k ≤ pc m nv
    · rw [if_pos (by rw [Int32.le_iff_toInt_le, nI_toInt (by omega), nI_toInt (by omega)]; omega), Nat.min_eq_left y]
    · rw [if_neg (by rw [Int32.le_iff_toInt_le, nI_toInt (by omega), nI_toInt (by omega)]; omega), Nat.min_eq_right (by omega)]
  have n0 : ∀ a : Nat, a < 100 → (nI a = 0 ↔ a = 0) := fun a ha => nI_eq (a := a) (b := 0) (by omega) (by omega)
  refine ⟨gC, ?_, ?_⟩
  · -- guards
    unfold g_236
    rw [e238, bxd, e228, bxd, bxd]
    refine fun _ _ => ⟨fun _ => ⟨g238, fun _ => ⟨g228, fun n9 n3 => ?_⟩, fun n5 _ => (hat w (by omega)).1⟩, fun _ => g237⟩
    have e3' : (if nI k ≤ (nI (pc m nv), J2, L2).1 then nI k else (nI (pc m nv), J2, L2).1) = nI (min k (pc m nv)) := e3
    rw [e3'] at n3 ⊢
    rw [n0 _ (by omega)] at n3
    obtain ⟨a, ha⟩ : ∃ a, min k (pc m nv) = a + 1 := ⟨min k (pc m nv) - 1, by omega⟩
    rw [ha, nI_pred]
    obtain ⟨q1, q2⟩ := hat2 a (by omega)
    refine ⟨q1, ?_⟩
    rcases q2 with ⟨-, v, v1, v2, -⟩ | ⟨q2, -⟩ | ⟨q2, q3⟩
    · show vp_in (v_241 J2 (nI a) 0) 12
      rw [v2]; exact vin (by omega) (by omega)
    · omega
    · omega
  · have val : ∀ T : Int32 × WI × WL, v_236 J L (nI k) (nI w) = T → (v_128 I F (nI k) (nI w)).1 = T.1 → RY J T.2.1 → kM S tc T.2.1 T.2.2 → (v_128 I F (nI k) (nI w)).1 = (v_236 J L (nI k) (nI w)).1 ∧ RY J (v_236 J L (nI k) (nI w)).2.1 ∧ kM S tc (v_236 J L (nI k) (nI w)).2.1 (v_236 J L (nI k) (nI w)).2.2 := by
      intro T q1 q2 q3 q4
      rw [q1]
      exact ⟨q2, q3, q4⟩
    have ryJ1 : RY J J1 := RY_of r2
    have ryJ2 : RY J J2 := RY_ro ryJ1 c2
    rcases in59 hw with ⟨z, z1⟩ | ⟨z, z1, z2⟩
    · have eR : v_236 J L (nI k) (nI w) = (if 5 ≤ nI w then (if ¬ nI w = 9 then (if ¬ nI (min k (pc m nv)) = 0 then ((J2 96 (v_241 J2 (nI (min k (pc m nv)) - 1) (0 : Int32)).toNatClampNeg), J2, L2) else ((-1), J2, L2)) else (nI (min k (pc m nv)), J2, L2)) else (if nI k ≤ nI w then ((-1), J1, L1) else ((v_241 J1 (nI w) (0 : Int32)), J1, L1))) := by
        unfold v_236
        rw [k1, k2, k3, y1, y2, z, if_neg d10, if_pos d10, if_pos (rfl : (0 : Int32) = 0), e238, bxd, e228, bxd, bxd]
        have e3' : (if nI k ≤ (nI (pc m nv), J2, L2).1 then nI k else (nI (pc m nv), J2, L2).1) = nI (min k (pc m nv)) := e3
        rw [e3']
      by_cases u : 5 ≤ w
      · rw [if_pos (w5.mpr u)] at eR
        by_cases u9 : w = 9
        · rw [if_neg (nn (x9.mpr u9))] at eR
          refine val _ eR ?_ ryJ2 c3
          rw [eC, if_neg (show ¬ nI w = 5 by rw [x5]; omega), if_neg (show ¬ nI w = 6 by rw [x6]; omega), if_neg (show ¬ nI w = 7 by rw [x7]; omega), if_neg (show ¬ nI w = 8 by rw [x8]; omega), if_pos (x9.mpr u9)]
          exact hs
        · have u8 : w = 8 := by omega
          rw [if_pos (show ¬ nI w = 9 by rw [x9]; omega)] at eR
          have e41 : (v_128 I F (nI k) (nI w)).1 = v_41 I' := by
            rw [eC, if_neg (show ¬ nI w = 5 by rw [x5]; omega), if_neg (show ¬ nI w = 6 by rw [x6]; omega), if_neg (show ¬ nI w = 7 by rw [x7]; omega), if_pos (x8.mpr u8)]
          by_cases u0 : min k (pc m nv) = 0
          · rw [if_neg (fun q => q ((n0 _ (by omega)).mpr u0))] at eR
            refine val _ eR ?_ ryJ2 c3
            rw [e41]
            unfold v_41
            rw [hs, u0, if_pos (by decide)]
          · rw [if_pos (show ¬ nI (min k (pc m nv)) = 0 by rw [n0 _ (by omega)]; exact u0)] at eR
            refine val _ eR ?_ ryJ2 c3
            rw [e41]
            obtain ⟨a, ha⟩ : ∃ a, min k (pc m nv) = a + 1 := ⟨min k (pc m nv) - 1, by omega⟩
            obtain ⟨-, q2⟩ := hat2 a (by omega)
            unfold v_41
            rw [hs, ha, if_neg (nI_0le a (by omega)), nI_pred, cl (by omega)]
            rcases q2 with ⟨-, v, v1, v2, v3, v4⟩ | ⟨q2, -⟩ | ⟨q2, q3⟩
            · show I' 41 a = J2 96 (v_241 J2 (nI a) 0).toNatClampNeg
              rw [v2, cl (by omega)]
              exact v4
            · omega
            · omega
      · rw [if_neg (fun q => u (w5.mp q))] at eR
        have e42 : (v_128 I F (nI k) (nI w)).1 = v_42 I' (nI w) := by
          rw [eC, if_neg (show ¬ nI w = 5 by rw [x5]; omega), if_neg (show ¬ nI w = 6 by rw [x6]; omega), if_neg (show ¬ nI w = 7 by rw [x7]; omega), if_neg (show ¬ nI w = 8 by rw [x8]; omega), if_neg (show ¬ nI w = 9 by rw [x9]; omega)]
        have ew : (nI w).toNatClampNeg = w := cl (by omega)
        by_cases uk : k ≤ w
        · rw [if_pos (wk.mpr uk)] at eR
          refine val _ eR ?_ ryJ1 r3
          rw [e42]
          unfold v_42
          rw [hs]
          rcases vnum (nv := min k (pc m nv)) (by omega) (nI w) with ⟨-, v, hv, e⟩ | q
          · have := (nI_eq (a := w) (b := v) (by omega) (by omega)).mp e
            omega
          · rw [q, if_pos rfl]
        · rw [if_neg (fun q => uk (wk.mp q))] at eR
          refine val _ eR ?_ ryJ1 r3
          rw [e42]
          unfold v_42
          rw [hs, ew]
          obtain ⟨-, q2⟩ := hat w (by omega)
          rcases q2 with ⟨q1, v, v1, v2, v3, v4⟩ | ⟨q2, q3⟩ | ⟨q2, q3⟩
          · rcases vnum (nv := min k (pc m nv)) (by omega) (nI w) with ⟨q, -⟩ | q
            · rw [q, if_neg d10, v3]
              exact v2.symm
            · exfalso
              rcases v107_cases (nI w) 0 (nI (min k (pc m nv)) - 1) with ⟨o, -⟩ | ⟨-, o⟩
              · rw [q] at o; exact absurd o.symm d10
              · apply o
                have t0 : (0 : Int32).toInt = 0 := by decide
                rw [show (1 : Int32) = nI 1 from rfl, pk_sub_toInt (by omega) (by omega), tw, t0]
                omega
          · rcases vnum (nv := min k (pc m nv)) (by omega) (nI w) with ⟨-, v, hv, e⟩ | q
            · have := (nI_eq (a := w) (b := v) (by omega) (by omega)).mp e
              omega
            · rw [q, if_pos rfl]
              exact q3.symm
          · omega
    · have eR : v_236 J L (nI k) (nI w) = (if ¬ nI w = 5 then (if ¬ nI w = 6 then ((J' 74 48), J', L') else ((J' 74 47), J', L')) else ((J' 74 46), J', L')) := by
        unfold v_236
        rw [k1, k2, k3, y1, y2, z, if_neg d10, if_pos d10, if_neg d10, e237, bxd]
      by_cases u5 : w = 5
      · rw [if_neg (nn (x5.mpr u5))] at eR
        refine val _ eR ?_ ry km
        rw [eC, if_pos (x5.mpr u5)]
        exact h46
      · rw [if_pos (show ¬ nI w = 5 by rw [x5]; exact u5)] at eR
        by_cases u6 : w = 6
        · rw [if_neg (nn (x6.mpr u6))] at eR
          refine val _ eR ?_ ry km
          rw [eC, if_neg (show ¬ nI w = 5 by rw [x5]; exact u5), if_pos (x6.mpr u6)]
          exact h47
        · rw [if_pos (show ¬ nI w = 6 by rw [x6]; exact u6)] at eR
          refine val _ eR ?_ ry km
          rw [eC, if_neg (show ¬ nI w = 5 by rw [x5]; exact u5), if_neg (show ¬ nI w = 6 by rw [x6]; exact u6), if_pos (x7.mpr (by omega))]
          exact h48
end
