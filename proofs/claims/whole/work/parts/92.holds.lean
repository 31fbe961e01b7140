section
variable {b nv nc tc : Nat} {I J : WI}
/-! holds -/
theorem box_e (h4 : nc ≤ 4) (hB : kB b nc I J) {c : Nat} (hc : c < nc) : g_67 (nI c) ∧ ((v_67 I b (nI c) = 0 ∧ J 83 c = 1) ∨ (v_67 I b (nI c) = 1 ∧ J 83 c = 0)) := by
  have e3 : (3 * nI c).toNatClampNeg = 3 * c := by rw [n30, cl (by omega)]
  have t := t1000
  refine ⟨by unfold g_67; rw [n30]; exact vin (by omega) (by omega), ?_⟩
  unfold v_67
  rw [e3]
  rcases hB c hc with ⟨h0, hb⟩ | ⟨h1, hb⟩
  · have hb := hb 0 (by omega)
    simp only [Nat.add_zero] at hb
    right
    rw [hb.1, hb.2, if_neg (by decide)]
    exact ⟨rfl, h0⟩
  · have hb := hb 0 (by omega)
    simp only [Nat.add_zero] at hb
    left
    rw [hb.1, hb.2.1, if_pos (by rw [Int32.le_iff_toInt_le]; exact hb.2.2.2.1)]
    exact ⟨rfl, h1⟩
/-- how many of a cell, counted -/
theorem many_lp (hV : kV b nv nc I J) (h4 : nc ≤ 4) {c m : Nat} {x : Int32} (hm : ∀ j, j < nv → (m.testBit j = true ↔ J 86 j = nI c ∧ (x = 10 ∨ ¬ v_180 J (nI j) = 0))) : ∀ k, k ≤ nv → lp_223_124 J (nI c) x 0 k = nI (pc m k) := by
  have h12 := hV.1
  intro k
  induction k with
  | zero => intro _; rfl
  | succ k ih =>
    intro hk
    have ek : (nI k).toNatClampNeg = k := cl (by omega)
    have epc : pc m (k + 1) = pc m k + if m.testBit k then 1 else 0 := rfl
    rw [lp_223_124, ih (by omega), bxd, bxd, ek, epc]
    have hk' := hm k (by omega)
    have e0 : nI (pc m k) + 0 = nI (pc m k + 0) := by rw [show (0 : Int32) = nI 0 from rfl, nI_add]
    have e1 : nI (pc m k) + 1 = nI (pc m k + 1) := by rw [show (1 : Int32) = nI 1 from rfl, nI_add]
    by_cases z : J 86 k = nI c
    · rw [if_neg (fun w => w z)]
      by_cases y : x = 10
      · rw [if_pos y, if_pos (hk'.mpr ⟨z, Or.inl y⟩)]
        exact e1
      · rw [if_neg y]
        by_cases u : v_180 J (nI k) = 0
        · rw [if_pos u, if_neg (fun w => by
            rcases (hk'.mp w).2 with a | a
            · exact y a
            · exact a u)]
          exact e0
        · rw [if_neg u, if_pos (hk'.mpr ⟨z, Or.inr u⟩)]
          exact e1
    · rw [if_pos z, if_neg (fun w => z (hk'.mp w).1)]
      exact e0
theorem nI_m1 (m : Nat) : nI m &&& (-1) = nI m := Int32.and_neg_one
/-- how many of a cell, here and there -/
theorem many_eq (hV : kV b nv nc I J) (h4 : nc ≤ 4) (c : Nat) (x : Int32) : g_66 I b (nI c) ∧ gl_223_124 J (nI c) x 0 nv ∧ v_286 (v_66 I b (nI c) &&& (if ¬ x = 10 then I b 12 else -1)) = lp_223_124 J (nI c) x 0 nv := by
  have hV' := hV
  obtain ⟨h12, h8, h18, h85, -, -, M, hM, hMI, hMb⟩ := hV
  obtain ⟨m, m1, m2, m3⟩ := mask (I := I) (b := b) (c := c) nv h12
  have e66 : v_66 I b (nI c) = nI m := by
    unfold v_66
    rw [h8, cl (by omega), m2, bxd]
  refine ⟨?_, ?_, ?_⟩
  · unfold g_66
    rw [h8, cl (by omega)]
    intro k hk
    rw [bxd]
    exact vin (by omega) (by omega)
  · intro k hk
    rw [bxd]
    exact ⟨vin (by omega) (by omega), fun _ _ => g180 (by omega)⟩
  · rw [e66]
    have hc : ∀ j, j < nv → (m.testBit j = true ↔ J 86 j = nI c) := fun j hj => by
      rw [m3 j hj, (h85 j (by omega)).2.2, decide_eq_true_iff]
    by_cases y : x = 10
    · rw [if_neg (fun w => w y), nI_m1, pop m1 h12, many_lp hV' h4 (fun j hj => ⟨fun w => ⟨(hc j hj).mp w, Or.inl y⟩, fun w => (hc j hj).mpr w.1⟩) nv (Nat.le_refl _)]
    · rw [if_pos y, hMI, ← nI_and, pop (Nat.and_lt_two_pow _ hM) h12, many_lp hV' h4 (m := m &&& M) (fun j hj => ?_) nv (Nat.le_refl _)]
      rw [Nat.testBit_and, Bool.and_eq_true, hc j hj, hMb j hj, decide_eq_true_iff]
      have ht := (there_eq hV' h4 hj)
      constructor
      · rintro ⟨a, d⟩
        refine ⟨a, Or.inr ?_⟩
        rcases ht.2 with ⟨q, -⟩ | ⟨q, q2⟩
        · rw [← ht.1, q]; decide
        · rw [q2] at d; exact absurd d (by decide)
      · rintro ⟨a, d⟩
        refine ⟨a, ?_⟩
        rcases d with d | d
        · exact absurd d y
        · rcases ht.2 with ⟨-, q, -⟩ | ⟨q, -⟩
          · exact q
          · exact absurd (ht.1.symm.trans q) d
theorem op_holds (h : kR 1 nv nc tc I J) (x1 x2 : Int32) : g_116 I x1 x2 ∧ g_223 J x1 x2 ∧ v_116 I x1 x2 = v_223 J x1 x2 := by
  obtain ⟨hA, hQ, hC, hB, hP, hV, hN, -⟩ := h
  have h4 := hC.1
  have h12 := hV.1
  have e224 : v_224 J x1 = v_107 x1 0 (nI nc - 1) := by
    unfold v_224
    rw [hC.2.2.1, show (0 : Int64) = Int32.toInt64 0 by decide, v170_107]
  have c18 : (J 74 18).toNatClampNeg = nv := by rw [hV.2.2.1, cl (by omega)]
  unfold g_116 g_223 v_116 v_223
  rw [e224, hC.2.1, c18, show v_170 (Int32.toInt64 x2) 0 11 = v_107 x2 0 11 from v170_107 x2 0 11, show v_170 (Int32.toInt64 x2) 3 9 = v_107 x2 3 9 from v170_107 x2 3 9]
  rcases vnum (nv := nc) (by omega) x1 with ⟨y1, c, hc, rfl⟩ | y1
  · rw [y1, if_neg d10, if_neg d10]
    have ec : (nI c).toNatClampNeg = c := cl (by omega)
    obtain ⟨gb, hb⟩ := box_e h4 hB hc
    obtain ⟨gm1, gm2, em⟩ := many_eq hV h4 c x2
    rcases vnum (nv := 12) (by omega) x2 with ⟨y2, w, hw, rfl⟩ | y2
    · rw [show nI 12 - 1 = 11 by decide] at y2
      rw [y2, if_pos d10, if_neg d10]
      have tw := nI_toInt (n := w) (by omega)
      have k : 3 * nI c + nI w = nI (3 * c + w) := by rw [n30, nI_add]
      have k3 : 3 ≤ w → 3 * nI c + nI w - 3 = nI (3 * c + (w - 3)) := fun z => by
        rw [k]
        apply Int32.toInt_inj.mp
        have t3 : (3 : Int32).toInt = 3 := by decide
        have t := nI_toInt (n := 3 * c + w) (by omega)
        rw [ti_sub (by omega) (by omega), t, t3, nI_toInt (by omega)]
        omega
      have k6 : 6 ≤ w → 3 * nI c + nI w - 6 = nI (3 * c + (w - 6)) := fun z => by
        rw [k]
        apply Int32.toInt_inj.mp
        have t3 : (6 : Int32).toInt = 6 := by decide
        have t := nI_toInt (n := 3 * c + w) (by omega)
        rw [ti_sub (by omega) (by omega), t, t3, nI_toInt (by omega)]
        omega
      have wle : ∀ n : Nat, n < 20 → (nI n ≤ nI w ↔ n ≤ w) := fun n hn => by
        rw [Int32.le_iff_toInt_le, nI_toInt (by omega), nI_toInt (by omega)]
        omega
      have w3 : (3 : Int32) ≤ nI w ↔ 3 ≤ w := wle 3 (by omega)
      have w6 : (6 : Int32) ≤ nI w ↔ 6 ≤ w := wle 6 (by omega)
      have w9 : (9 : Int32) ≤ nI w ↔ 9 ≤ w := wle 9 (by omega)
      have w9' : nI w ≤ (9 : Int32) ↔ w ≤ 9 := by
        have t9 : (9 : Int32).toInt = 9 := by decide
        rw [Int32.le_iff_toInt_le, tw, t9]
        omega
      have x9 : nI w = 9 ↔ w = 9 := nI_eq (a := w) (b := 9) (by omega) (by omega)
      have x10 : nI w = 10 ↔ w = 10 := nI_eq (a := w) (b := 10) (by omega) (by omega)
      have w39 : (v_107 (nI w) 3 9 = 0 ∧ ¬ (3 ≤ w ∧ w ≤ 9)) ∨ (v_107 (nI w) 3 9 = 1 ∧ 3 ≤ w ∧ w ≤ 9) := by
        have t3 : (3 : Int32).toInt = 3 := by decide
        have t9 : (9 : Int32).toInt = 9 := by decide
        rcases v107_cases (nI w) 3 9 with ⟨a, b1, b2⟩ | ⟨a, b⟩
        · rw [tw] at b1 b2
          exact Or.inr ⟨a, by omega, by omega⟩
        · rw [tw] at b
          exact Or.inl ⟨a, by omega⟩
      have g3 : ¬ 3 ≤ nI w → vp_in (3 * nI c + nI w) 12 := fun z => by
        rw [w3] at z
        rw [k]; exact vin (by omega) (by omega)
      have g6 : 6 ≤ nI w → ¬ 9 ≤ nI w → vp_in (3 * nI c + nI w - 6) 12 := fun z z2 => by
        rw [w6] at z
        rw [w9] at z2
        rw [k6 z]; exact vin (by omega) (by omega)
      have g63 : 3 ≤ nI w → ¬ 6 ≤ nI w → vp_in (3 * nI c + nI w - 3) 12 := fun z z2 => by
        rw [w3] at z
        rw [w6] at z2
        rw [k3 z]; exact vin (by omega) (by omega)
      have lowcb : J 83 c = 1 → g_68 I 1 (nI c) ∧ g_225 J (nI c) ∧ v_68 I 1 (nI c) = v_225 J (nI c) := fun z => by
        obtain ⟨l1, l2, l3, -⟩ := lowc hA hQ hC hB hP hV hN hc z
        exact ⟨l1, l2, l3⟩
      refine ⟨fun _ _ => ⟨fun z3 => ⟨fun z9 => ⟨gb, fun zb => ⟨fun n9 => ⟨fun z6 => ?_, fun z6 => g63 z3 z6⟩, fun n9 => ?_⟩⟩, fun _ => gm1⟩, g3⟩, fun _ _ => ⟨fun p0 => ⟨fun z9 => ⟨fun n9 => gm2, fun n9 => ?_⟩, fun z9 => ⟨fun z3 => ⟨fun z6 => g6 z6 z9, fun z6 => g63 z3 z6⟩, g3⟩⟩, fun p0 => ⟨vin (by omega) (by omega), fun zb => ⟨fun z9 => ⟨fun n9 => gm2, fun n9 => ?_⟩, fun z9 => ⟨fun z3 => ⟨fun z6 => g6 z6 z9, fun z6 => g63 z3 z6⟩, g3⟩⟩⟩⟩, ?_⟩
      · rw [w9'] at z9
        rw [x9] at n9
        exact g6 z6 (by rw [w9]; omega)
      · rcases hb with ⟨-, a⟩ | ⟨a, -⟩
        · exact (lowcb a).1
        · rw [a] at zb; exact absurd zb d10
      · exfalso
        have z := Classical.not_not.mp n9
        rw [x9] at z
        rcases w39 with ⟨-, q⟩ | ⟨q, -⟩
        · omega
        · rw [q] at p0; exact absurd p0 d10
      · rw [ec] at zb
        rcases hb with ⟨-, a⟩ | ⟨-, a⟩
        · exact (lowcb a).2.1
        · exact absurd a zb
      · dsimp only [bx]
        rw [ec]
        rcases w39 with ⟨q, q2⟩ | ⟨q, q2, q3⟩
        · rw [q, if_pos (rfl : (0 : Int32) = 0)]
          by_cases z : w < 3
          · have n3 : ¬ 3 ≤ nI w := fun x => by have := w3.mp x; omega
            have n9 : ¬ 9 ≤ nI w := fun x => by have := w9.mp x; omega
            rw [if_neg n3, if_neg n9, if_neg n3, k, cl (by omega)]
            exact (hC.2.2.2 (3 * c + w) (by omega)).1
          · have p3 : 3 ≤ nI w := w3.mpr (by omega)
            have n9 : ¬ nI w ≤ 9 := fun x => by have := w9'.mp x; omega
            have p9 : 9 ≤ nI w := w9.mpr (by omega)
            have e9 : ¬ nI w = 9 := fun x => by have := x9.mp x; omega
            rw [if_pos p3, if_neg n9, if_pos p9, if_pos e9]
            exact em
        · have p3 : 3 ≤ nI w := w3.mpr q2
          have p9' : nI w ≤ 9 := w9'.mpr q3
          rw [q, if_neg d10, if_pos p3, if_pos p9']
          rcases hb with ⟨a1, a2⟩ | ⟨a1, a2⟩
          · rw [a1, a2, if_pos (rfl : (0 : Int32) = 0), if_pos d10]
            rcases hB c hc with ⟨u, -⟩ | ⟨-, u⟩
            · rw [a2] at u; exact absurd u d10
            by_cases z9 : w = 9
            · have e9 : ¬ ¬ nI w = 9 := fun n => n (x9.mpr z9)
              have p9 : 9 ≤ nI w := w9.mpr (by omega)
              rw [if_neg e9, if_pos p9, if_neg e9, (lowcb a2).2.2]
            · have e9 : ¬ nI w = 9 := fun x => z9 (x9.mp x)
              have n9 : ¬ 9 ≤ nI w := fun x => by have := w9.mp x; omega
              rw [if_pos e9, if_neg n9, if_pos p3]
              by_cases z6 : 6 ≤ w
              · rw [if_pos (w6.mpr z6), if_pos (w6.mpr z6), k6 z6, cl (by omega)]
                exact (u (w - 6) (by omega)).2.1
              · have n6 : ¬ 6 ≤ nI w := fun n => z6 (w6.mp n)
                rw [if_neg n6, if_neg n6, k3 q2, cl (by omega)]
                exact (u (w - 3) (by omega)).1
          · rw [a1, a2, if_neg d10, if_neg d00]
    · rw [show nI 12 - 1 = 11 by decide] at y2
      rw [y2, if_neg d00, if_pos (rfl : (0 : Int32) = 0)]
      exact ⟨fun _ w => absurd rfl w, fun _ w => absurd rfl w, rfl⟩
  · rw [y1, if_pos (rfl : (0 : Int32) = 0), if_pos (rfl : (0 : Int32) = 0)]
    exact ⟨fun w => absurd rfl w, fun w => absurd rfl w, rfl⟩
end
