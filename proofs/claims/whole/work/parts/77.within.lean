section
variable {S : Nat → List Int32 × List Int32} {b nv nc tc r v : Nat} {I J J' : WI} {L L' : WL}
/-- all but what a look of the reference changes -/
def RO (J J' : WI) : Prop := ∀ c k, ¬ (c = 74 ∧ 19 ≤ k ∧ k ≤ 33) → c ≠ 88 → c ≠ 89 → J' c k = J c k
def WJ (S : Nat → List Int32 × List Int32) (b nv nc tc r : Nat) (I J : WI) (L : WL) : Prop := kR b nv nc tc I J ∧ (∀ r, r < tc → TxtP (S r) I J r) ∧ tc ≤ 6 ∧ kM S tc J L ∧ r < tc ∧ J 74 4 = nI r
theorem RO_tr {J2 : WI} (h : RO J J') (h2 : RO J' J2) : RO J J2 := fun c k a b d => (h2 c k a b d).trans (h c k a b d)
theorem WJ_cg (h : WJ S b nv nc tc r I J L) (hR : RO J J') (hM : kM S tc J' L') : WJ S b nv nc tc r I J' L' := by
  obtain ⟨h1, h2, h3, h4, h5, h6⟩ := h
  exact ⟨kR_cgJ h1 (fun c k hh => hR c k (by omega) (by omega) (by omega)), fun q hq => TxtP_cg (h2 q hq) (fun _ _ _ => rfl) (fun c k hh => hR c k (by omega) (by omega) (by omega)), h3, hM, h5, (hR _ _ (by omega) (by omega) (by omega)).trans h6⟩
theorem enR_cg (hR : RO J J') : enR J' v = enR J v := by
  unfold enR
  have f : ∀ c k, 84 ≤ c → c ≤ 86 → J' c k = J c k := fun c k h1 h2 => hR c k (by omega) (by omega) (by omega)
  rw [f 84 _ (by omega) (by omega), f 84 _ (by omega) (by omega), f 84 _ (by omega) (by omega), f 85 _ (by omega) (by omega), f 86 _ (by omega) (by omega)]
theorem FT_cg (hR : RO J J') : FT S r J' v ↔ FT S r J v := by
  unfold FT
  rw [enR_cg hR, hR 87 v (by omega) (by omega) (by omega)]
theorem PU_cg (hR : RO J J') : PU S r J' v = PU S r J v := by
  unfold PU
  rw [enR_cg hR]
theorem ro213 : RO J (v_213 J L (nI v)).2.1 := fun c k a b d => frI_v_213 (by omega) b d
theorem ro217 : RO J (v_217 J L (nI v)).2.1 := fun c k a b d => frI_v_217 (by omega) b d
theorem ro215 : RO J (v_215 J L (nI v)).2.1 := fun c k a b d => frI_v_215 (by omega) b d
theorem or0 (x : Int32) : x ||| 0 = x := Int32.or_zero
theorem st243 {J0 J1 : WI} {L0 L1 : WL} {x1 a b : Int32} {k : Nat} {P2 : Int32 × WI × WL} (h : v_213 J1 L1 (nI k) = P2) : st_243_33 J0 L0 x1 0 0 k (a, b, J1, L1) = bx ((if P2.1 = 0 then (0, P2.2.1, P2.2.2) else (bx ((v_217 P2.2.1 P2.2.2 (nI k)) : Int32 × WI × WL) (fun p3 => (if x1 < p3.1 then (0, p3.2.1, p3.2.2) else (1, p3.2.1, p3.2.2))))) : Int32 × WI × WL) (fun p4 => (a + (if p4.1 = 0 then 0 else 1), b ||| ((if p4.1 = 0 then 0 else 1) <<< ((nI k) &&& 31)), p4.2.1, p4.2.2)) := by
  subst h
  unfold st_243_33
  dsimp only [bx]
/-- within: both loops -/
theorem within_lp (h : WJ S 1 nv nc tc r I J L) {m : Nat} (hm : m < 2 ^ nv) (hF : ∀ v, v < nv → (m.testBit v = true ↔ FT S r J v)) (h37 : ∀ v, v < nv → I 37 v = PU S r J v) (x1 : Int32) :
    ∀ k, k ≤ nv → gl_130_33 I x1 (nI m) 0 k ∧ gl_243_33 J L x1 0 0 k ∧ ∃ (t : Nat) (J' : WI) (L' : WL), t < 2 ^ k ∧ lp_130_33 I x1 (nI m) 0 k = nI t ∧ lp_243_33 J L x1 0 0 k = (nI (pc t k), nI t, J', L') ∧ RO J J' ∧ kM S tc J' L' := by
  have h12 : nv ≤ 12 := by obtain ⟨⟨-, -, -, -, -, kv, -⟩, -⟩ := h; exact kv.1
  have m12 : m < 4096 := Nat.lt_of_lt_of_le hm (Nat.pow_le_pow_right (by omega) (show nv ≤ 12 by omega))
  intro k
  induction k with
  | zero => exact fun _ => ⟨fun j hj => absurd hj (Nat.not_lt_zero _), ⟨fun j hj => absurd hj (Nat.not_lt_zero _), rfl⟩, 0, J, L, by decide, rfl, rfl, fun _ _ _ _ _ => rfl, h.2.2.2.1⟩
  | succ k ih =>
    intro hk
    obtain ⟨g1, ⟨g2, g2'⟩, t, J1, L1, t1, t2, t3, t4, t5⟩ := ih (by omega)
    have w1 := WJ_cg h t4 t5
    obtain ⟨r1, r2, r3, r4, r5, r6⟩ := w1
    obtain ⟨f1, f2, f3, f4⟩ := refFit r1 r2 r3 r4 r5 r6 (show k < nv by omega)
    have ro1 : RO J1 (v_213 J1 L1 (nI k)).2.1 := ro213
    have t12 : t < 4096 := Nat.lt_of_lt_of_le t1 (Nat.pow_le_pow_right (by omega) (show k ≤ 12 by omega))
    have e18 : J1 74 18 = J 74 18 := t4 _ _ (by omega) (by omega) (by omega)
    have estep : lp_243_33 J L x1 0 0 (k + 1) = st_243_33 J L x1 0 0 k (nI (pc t k), nI t, J1, L1) := by rw [← t3]; rfl
    have cstep : lp_130_33 I x1 (nI m) 0 (k + 1) = (if (v_111 (nI m) (nI k)) = 0 then nI t else (if x1 < (v_22 I 1 (nI k)) then nI t else (nI t ||| (1 <<< ((nI k) &&& 31))))) := by rw [lp_130_33, t2]; rfl
    have tk : t < 2 ^ (k + 1) := Nat.lt_of_lt_of_le t1 (Nat.pow_le_pow_right (by omega) (by omega))
    have ps : pc t (k + 1) = pc t k := pc_stop t1 1
    -- what the step's guard wants
    have wrap : ∀ (P2 : Int32 × WI × WL), v_213 J1 L1 (nI k) = P2 → (¬ v_111 (nI m) (nI k) = 0 → g_22 I 1 (nI k)) → (¬ P2.1 = 0 → g_217 P2.2.1 P2.2.2 (nI k)) → (∃ (t : Nat) (J' : WI) (L' : WL), t < 2 ^ (k + 1) ∧ lp_130_33 I x1 (nI m) 0 (k + 1) = nI t ∧ lp_243_33 J L x1 0 0 (k + 1) = (nI (pc t (k + 1)), nI t, J', L') ∧ RO J J' ∧ kM S tc J' L') →
        gl_130_33 I x1 (nI m) 0 (k + 1) ∧ gl_243_33 J L x1 0 0 (k + 1) ∧ ∃ (t : Nat) (J' : WI) (L' : WL), t < 2 ^ (k + 1) ∧ lp_130_33 I x1 (nI m) 0 (k + 1) = nI t ∧ lp_243_33 J L x1 0 0 (k + 1) = (nI (pc t (k + 1)), nI t, J', L') ∧ RO J J' ∧ kM S tc J' L' := by
      intro P2 hP q1 q2 q3
      refine ⟨fun j hj => ?_, ⟨fun j hj => ?_, ?_⟩, q3⟩
      · by_cases y : j = k
        · subst y; rw [bxd]; exact q1
        · exact g1 j (by omega)
      · by_cases y : j = k
        · subst y
          rw [bxd, t3]
          refine ⟨e18, f1, ?_⟩
          show bx (v_213 J1 L1 (nI j)) _
          rw [hP, bxd]
          exact q2
        · exact g2 j (by omega)
      · obtain ⟨t', J', L', -, -, q, q', -⟩ := q3
        rw [bxd, q]
        exact q' _ _ (by omega) (by omega) (by omega)
    by_cases z : FT S r J k
    · have zb : m.testBit k = true := (hF k (by omega)).mpr z
      have z1 : (v_213 J1 L1 (nI k)).1 = 1 := f3.mpr ((FT_cg t4).mpr z)
      have z11 : ¬ v_111 (nI m) (nI k) = 0 := by
        intro w
        rw [(v111_0 m12 (by omega)).mp w] at zb
        exact absurd zb (by decide)
      obtain ⟨P2, hP⟩ : ∃ P2, v_213 J1 L1 (nI k) = P2 := ⟨_, rfl⟩
      rw [hP] at f4 ro1 z1
      have w2 := WJ_cg (WJ_cg h t4 t5) ro1 f4
      have ro2 : RO J P2.2.1 := RO_tr t4 ro1
      obtain ⟨s1, s2, s3, s4, s5, s6⟩ := w2
      obtain ⟨a1, a2, a3, a4⟩ := refFar s1 s2 s3 s4 s5 s6 (show k < nv by omega) ((h37 k (by omega)).trans (PU_cg ro2).symm)
      have ro3 : RO P2.2.1 (v_217 P2.2.1 P2.2.2 (nI k)).2.1 := ro217
      have n0 : ¬ P2.1 = 0 := by rw [z1]; decide
      refine wrap P2 hP (fun _ => a1) (fun _ => a2) ?_
      rw [cstep, estep, if_neg z11, a3]
      rw [st243 hP, bxd, if_neg n0]
      generalize v_217 P2.2.1 P2.2.2 (nI k) = Q at a4 ro3
      rw [bxd]
      by_cases y : x1 < Q.1
      · rw [if_pos y, if_pos y]
        refine ⟨t, Q.2.1, Q.2.2, tk, rfl, ?_, RO_tr ro2 ro3, a4⟩
        rw [if_pos rfl, ps, sh0 (by omega), or0]
        show (nI (pc t k) + 0, nI t, Q.2.1, Q.2.2) = _
        rw [show (0 : Int32) = nI 0 from rfl, nI_add, Nat.add_zero]
      · rw [if_neg y, if_neg y]
        refine ⟨t ||| 2 ^ k, Q.2.1, Q.2.2, Nat.or_lt_two_pow tk (Nat.pow_lt_pow_right (by omega) (by omega)), bit_or t12 (by omega), ?_, RO_tr ro2 ro3, a4⟩
        rw [if_neg (show ¬ ((1, Q.2.1, Q.2.2) : Int32 × WI × WL).1 = 0 from by show ¬ (1 : Int32) = 0; decide), pc_or (tb_hi t1 (Nat.le_refl _)), ps, if_pos (by omega), bit_or t12 (by omega)]
        show (nI (pc t k) + 1, nI (t ||| 2 ^ k), Q.2.1, Q.2.2) = _
        rw [show (1 : Int32) = nI 1 from rfl, nI_add]
    · have zb : m.testBit k = false := by
        rcases hb : m.testBit k with _ | _
        · rfl
        · exact absurd ((hF k (by omega)).mp hb) z
      have z1 : (v_213 J1 L1 (nI k)).1 = 0 := by
        rcases f2 with a | a
        · exact a
        · exact absurd ((FT_cg t4).mp (f3.mp a)) z
      have z11 : v_111 (nI m) (nI k) = 0 := (v111_0 m12 (by omega)).mpr zb
      obtain ⟨P2, hP⟩ : ∃ P2, v_213 J1 L1 (nI k) = P2 := ⟨_, rfl⟩
      rw [hP] at f4 ro1 z1
      refine wrap P2 hP (fun w => absurd z11 w) (fun w => absurd z1 w) ?_
      rw [cstep, estep, if_pos z11]
      rw [st243 hP, bxd, if_pos z1]
      refine ⟨t, P2.2.1, P2.2.2, tk, rfl, ?_, RO_tr t4 ro1, f4⟩
      rw [if_pos rfl, ps, sh0 (by omega), or0]
      show (nI (pc t k) + 0, nI t, P2.2.1, P2.2.2) = _
      rw [show (0 : Int32) = nI 0 from rfl, nI_add, Nat.add_zero]
end
