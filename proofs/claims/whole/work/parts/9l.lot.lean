section
variable {S : Nat → List Int32 × List Int32} {nv nc tc r m : Nat} {I J I' J' : WI} {L L' : WL} {F : WF}
/-! lot -/
theorem sh9 (p : Int32) : ∃ w : Nat, w < 2 ^ 23 ∧ (p.toUInt32 >>> (Int32.toUInt32 9 &&& Int32.toUInt32 31)).toInt32 = nI w := by
  refine ⟨(p.toUInt32 >>> (Int32.toUInt32 9 &&& Int32.toUInt32 31)).toNat, ?_, ?_⟩
  · have h := p.toUInt32.toNat_lt
    have e : (Int32.toUInt32 9 &&& Int32.toUInt32 31).toNat % 32 = 9 := by decide
    rw [UInt32.toNat_shiftRight, e, Nat.shiftRight_eq_div_pow]
    omega
  · generalize p.toUInt32 >>> (Int32.toUInt32 9 &&& Int32.toUInt32 31) = y
    apply Int32.toBitVec_inj.mp
    show y.toBitVec = BitVec.ofNat 32 y.toNat
    exact (BitVec.ofNat_toNat 32 y.toBitVec).symm ▸ (by rw [BitVec.setWidth_eq])
theorem drawn_e (x : Int32) {i : Nat} (hi : i < 3) : v_143 x (nI i) = v_259 x (nI i) ∧ bt (-999) 999 (v_259 x (nI i)) ∧ g_143 x (nI i) ∧ g_259 x (nI i) := by
  have e : v_107 (nI i) 0 2 = 1 ∧ v_170 (Int32.toInt64 (nI i)) 0 2 = 1 := by
    match i, hi with
    | 0, _ => decide
    | 1, _ => decide
    | 2, _ => decide
  obtain ⟨g1, g2, e3⟩ := op_drawn x (nI i)
  have e1 : v_144 x (nI i) = v_143 x (nI i) := by unfold v_144; rw [e.1, if_neg d10]
  refine ⟨e1.symm.trans e3, ?_, ?_, g2⟩
  · unfold v_259
    rw [e.2, if_pos d10, bxd]
    obtain ⟨w, w1, w2⟩ := sh9 (lp_259_21 x (((nI i).toInt + 1 - (0 : Int32).toInt).toNat))
    have t9 : (999 : Int32).toInt = 999 := by decide
    have hm := Nat.mod_lt w (show 0 < 1999 by omega)
    have tm := nI_toInt (n := w % 1999) (by omega)
    rw [w2, show (1999 : Int32) = nI 1999 from rfl, nI_mod (by omega) (by omega)]
    unfold bt
    rw [ti_sub (by omega) (by omega), tm, t9]
    omega
  · have := g1
    unfold g_144 at this
    rw [e.1] at this
    exact this d10
theorem ask3 (h12 : True) (x y : Int32) : ∀ k, k ≤ 3 → gl_260_58 J x y k ∧ (∀ q j, q ≠ 79 → lp_260_58 J x y k q j = J q j) ∧ (∀ j, k ≤ j → lp_260_58 J x y k 79 j = J 79 j) ∧ ∀ j, j < k → lp_260_58 J x y k 79 j = v_259 (x + y) (nI j) := by
  intro k
  induction k with
  | zero => exact fun _ => ⟨fun i hi => absurd hi (Nat.not_lt_zero _), fun _ _ _ => rfl, fun _ _ => rfl, fun j hj => absurd hj (Nat.not_lt_zero _)⟩
  | succ k ih =>
    intro hk
    obtain ⟨g, e1, e2, e3⟩ := ih (by omega)
    have ek : (nI k).toNatClampNeg = k := cl (by omega)
    have es : lp_260_58 J x y (k + 1) = up2 (lp_260_58 J x y k) 79 k (v_259 (x + y) (nI k)) := by rw [lp_260_58, bxd, ek]
    refine ⟨fun i hi => ?_, fun q j hq => ?_, fun j hj => ?_, fun j hj => ?_⟩
    · rw [bxd]
      exact ⟨(drawn_e (x + y) (show i < 3 by omega)).2.2.2, vin (by omega) (by omega)⟩
    · rw [es, up2_nk (by omega)]; exact e1 q j hq
    · rw [es, up2_nk (by omega)]; exact e2 j (by omega)
    · rw [es]
      by_cases z : j = k
      · subst z; rw [up2_pt]
      · rw [up2_nk (by omega)]; exact e3 j (by omega)
theorem st142 {I0 : WI} {x1 x3 : Int32} {k : Nat} {p : Int32 × WI × WF} (h : lp_142_70 I0 F x1 x3 0 k = p) : lp_142_70 I0 F x1 x3 0 (k + 1) =
    ((if (v_35 (v_70 p.2.1 21 (v_143 (x1 + nI k) 0) (v_143 (x1 + nI k) 1) (v_143 (x1 + nI k) 2)) p.2.2 1 21).1 38 4 ≤ x3 then p.1 else p.1 + 1), (v_35 (v_70 p.2.1 21 (v_143 (x1 + nI k) 0) (v_143 (x1 + nI k) 1) (v_143 (x1 + nI k) 2)) p.2.2 1 21).1, (v_35 (v_70 p.2.1 21 (v_143 (x1 + nI k) 0) (v_143 (x1 + nI k) 1) (v_143 (x1 + nI k) 2)) p.2.2 1 21).2) := by
  rw [lp_142_70, h, bxd, bxd, bxd, bxd]
theorem st260 {J0 : WI} {L0 : WL} {x1 x3 : Int32} {k : Nat} {p : Int64 × WI × WL} (h : lp_260_49 J0 L0 x1 x3 0 k = p) : lp_260_49 J0 L0 x1 x3 0 (k + 1) =
    (p.1 + (if (v_237 (lp_260_58 p.2.1 x1 (nI k) 3) p.2.2 1).1 74 46 ≤ x3 then 0 else 1), (v_237 (lp_260_58 p.2.1 x1 (nI k) 3) p.2.2 1).1, (v_237 (lp_260_58 p.2.1 x1 (nI k) 3) p.2.2 1).2) := by
  have e : lp_260_49 J0 L0 x1 x3 0 (k + 1) = st_260_49 J0 L0 x1 x3 0 k p := by rw [← h]; rfl
  rw [e]
  unfold st_260_49
  rw [show (3 : Int32).toNatClampNeg = 3 from rfl, bxd, bxd, bxd]
theorem lot_lp {I0 J0 : WI} (x1 x3 : Int32) (h : TH S 21 nv nc tc r m I0 J0 L) : ∀ k, k ≤ 20 → gl_142_70 I0 F x1 x3 0 k ∧ gl_260_49 J0 L x1 x3 0 k ∧
    ∃ (a : Nat) (I' : WI) (F' : WF) (J' : WI) (L' : WL), lp_142_70 I0 F x1 x3 0 k = (nI a, I', F') ∧ lp_260_49 J0 L x1 x3 0 k = (nL a, J', L') ∧ a ≤ k ∧ TH S 21 nv nc tc r m I' J' L' ∧ RW J0 J' := by
  intro k
  induction k with
  | zero => exact fun _ => ⟨fun i hi => absurd hi (Nat.not_lt_zero _), fun i hi => absurd hi (Nat.not_lt_zero _), 0, I0, F, J0, L, rfl, rfl, Nat.le_refl _, h, fun _ _ _ _ _ _ _ => rfl⟩
  | succ k ih =>
    intro hk
    obtain ⟨g1, g2, a, I1, F1, J1, L1, e1, e2, ha, th, rw1⟩ := ih (by omega)
    have s1 := st142 e1
    have s2 := st260 e2
    obtain ⟨q1, q2, q3, q4⟩ := ask3 (J := J1) trivial x1 (nI k) 3 (Nat.le_refl _)
    obtain ⟨d0, b0, gd0, -⟩ := drawn_e (x1 + nI k) (i := 0) (by omega)
    obtain ⟨d1, b1, gd1, -⟩ := drawn_e (x1 + nI k) (i := 1) (by omega)
    obtain ⟨d2, b2, gd2, -⟩ := drawn_e (x1 + nI k) (i := 2) (by omega)
    obtain ⟨I2, hI2⟩ : ∃ I2, I2 = v_70 I1 21 (v_143 (x1 + nI k) 0) (v_143 (x1 + nI k) 1) (v_143 (x1 + nI k) 2) := ⟨_, rfl⟩
    obtain ⟨J2, hJ2⟩ : ∃ J2, J2 = lp_260_58 J1 x1 (nI k) 3 := ⟨_, rfl⟩
    rw [← hJ2] at q2 q3 q4
    have fI : ∀ c j, ¬ (c = 24 ∧ j < 3) → I2 c j = I1 c j := fun c j x => by
      rw [hI2]
      unfold v_70
      rw [up2_nk (by omega), up2_nk (by omega), up2_nk (by omega)]
    have th2 : TH S 21 nv nc tc r m I2 J2 L1 := TH_q (by omega) th (fun c j x => fI c j (by omega)) (fun c j x => by
      by_cases y : c = 79
      · subst y; exact q3 j (by omega)
      · exact q2 c j y) (fun i hi => by
      rw [q4 i hi, hI2]
      unfold v_70
      match i, hi with
      | 0, _ => rw [up2_nk (by omega), up2_nk (by omega), up2_pt]; exact ⟨d0, b0⟩
      | 1, _ => rw [up2_nk (by omega), up2_pt]; exact ⟨d1, b1⟩
      | 2, _ => rw [up2_pt]; exact ⟨d2, b2⟩)
    obtain ⟨r1, r2, I3, F3, J3, L3, q, r3, r4, r5, r6, r7, r8', r9, r10, r11⟩ := read1 (F := F1) th2
    have s1a : lp_142_70 I0 F x1 x3 0 (k + 1) = ((if nI q ≤ x3 then nI a else nI a + 1), I3, F3) := by
      rw [s1]
      show ((if (v_35 (v_70 I1 21 (v_143 (x1 + nI k) 0) (v_143 (x1 + nI k) 1) (v_143 (x1 + nI k) 2)) F1 1 21).1 38 4 ≤ x3 then nI a else nI a + 1), (v_35 (v_70 I1 21 (v_143 (x1 + nI k) 0) (v_143 (x1 + nI k) 1) (v_143 (x1 + nI k) 2)) F1 1 21).1, (v_35 (v_70 I1 21 (v_143 (x1 + nI k) 0) (v_143 (x1 + nI k) 1) (v_143 (x1 + nI k) 2)) F1 1 21).2) = _
      rw [← hI2, r3]
      show ((if I3 38 4 ≤ x3 then nI a else nI a + 1), I3, F3) = _
      rw [r10]
    have s2a : lp_260_49 J0 L x1 x3 0 (k + 1) = (nL a + (if nI q ≤ x3 then 0 else 1), J3, L3) := by
      rw [s2]
      show (nL a + (if (v_237 (lp_260_58 J1 x1 (nI k) 3) L1 1).1 74 46 ≤ x3 then 0 else 1), (v_237 (lp_260_58 J1 x1 (nI k) 3) L1 1).1, (v_237 (lp_260_58 J1 x1 (nI k) 3) L1 1).2) = _
      rw [← hJ2, r4]
      show (nL a + (if J3 74 46 ≤ x3 then 0 else 1), J3, L3) = _
      rw [r11]
    have rw2 : RW J1 J2 := fun c j x1' x2' x3' x4' x5' => q2 c j x1'
    have rw3 : RW J0 J3 := RW_tr rw1 (RW_tr rw2 r8')
    refine ⟨fun i hi => ?_, fun i hi => ?_, ?_⟩
    · by_cases y : i = k
      · subst y
        rw [bxd, e1]
        refine ⟨gd0, gd1, gd2, ?_⟩
        rw [bxd]
        show g_35 (v_70 I1 21 (v_143 (x1 + nI i) 0) (v_143 (x1 + nI i) 1) (v_143 (x1 + nI i) 2)) F1 1 21
        rw [← hI2]
        exact r1
      · exact g1 i (by omega)
    · by_cases y : i = k
      · subst y
        rw [bxd, e2]
        refine ⟨q1, ?_⟩
        rw [bxd]
        show g_237 (lp_260_58 J1 x1 (nI i) 3) L1 1
        rw [← hJ2]
        exact r2
      · exact g2 i (by omega)
    · by_cases y : nI q ≤ x3
      · rw [if_pos y] at s1a s2a
        exact ⟨a, I3, F3, J3, L3, s1a, by rw [s2a, Int64.add_zero], by omega, r5, rw3⟩
      · rw [if_neg y] at s1a s2a
        exact ⟨a + 1, I3, F3, J3, L3, by rw [s1a, nI_1], by rw [s2a, show nL a + 1 = nL (a + 1) from nL_add (b := 1) (by omega)], by omega, r5, rw3⟩
theorem op_lot (h : WJ S 1 nv nc tc r I J L) (h9 : I 0 9 = nI tc) (x1 x2 x3 x4 : Int32) : g_142 I F x1 x2 x3 x4 ∧ g_260 J L x1 x2 x3 x4 ∧ (v_142 I F x1 x2 x3 x4).1 = (v_260 J L x1 x2 x3 x4).1 ∧ WJ S 1 nv nc tc r I (v_260 J L x1 x2 x3 x4).2.1 (v_260 J L x1 x2 x3 x4).2.2 := by
  have k1 : v_170 (Int32.toInt64 x2) 1 20 = v_107 x2 1 20 := v170_107 x2 1 20
  have k2 : v_170 (Int32.toInt64 x3) 0 12 = v_107 x3 0 12 := v170_107 x3 0 12
  have k3 : v_170 (Int32.toInt64 x4) 0 1 = v_107 x4 0 1 := v170_107 x4 0 1
  unfold g_142 g_260 v_142 v_260
  rw [k1, k2, k3]
  rcases v107_cases x2 1 20 with ⟨y, b1, b2⟩ | ⟨y, -⟩
  rotate_left
  · rw [y, if_pos (rfl : (0 : Int32) = 0), if_pos (rfl : (0 : Int32) = 0)]
    exact ⟨fun w => absurd rfl w, fun w => absurd rfl w, rfl, h⟩
  rw [y, if_neg d10, if_neg d10]
  by_cases y3 : v_107 x3 0 12 = 0
  · rw [if_pos y3, if_pos y3]
    exact ⟨fun _ w => absurd y3 w, fun _ w => absurd y3 w, rfl, h⟩
  rw [if_neg y3, if_neg y3]
  by_cases y4 : v_107 x4 0 1 = 0
  · rw [if_neg (nn y4), if_neg (nn y4)]
    exact ⟨fun _ _ w => absurd y4 w, fun _ _ w => absurd y4 w, rfl, h⟩
  rw [if_pos y4, if_pos y4]
  have t1 : (1 : Int32).toInt = 1 := by decide
  have t20 : (20 : Int32).toInt = 20 := by decide
  obtain ⟨n, n1, n2, rfl⟩ : ∃ n : Nat, 1 ≤ n ∧ n ≤ 20 ∧ x2 = nI n := ⟨x2.toInt.toNat, by omega, by omega, ti_eq (by omega)⟩
  have en : (nI n).toNatClampNeg = n := cl (by omega)
  obtain ⟨A, m, hA', a1, a2, a3, a4, th1, th21, fr, wA⟩ := TH_w h h9
  have th := TH_keep th21
  obtain ⟨G1, G2, a, I', F', J', L', e1, e2, ha, th', rw'⟩ := lot_lp (F := F) x1 x3 th n n2
  have hM' : kM S tc J' L' := by
    obtain ⟨⟨Ig, w, -⟩, -⟩ := th'
    exact w.2.2.2.1
  have wB := WJ_back h rw' hM'
  have gk := g_keep (J := J)
  have gk' := g_keep (J := J')
  obtain ⟨p1, p2, p3⟩ := part_eq (a := a) (b := n) (by omega) (by omega) (by omega) x4
  rw [a1]
  dsimp only [bx]
  rw [← hA', en, e1, e2]
  dsimp only
  exact ⟨fun _ _ _ => ⟨a2, a3, a4, G1, p1⟩, fun _ _ _ => ⟨gk.1, G2, gk'.2, p2⟩, p3, wB⟩
end
