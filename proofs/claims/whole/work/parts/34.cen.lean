section
variable {b nv nc tc : Nat} {I J : WI}
def shI (b nv nc k : Nat) (I J A R : WI) : Prop := kC b nc A R ∧ (∀ q j, q ≠ b + 4 → q ≠ b + 5 → q ≠ b + 6 → q ≠ b + 9 → A q j = I q j) ∧ (∀ q j, q ≠ 80 → q ≠ 83 → R q j = J q j) ∧
  (∀ j, j < nv → v_61 I b (nI j) = 1 → A (b + 9) j = I (b + 9) j) ∧ (∀ j, j < nv → v_61 I b (nI j) = 0 → (∃ c, k ≤ c ∧ c < nc ∧ I (b + 9) j = nI c ∧ A (b + 9) j = nI c) ∨ A (b + 9) j = -1) ∧
  (∀ j, nv ≤ j → A (b + 9) j = I (b + 9) j) ∧ (∀ c, c < k → R 83 c = 0 ∧ ∀ i, i < 3 → A (b + 5) (3 * c + i) = 1000 ∧ A (b + 6) (3 * c + i) = -1000)
theorem shed_step {Q : WI} (hC : kC b nc I J) (hP : kP b I J) (hV : kV b nv nc I J) (hQ : ∀ q j, Q q j = if q = 86 ∧ j < nv ∧ J 87 j = 1 then -1 else J q j) : ∀ k, k < nc → ∀ (A R : WI), shI b nv nc k I Q A R → g_75 (v_73 A b (nI k)).2 b (nI k) ∧ gl_232_24 R (nI k) 0 3 ∧ (v_75 (v_73 A b (nI k)).2 b (nI k)).1 = (lp_232_24 R (nI k) 0 3).1 ∧ ((lp_232_24 R (nI k) 0 3).1 = 0 ∨ (lp_232_24 R (nI k) 0 3).1 = 1) ∧
      shI b nv nc (k + 1) I Q (v_54 (v_75 (v_73 A b (nI k)).2 b (nI k)).2 b (nI k)) (up2 (lp_232_24 R (nI k) 0 3).2 83 k 0) := by
  have h4 := hC.1
  have h12 := hV.1
  have qo : ∀ q j, q ≠ 86 → Q q j = J q j := fun q j h => by rw [hQ, if_neg (by omega)]
  intro k hk A R s
  obtain ⟨s1, s2, s3, s4, s5, s6, s7⟩ := s
  have A8 : A b 8 = nI nv := by rw [s2 b 8 (by omega) (by omega) (by omega) (by omega)]; exact hV.2.1
  have e61 : ∀ j, v_61 A b (nI j) = v_61 I b (nI j) := fun j => by
    unfold v_61
    rw [s2 b 12 (by omega) (by omega) (by omega) (by omega)]
  have p73 : ∀ q j, (v_73 A b (nI k)).2 q j = if q = b + 9 ∧ j < nv ∧ A (b + 9) j = nI k ∧ v_61 I b (nI j) = 0 then -1 else A q j := fun q j => by
    show (lp_73_4 A b (nI k) 0 (A b 8).toNatClampNeg).2 q j = _
    rw [A8, cl (show nv < 2 ^ 31 by omega), l73 nv h12, e61]
  generalize (v_73 A b (nI k)).2 = B at p73
  have fB : ∀ q j, q ≠ b + 9 → B q j = A q j := fun q j h => by rw [p73, if_neg (by omega)]
  have R18 : R 74 18 = nI nv := by rw [s3 74 18 (by omega) (by omega), qo 74 18 (by omega)]; exact hV.2.2.1
  have R6 : ∀ j, R 86 j = if j < nv ∧ J 87 j = 1 then -1 else J 86 j := fun j => by
    rw [s3 86 j (by omega) (by omega), hQ]
    exact ifc ⟨fun z => z.2, fun z => ⟨rfl, z⟩⟩
  have hw : ∀ j, j < nv → (B (b + 9) j = nI k ↔ R 86 j = nI k) := by
    intro j hj
    rw [p73, R6]
    rcases (there_eq hV h4 hj).2 with ⟨t1, t2, -⟩ | ⟨t1, t2⟩
    · rw [if_neg (by rw [t1]; exact fun z => d10 z.2.2.2), if_neg (by rw [t2]; exact fun z => d10 z.2.symm), s4 j hj t1, (hV.2.2.2.1 j (by omega)).2.2]
    · have eR : (if j < nv ∧ J 87 j = 1 then (-1 : Int32) else J 86 j) = -1 := if_pos ⟨hj, t2⟩
      rw [eR]
      have hm : ¬ (-1 : Int32) = nI k := fun z => nIm1 (by omega) z.symm
      by_cases y : A (b + 9) j = nI k
      · rw [if_pos ⟨rfl, hj, y, t1⟩]
      · rw [if_neg (fun z => y z.2.2.1)]
        exact ⟨fun z => absurd z y, fun z => absurd z hm⟩
  have C2 : kC b nc B R := kC_cg s1 (fun c' k' _ => fB c' k' (by omega)) (fun _ _ _ => rfl)
  have P2 : kP b B R := kP_cg hP (fun k' _ => by rw [fB (b + 7) k' (by omega), s2 (b + 7) k' (by omega) (by omega) (by omega) (by omega)]) (fun k' _ => by rw [s3 84 k' (by omega) (by omega), qo 84 k' (by omega)])
  have c0 := cen hk C2 P2 h12 (by rw [fB b 8 (by omega)]; exact A8) R18 hw
  obtain ⟨c1, c2, c3, c4, c5, c6, c7⟩ := c0
  refine ⟨c1, c2, c3, c4, ?_⟩
  generalize (v_75 B b (nI k)).2 = D at c5 c6
  generalize (lp_232_24 R (nI k) 0 3).2 = S at c5 c7
  have pD : ∀ q j, v_54 D b (nI k) q j = if q = b + 5 ∧ 3 * k ≤ j ∧ j < 3 * k + 3 then 1000 else if q = b + 6 ∧ 3 * k ≤ j ∧ j < 3 * k + 3 then -1000 else D q j := fun q j => v54_pt (by omega) q j
  generalize v_54 D b (nI k) = E at pD
  have fE : ∀ q j, q ≠ b + 5 → q ≠ b + 6 → E q j = D q j := fun q j a1 a2 => by rw [pD, if_neg (by omega), if_neg (by omega)]
  have E9 : ∀ j, E (b + 9) j = B (b + 9) j := fun j => by rw [fE (b + 9) j (by omega) (by omega), c6 (b + 9) j (by omega)]
  refine ⟨kC_cg c5 (fun c' k' _ => fE c' k' (by omega) (by omega)) (fun c' k' _ => up2_nk (by omega)), fun q j a1 a2 a3 a4 => ?_, fun q j a1 a2 => ?_, fun j hj t1 => ?_, fun j hj t1 => ?_, fun j hj => ?_, fun c hc => ?_⟩
  · rw [fE q j a2 a3, c6 q j a1, fB q j a4]; exact s2 q j a1 a2 a3 a4
  · rw [up2_nk (by omega), c7 q j a1]; exact s3 q j a1 a2
  · rw [E9, p73, if_neg (by rw [t1]; exact fun z => d10 z.2.2.2)]; exact s4 j hj t1
  · rw [E9, p73]
    by_cases y : A (b + 9) j = nI k
    · rw [if_pos ⟨rfl, hj, y, t1⟩]; exact Or.inr rfl
    · rw [if_neg (fun z => y z.2.2.1)]
      rcases s5 j hj t1 with ⟨c, y1, y2, y3, y4⟩ | y1
      · left
        refine ⟨c, ?_, y2, y3, y4⟩
        by_cases y5 : c = k
        · subst y5; exact absurd y4 y
        · omega
      · exact Or.inr y1
  · rw [E9, p73, if_neg (by omega)]; exact s6 j hj
  · by_cases y : c = k
    · subst y
      refine ⟨by simp [up2], fun i hi => ?_⟩
      rw [pD, pD, if_pos (by omega), if_neg (by omega), if_pos (by omega)]
      exact ⟨rfl, rfl⟩
    · have s8 := s7 c (by omega)
      refine ⟨?_, fun i hi => ?_⟩
      · rw [up2_nk (by omega), c7 83 c (by omega)]; exact s8.1
      · rw [pD, pD, if_neg (by omega), if_neg (by omega), if_neg (by omega), if_neg (by omega), c6 _ _ (by omega), c6 _ _ (by omega), fB _ _ (by omega), fB _ _ (by omega)]
        exact s8.2 i hi
theorem shedall {Q : WI} (hC : kC b nc I J) (hP : kP b I J) (hV : kV b nv nc I J) (hQ : ∀ q j, Q q j = if q = 86 ∧ j < nv ∧ J 87 j = 1 then -1 else J q j) : ∀ k, k ≤ nc →
    (lp_74_4 I b 0 k).1 = (lp_232_10 Q 0 k).1 ∧ bt 0 k (lp_232_10 Q 0 k).1 ∧ shI b nv nc k I Q (lp_74_4 I b 0 k).2 (lp_232_10 Q 0 k).2 ∧
    (k < nc → g_75 (v_73 (lp_74_4 I b 0 k).2 b (nI k)).2 b (nI k) ∧ gl_232_24 (lp_232_10 Q 0 k).2 (nI k) 0 3) := by
  have h4 := hC.1
  have h12 := hV.1
  have qo : ∀ q j, q ≠ 86 → Q q j = J q j := fun q j h => by rw [hQ, if_neg (by omega)]
  have step := shed_step hC hP hV hQ
  intro k
  induction k with
  | zero =>
    intro _
    have s0 : shI b nv nc 0 I Q I Q := by
      refine ⟨kC_cg hC (fun _ _ _ => rfl) (fun c' k' _ => qo c' k' (by omega)), fun _ _ _ _ _ _ => rfl, fun _ _ _ _ => rfl, fun _ _ _ => rfl, fun j hj t1 => ?_, fun _ _ => rfl, fun c hc => absurd hc (Nat.not_lt_zero c)⟩
      rw [(hV.2.2.2.1 j (by omega)).2.2]
      rcases hV.2.2.2.2.1 j hj with ⟨y, -⟩ | ⟨c, y1, y2⟩
      · exact Or.inr y
      · exact Or.inl ⟨c, Nat.zero_le _, y1, y2, y2⟩
    refine ⟨rfl, ?_, s0, fun hk => ?_⟩
    · show 0 ≤ (0 : Int32).toInt ∧ (0 : Int32).toInt ≤ ((0 : Nat) : Int)
      decide
    have st := step 0 hk I Q s0
    exact ⟨st.1, st.2.1⟩
  | succ k ih =>
    intro hk
    obtain ⟨i1, i2, i3, -⟩ := ih (by omega)
    have e1 : lp_74_4 I b 0 (k + 1) = ((if (v_75 (v_73 (lp_74_4 I b 0 k).2 b (nI k)).2 b (nI k)).1 = 0 then (lp_74_4 I b 0 k).1 else (lp_74_4 I b 0 k).1 + 1), v_54 (v_75 (v_73 (lp_74_4 I b 0 k).2 b (nI k)).2 b (nI k)).2 b (nI k)) := rfl
    have e2 : lp_232_10 Q 0 (k + 1) = ((lp_232_10 Q 0 k).1 + (if (lp_232_24 (lp_232_10 Q 0 k).2 (nI k) 0 3).1 = 0 then 0 else 1), up2 (lp_232_24 (lp_232_10 Q 0 k).2 (nI k) 0 3).2 83 (nI k).toNatClampNeg (vp_nar (bT 0) 0)) := rfl
    rw [cl (show k < 2 ^ 31 by omega), show vp_nar (bT 0) 0 = 0 by decide] at e2
    rw [e1, e2]
    clear e1 e2
    generalize lp_74_4 I b 0 k = A at i1 i3
    generalize lp_232_10 Q 0 k = R at i1 i2 i3
    obtain ⟨-, -, t3, t4, t5⟩ := step k (by omega) A.2 R.2 i3
    refine ⟨?_, ?_, t5, fun hk2 => ?_⟩
    rotate_left
    rotate_left
    · have st := step (k + 1) hk2 _ _ t5
      exact ⟨st.1, st.2.1⟩
    · rw [t3]
      generalize (lp_232_24 R.2 (nI k) 0 3).1 = y at t4
      show (if y = 0 then A.1 else A.1 + 1) = R.1 + (if y = 0 then 0 else 1)
      have tt : (1 : Int32).toInt = 1 ∧ (0 : Int32).toInt = 0 := by decide
      unfold bt at i2
      rw [i1]
      rcases t4 with z | z
      · rw [if_pos z, if_pos z]
        exact Int32.toInt_inj.mp (by rw [ti_add (by omega) (by omega)]; omega)
      · rw [if_neg (by rw [z]; exact d10), if_neg (by rw [z]; exact d10)]
    · generalize (lp_232_24 R.2 (nI k) 0 3).1 = y at t4
      show bt 0 ((k + 1 : Nat) : Int) (R.1 + (if y = 0 then 0 else 1))
      have tt : (1 : Int32).toInt = 1 ∧ (0 : Int32).toInt = 0 := by decide
      unfold bt at i2 ⊢
      rcases t4 with z | z
      · rw [if_pos z, ti_add (by omega) (by omega)]
        omega
      · rw [if_neg (by rw [z]; exact d10), ti_add (by omega) (by omega)]
        omega
end
