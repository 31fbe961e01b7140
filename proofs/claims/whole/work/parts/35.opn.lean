section
variable {b nv nc tc : Nat} {I J : WI}
theorem anew (h : kR b nv nc tc I J) (hn : 0 < nc) : g_74 I b ∧ g_232 J ∧ (v_74 I b).1 = (v_232 J).1 ∧ bt 0 nc (v_232 J).1 ∧ kR b nv nc tc (v_74 I b).2 (v_232 J).2 ∧
    (∀ q j, q ≠ b + 4 → q ≠ b + 5 → q ≠ b + 6 → q ≠ b + 9 → (v_74 I b).2 q j = I q j) ∧ (∀ q j, q ≠ 80 → q ≠ 81 → q ≠ 82 → q ≠ 83 → q ≠ 86 → (v_232 J).2 q j = J q j) := by
  obtain ⟨hA, hQ', hC, hB, hP, hV, hN, hr, r, hr1, hr2⟩ := h
  have h4 := hC.1
  have h12 := hV.1
  have h18 := hV.2.2.1
  have h13 := hC.2.2.1
  have hQ : ∀ q j, (v_230 J (-1)).2 q j = if q = 86 ∧ j < nv ∧ J 87 j = 1 then -1 else J q j := fun q j => by
    show (lp_230_4 J (-1) 0 (J 74 18).toNatClampNeg).2 q j = _
    rw [h18, cl (show nv < 2 ^ 31 by omega), l230m nv h12]
  have e232 : v_232 J = ((lp_232_10 (v_230 J (-1)).2 0 ((v_230 J (-1)).2 74 13).toNatClampNeg).1, lp_232_210 (lp_232_10 (v_230 J (-1)).2 0 ((v_230 J (-1)).2 74 13).toNatClampNeg).2 ((lp_232_10 (v_230 J (-1)).2 0 ((v_230 J (-1)).2 74 13).toNatClampNeg).2 74 18).toNatClampNeg) := rfl
  have g232 : gl_232_10 (v_230 J (-1)).2 0 ((v_230 J (-1)).2 74 13).toNatClampNeg ∧ gl_232_210 (lp_232_10 (v_230 J (-1)).2 0 ((v_230 J (-1)).2 74 13).toNatClampNeg).2 ((lp_232_10 (v_230 J (-1)).2 0 ((v_230 J (-1)).2 74 13).toNatClampNeg).2 74 18).toNatClampNeg → g_232 J := fun z => ⟨g230m h12 h18, z.1, z.2⟩
  generalize (v_230 J (-1)).2 = Q at hQ e232 g232
  have qo : ∀ q j, q ≠ 86 → Q q j = J q j := fun q j h => by rw [hQ, if_neg (by omega)]
  have S := shedall hC hP hV hQ
  rw [qo 74 13 (by omega), h13, cl (show nc < 2 ^ 31 by omega)] at e232 g232
  have gI1 : gl_74_4 I b 0 nc := by
    refine ⟨fun k hk => ?_, ?_⟩
    · obtain ⟨-, -, s, u⟩ := S k (by omega)
      refine ⟨?_, g73 h12 ?_, (u hk).1, g54 (by omega)⟩
      · rw [s.1.2.1, hC.2.1]
      · rw [s.2.1 b 8 (by omega) (by omega) (by omega) (by omega)]; exact hV.2.1
    · obtain ⟨-, -, s, -⟩ := S nc (Nat.le_refl _)
      show (lp_74_4 I b 0 nc).2 b 4 = I b 4
      rw [s.1.2.1, hC.2.1]
  have gJ1 : gl_232_10 Q 0 nc := by
    refine ⟨fun k hk => ?_, ?_⟩
    · obtain ⟨-, -, s, u⟩ := S k (by omega)
      refine ⟨?_, (u hk).2, vin (by omega) (by omega)⟩
      rw [s.1.2.2.1, qo 74 13 (by omega), h13]
    · obtain ⟨-, -, s, -⟩ := S nc (Nat.le_refl _)
      show (lp_232_10 Q 0 nc).2 74 13 = Q 74 13
      rw [s.1.2.2.1, qo 74 13 (by omega), h13]
  obtain ⟨n1, n2, ⟨s1, s2, s3, s4, s5, s6, s7⟩, -⟩ := S nc (Nat.le_refl _)
  have eI : v_74 I b = ((lp_74_4 I b 0 nc).1, lp_74_42 (lp_74_4 I b 0 nc).2 b nv) := by
    show ((lp_74_4 I b 0 (I b 4).toNatClampNeg).1, lp_74_42 (lp_74_4 I b 0 (I b 4).toNatClampNeg).2 b ((lp_74_4 I b 0 (I b 4).toNatClampNeg).2 b 8).toNatClampNeg) = _
    rw [hC.2.1, cl (show nc < 2 ^ 31 by omega), s2 b 8 (by omega) (by omega) (by omega) (by omega), hV.2.1, cl (show nv < 2 ^ 31 by omega)]
  have g74 : gl_74_42 (lp_74_4 I b 0 nc).2 b nv → g_74 I b := by
    intro z
    refine ⟨?_, ?_⟩
    · rw [hC.2.1, cl (show nc < 2 ^ 31 by omega)]
      exact gI1
    · show gl_74_42 (lp_74_4 I b 0 (I b 4).toNatClampNeg).2 b ((lp_74_4 I b 0 (I b 4).toNatClampNeg).2 b 8).toNatClampNeg
      rw [hC.2.1, cl (show nc < 2 ^ 31 by omega), s2 b 8 (by omega) (by omega) (by omega) (by omega), hV.2.1, cl (show nv < 2 ^ 31 by omega)]
      exact z
  rw [s3 74 18 (by omega) (by omega), qo 74 18 (by omega), h18, cl (show nv < 2 ^ 31 by omega)] at e232 g232
  have g232 : gl_232_210 (lp_232_10 Q 0 nc).2 nv → g_232 J := fun z => g232 ⟨gJ1, z⟩
  clear gI1 gJ1 S
  generalize lp_74_4 I b 0 nc = A at n1 s1 s2 s4 s5 s6 s7 eI g74
  generalize lp_232_10 Q 0 nc = R at n1 n2 s1 s3 s7 e232 g232
  have R86 : ∀ j, R.2 86 j = if j < nv ∧ J 87 j = 1 then -1 else J 86 j := fun j => by
    rw [s3 86 j (by omega) (by omega), hQ]
    exact ifc ⟨fun z => z.2, fun z => ⟨rfl, z⟩⟩
  have R87 : ∀ j, R.2 87 j = J 87 j := fun j => by rw [s3 87 j (by omega) (by omega), qo 87 j (by omega)]
  have B2 : kB b nc A.2 R.2 := fun c hc => Or.inl (s7 c hc)
  have P2 : kP b A.2 R.2 := kP_cg hP (fun k' _ => s2 (b + 7) k' (by omega) (by omega) (by omega) (by omega)) (fun k' _ => by rw [s3 84 k' (by omega) (by omega), qo 84 k' (by omega)])
  have V2 : kV b nv nc A.2 R.2 := by
    have hV0 := hV
    obtain ⟨v1, v2, v3, v4, v5, v6, m, v7, v8, v9⟩ := hV
    refine ⟨v1, ?_, ?_, fun v hv => ?_, fun v hv => ?_, fun v hv => ?_, m, v7, ?_, fun v hv => ?_⟩
    · rw [s2 b 8 (by omega) (by omega) (by omega) (by omega)]; exact v2
    · rw [s3 74 18 (by omega) (by omega), qo 74 18 (by omega)]; exact v3
    · rw [s2 (b + 8) v (by omega) (by omega) (by omega) (by omega), s3 85 v (by omega) (by omega), qo 85 v (by omega), R86]
      refine ⟨(v4 v hv).1, (v4 v hv).2.1, ?_⟩
      by_cases hvn : v < nv
      · rcases (there_eq hV0 h4 hvn).2 with ⟨t1, t2, -⟩ | ⟨t1, t2⟩
        · rw [s4 v hvn t1, if_neg (by rw [t2]; exact fun z => d10 z.2.symm)]
          exact (v4 v hv).2.2
        · rw [if_pos ⟨hvn, t2⟩]
          rcases s5 v hvn t1 with ⟨c, y1, y2, -⟩ | y
          · omega
          · exact y
      · rw [s6 v (by omega), if_neg (by omega)]
        exact (v4 v hv).2.2
    · rw [R86, R87]
      by_cases z : v < nv ∧ J 87 v = 1
      · rw [if_pos z]
        exact Or.inl ⟨rfl, z.2⟩
      · rw [if_neg z]
        exact v5 v hv
    · rw [R87]; exact v6 v hv
    · rw [s2 b 12 (by omega) (by omega) (by omega) (by omega)]; exact v8
    · rw [R87]; exact v9 v hv
  have G2 : ∀ w, w < nv → R.2 87 w = 1 → R.2 86 w = -1 := fun w hw e => by
    rw [R87] at e
    rw [R86, if_pos ⟨hw, e⟩]
  have gg := g_regather h4 hn B2 s1 P2 V2 G2
  obtain ⟨w1, w2, w3, w4, w5, -⟩ := regather h4 hn B2 s1 P2 V2 G2 nv (Nat.le_refl _)
  rw [eI, e232]
  refine ⟨g74 gg.1, g232 gg.2, n1, n2, ?_, fun q j a1 a2 a3 a4 => ?_, fun q j a1 a2 a3 a4 a5 => ?_⟩
  · show kR b nv nc tc (lp_74_42 A.2 b nv) (lp_232_210 R.2 nv)
    generalize lp_74_42 A.2 b nv = A3 at w1 w3 w4
    generalize lp_232_210 R.2 nv = R3 at w1 w2 w3 w5
    have FI : ∀ q j, q ≠ b + 4 → q ≠ b + 5 → q ≠ b + 6 → q ≠ b + 9 → A3 q j = I q j := fun q j a1 a2 a3 a4 => by
      rw [w4 q j a2 a3 a4, s2 q j a1 a2 a3 a4]
    have FJ : ∀ q j, q ≠ 80 → q ≠ 81 → q ≠ 82 → q ≠ 83 → q ≠ 86 → R3 q j = J q j := fun q j a1 a2 a3 a4 a5 => by
      rw [w5 q j a2 a3 a4 a5, s3 q j a1 a4, qo q j a5]
    refine ⟨kA_cg hA (fun c' k' _ => FI c' k' (by omega) (by omega) (by omega) (by omega)) (fun k' _ => FJ 78 k' (by omega) (by omega) (by omega) (by omega) (by omega)), kQ_cg hQ' (fun k' _ => FI (b + 3) k' (by omega) (by omega) (by omega) (by omega)) (fun k' _ => FJ 79 k' (by omega) (by omega) (by omega) (by omega) (by omega)), kC_cg s1 (fun c' k' _ => w4 c' k' (by omega) (by omega) (by omega)) (fun c' k' _ => w5 c' k' (by omega) (by omega) (by omega) (by omega)), w1, kP_cg P2 (fun k' _ => w4 (b + 7) k' (by omega) (by omega) (by omega)) (fun k' _ => w5 84 k' (by omega) (by omega) (by omega) (by omega)), w3, fun w hw c' hc' e => w2 w hw c' hc' e, ?_, r, hr1, ?_⟩
    · rw [FI b 2 (by omega) (by omega) (by omega) (by omega), FJ 74 4 (by omega) (by omega) (by omega) (by omega) (by omega)]; exact hr
    · rw [FJ 74 4 (by omega) (by omega) (by omega) (by omega) (by omega)]; exact hr2
  · show lp_74_42 A.2 b nv q j = I q j
    rw [w4 q j a2 a3 a4, s2 q j a1 a2 a3 a4]
  · show lp_232_210 R.2 nv q j = J q j
    rw [w5 q j a2 a3 a4 a5, s3 q j a1 a4, qo q j a5]
theorem op_centre (h : kR 1 nv nc tc I J) : g_124 I ∧ g_231 J ∧ (v_124 I).1 = (v_231 J).1 ∧ kR 1 nv nc tc (v_124 I).2 (v_231 J).2 := by
  have h4 := h.2.2.1.1
  have e1 := h.2.2.1.2.1
  have e2 := h.2.2.1.2.2.1
  unfold v_124 v_231 g_124 g_231
  rw [e1, e2]
  by_cases hn : nc = 0
  · subst hn
    rw [if_neg (show ¬ ¬ nI 0 = 0 by decide), if_neg (show ¬ ¬ nI 0 = 0 by decide)]
    exact ⟨fun g => absurd rfl g, fun g => absurd rfl g, rfl, h⟩
  · have hne : ¬ nI nc = 0 := by rw [show (0 : Int32) = nI 0 from rfl, nI_eq (by omega) (by omega)]; exact hn
    rw [if_pos hne, if_pos hne]
    have a := anew h (by omega)
    exact ⟨fun _ => a.1, fun _ => a.2.1, a.2.2.1, a.2.2.2.2.1⟩
end
