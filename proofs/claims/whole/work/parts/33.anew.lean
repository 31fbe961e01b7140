section
variable {b nv nc tc : Nat} {I J : WI}
theorem l230m {a : Int32} : ∀ k, k ≤ 12 → ∀ q j, (lp_230_4 J (-1) a k).2 q j = if q = 86 ∧ j < k ∧ J 87 j = 1 then -1 else J q j := by
  intro k
  induction k with
  | zero => intro _ q j; rw [if_neg (by omega)]; rfl
  | succ k ih =>
    intro hk q j
    have ih := ih (by omega)
    simp only [lp_230_4, bx, cl (show k < 2 ^ 31 by omega)]
    generalize lp_230_4 J (-1) a k = P at ih
    have e6 : P.2 86 k = J 86 k := by rw [ih, if_neg (by omega)]
    have e7 : P.2 87 k = J 87 k := by rw [ih, if_neg (by omega)]
    rw [e6, e7, if_pos trivial]
    by_cases h2 : J 87 k = 1
    · rw [if_neg (fun a => a h2)]
      by_cases h3 : J 86 k = -1
      · rw [if_pos h3]
        show P.2 q j = _
        rw [ih]
        by_cases h : q = 86 ∧ j = k
        · obtain ⟨rfl, rfl⟩ := h
          rw [if_neg (by omega), if_pos ⟨rfl, by omega, h2⟩]
          exact h3
        · exact ifc ⟨fun z => ⟨z.1, by omega, z.2.2⟩, fun z => ⟨z.1, by omega, z.2.2⟩⟩
      · rw [if_neg h3]
        show up2 P.2 86 k (-1) q j = _
        by_cases h : q = 86 ∧ j = k
        · obtain ⟨rfl, rfl⟩ := h
          rw [if_pos ⟨rfl, by omega, h2⟩]
          simp [up2]
        · rw [up2_nk h, ih]
          exact ifc ⟨fun z => ⟨z.1, by omega, z.2.2⟩, fun z => ⟨z.1, by omega, z.2.2⟩⟩
    · rw [if_pos h2]
      show P.2 q j = _
      rw [ih]
      refine ifc ⟨fun z => ⟨z.1, by omega, z.2.2⟩, fun z => ⟨z.1, ?_, z.2.2⟩⟩
      rcases Nat.lt_or_ge j k with y | y
      · exact y
      · obtain rfl : j = k := by omega
        exact absurd z.2.2 h2
theorem g73 {c : Nat} (h12 : nv ≤ 12) (h8 : I b 8 = nI nv) : g_73 I b (nI c) := by
  unfold g_73
  rw [h8, cl (show nv < 2 ^ 31 by omega)]
  refine ⟨fun k hk => ⟨?_, vin (by omega) (by omega), fun _ _ => vin (by omega) (by omega)⟩, ?_⟩
  · show (lp_73_4 I b (nI c) 0 k).2 b 8 = I b 8
    rw [l73 k (by omega), if_neg (by omega)]
  · show (lp_73_4 I b (nI c) 0 nv).2 b 8 = I b 8
    rw [l73 nv h12, if_neg (by omega)]
theorem g230m (h12 : nv ≤ 12) (h18 : J 74 18 = nI nv) : g_230 J (-1) := by
  unfold g_230
  rw [h18, cl (show nv < 2 ^ 31 by omega)]
  refine ⟨fun k hk => ⟨?_, vin (by omega) (by omega), fun _ => ⟨vin (by omega) (by omega), fun _ => ⟨fun _ => vin (by omega) (by omega), fun _ => ⟨vin (by omega) (by omega), fun _ => vin (by omega) (by omega)⟩⟩⟩⟩, ?_⟩
  · show (lp_230_4 J (-1) 0 k).2 74 18 = J 74 18
    rw [l230m k (by omega), if_neg (by omega)]
  · show (lp_230_4 J (-1) 0 nv).2 74 18 = J 74 18
    rw [l230m nv h12, if_neg (by omega)]
theorem kV_come {v c : Nat} (h4 : nc ≤ 4) (hV : kV b nv nc I J) (hv : v < nv) (hc : c < nc) : kV b nv nc (v_60 I b (nI v) (nI c)) (v_177 J (nI v) (nI c)) := by
  obtain ⟨v1, v2, v3, v4, v5, v6, m, v7, v8, v9⟩ := hV
  have FI : ∀ q j, q ≠ b + 5 → q ≠ b + 6 → q ≠ b + 9 → v_60 I b (nI v) (nI c) q j = I q j := fun q j a1 a2 a3 => by
    rw [v60_pt (by omega) (by omega), if_neg (by omega), if_neg (by omega), if_neg (by omega)]
  have FJ : ∀ q j, q ≠ 81 → q ≠ 82 → q ≠ 83 → q ≠ 86 → v_177 J (nI v) (nI c) q j = J q j := fun q j a1 a2 a3 a4 => by
    rw [v177_pt (by omega) (by omega), if_neg (by omega), if_neg (by omega), if_neg (by omega), if_neg (by omega)]
  have G9 : ∀ j, v_60 I b (nI v) (nI c) (b + 9) j = if j = v then nI c else I (b + 9) j := fun j => by
    rw [v60_pt (by omega) (by omega), if_neg (show ¬ (b + 9 = b + 5 ∧ 3 * c ≤ j ∧ j < 3 * c + 3) by omega), if_neg (show ¬ (b + 9 = b + 6 ∧ 3 * c ≤ j ∧ j < 3 * c + 3) by omega)]
    exact ifc ⟨fun z => z.2, fun z => ⟨rfl, z⟩⟩
  have G6 : ∀ j, v_177 J (nI v) (nI c) 86 j = if j = v then nI c else J 86 j := fun j => by
    rw [v177_pt (by omega) (by omega), if_neg (by omega), if_neg (show ¬ (86 = 81 ∧ 3 * c ≤ j ∧ j < 3 * c + 3) by omega), if_neg (show ¬ (86 = 82 ∧ 3 * c ≤ j ∧ j < 3 * c + 3) by omega)]
    exact ifc ⟨fun z => z.2, fun z => ⟨rfl, z⟩⟩
  refine ⟨v1, ?_, ?_, fun w hw => ?_, fun w hw => ?_, fun w hw => ?_, m, v7, ?_, fun w hw => ?_⟩
  · rw [FI b 8 (by omega) (by omega) (by omega)]; exact v2
  · rw [FJ 74 18 (by omega) (by omega) (by omega) (by omega)]; exact v3
  · rw [FI (b + 8) w (by omega) (by omega) (by omega), FJ 85 w (by omega) (by omega) (by omega) (by omega), G9, G6, (v4 w hw).2.2]
    exact ⟨(v4 w hw).1, (v4 w hw).2.1, rfl⟩
  · rw [G6, FJ 87 w (by omega) (by omega) (by omega) (by omega)]
    by_cases z : w = v
    · rw [if_pos z]
      exact Or.inr ⟨c, hc, rfl⟩
    · rw [if_neg z]
      exact v5 w hw
  · rw [FJ 87 w (by omega) (by omega) (by omega) (by omega)]; exact v6 w hw
  · rw [FI b 12 (by omega) (by omega) (by omega)]; exact v8
  · rw [FJ 87 w (by omega) (by omega) (by omega) (by omega)]; exact v9 w hw
/-! all boxes made anew -/
def kNp (nc k : Nat) (J : WI) : Prop := ∀ w, w < k → ∀ c', c' < nc → J 86 w = nI c' → J 83 c' = 1 ∧ ∀ i, i < 3 → (J 81 (3 * c' + i)).toInt ≤ (J 84 (3 * w + i)).toInt ∧ (J 84 (3 * w + i)).toInt ≤ (J 82 (3 * c' + i)).toInt
theorem come_kNp {c k : Nat} (h12 : k < 12) (h4 : nc ≤ 4) (hc : c < nc) (h : kNp nc k J) : kNp nc (k + 1) (v_177 J (nI k) (nI c)) :=
  come_kN (nv := k + 1) (by omega) (by omega) hc h4 (fun w hw hwk c' hc' e => h w (by omega) c' hc' e)
theorem regather (h4 : nc ≤ 4) (hn : 0 < nc) (hB : kB b nc I J) (hC : kC b nc I J) (hP : kP b I J) (hV : kV b nv nc I J) (hg : ∀ w, w < nv → J 87 w = 1 → J 86 w = -1) : ∀ k, k ≤ nv →
    kB b nc (lp_74_42 I b k) (lp_232_210 J k) ∧ kNp nc k (lp_232_210 J k) ∧ kV b nv nc (lp_74_42 I b k) (lp_232_210 J k) ∧
      (∀ q j, q ≠ b + 5 → q ≠ b + 6 → q ≠ b + 9 → lp_74_42 I b k q j = I q j) ∧ (∀ q j, q ≠ 81 → q ≠ 82 → q ≠ 83 → q ≠ 86 → lp_232_210 J k q j = J q j) ∧ (∀ w, w < nv → J 87 w = 1 → lp_232_210 J k 86 w = -1) := by
  intro k
  induction k with
  | zero => intro _; exact ⟨hB, fun w hw => absurd hw (Nat.not_lt_zero w), hV, fun _ _ _ _ _ => rfl, fun _ _ _ _ _ _ => rfl, hg⟩
  | succ k ih =>
    intro hk
    have h12 := hV.1
    obtain ⟨i1, i2, i3, i4, i5, i6⟩ := ih (by omega)
    simp only [lp_74_42, lp_232_210, bx]
    generalize lp_74_42 I b k = P at i1 i3 i4
    generalize lp_232_210 J k = Q at i1 i2 i3 i5 i6
    have C2 : kC b nc P Q := kC_cg hC (fun c' k' _ => i4 c' k' (by omega) (by omega) (by omega)) (fun c' k' _ => i5 c' k' (by omega) (by omega) (by omega) (by omega))
    have P2 : kP b P Q := kP_cg hP (fun k' _ => i4 (b + 7) k' (by omega) (by omega) (by omega)) (fun k' _ => i5 84 k' (by omega) (by omega) (by omega) (by omega))
    have th := there_eq i3 h4 (v := k) (by omega)
    have e87 : ∀ w, Q 87 w = J 87 w := fun w => i5 87 w (by omega) (by omega) (by omega) (by omega)
    rcases th with ⟨t1, ⟨t2, t3, -⟩ | ⟨t2, t3⟩⟩
    · rw [← t1, t2, if_neg d10, if_neg d10]
      have en := near_eq C2 P2 (v := k) (by omega)
      obtain ⟨c, hc, ec⟩ := near_in C2 (v := k) hn
      rw [en, ec]
      refine ⟨come_kB (by omega) hc h4 i1 P2, come_kNp (by omega) h4 hc i2, kV_come h4 i3 (by omega) hc, fun q j a1 a2 a3 => ?_, fun q j a1 a2 a3 a4 => ?_, fun w hw hww => ?_⟩
      · rw [v60_pt (by omega) (by omega), if_neg (by omega), if_neg (by omega), if_neg (by omega)]
        exact i4 q j a1 a2 a3
      · rw [v177_pt (by omega) (by omega), if_neg (by omega), if_neg (by omega), if_neg (by omega), if_neg (by omega)]
        exact i5 q j a1 a2 a3 a4
      · have wk : w ≠ k := by
          intro z
          subst z
          rw [e87, hww] at t3
          exact d10 t3
        rw [v177_pt (by omega) (by omega), if_neg (by omega), if_neg (by omega), if_neg (by omega), if_neg (by omega)]
        exact i6 w hw hww
    · rw [← t1, t2, if_pos rfl, if_pos rfl]
      refine ⟨i1, fun w hw c' hc' e => ?_, i3, i4, i5, i6⟩
      by_cases z : w = k
      · subst z
        rw [i6 w (by omega) (by rw [← e87]; exact t3)] at e
        exact absurd e.symm (nIm1 (by omega))
      · exact i2 w (by omega) c' hc' e
theorem g_regather (h4 : nc ≤ 4) (hn : 0 < nc) (hB : kB b nc I J) (hC : kC b nc I J) (hP : kP b I J) (hV : kV b nv nc I J) (hg : ∀ w, w < nv → J 87 w = 1 → J 86 w = -1) : gl_74_42 I b nv ∧ gl_232_210 J nv := by
  have h12 := hV.1
  have R := regather h4 hn hB hC hP hV hg
  have near : ∀ k, k < nv → (g_58 (lp_74_42 I b k) b (nI k) ∧ g_60 (lp_74_42 I b k) b (nI k) (v_58 (lp_74_42 I b k) b (nI k))) ∧ (g_176 (lp_232_210 J k) (nI k) ∧ g_177 (lp_232_210 J k) (nI k) (v_176 (lp_232_210 J k) (nI k))) := by
    intro k hk
    obtain ⟨i1, i2, i3, i4, i5, i6⟩ := R k (by omega)
    generalize lp_74_42 I b k = P at i1 i3 i4
    generalize lp_232_210 J k = Q at i1 i2 i3 i5 i6
    have C2 : kC b nc P Q := kC_cg hC (fun c' k' _ => i4 c' k' (by omega) (by omega) (by omega)) (fun c' k' _ => i5 c' k' (by omega) (by omega) (by omega) (by omega))
    have P2 : kP b P Q := kP_cg hP (fun k' _ => i4 (b + 7) k' (by omega) (by omega) (by omega)) (fun k' _ => i5 84 k' (by omega) (by omega) (by omega) (by omega))
    have en := near_eq C2 P2 (v := k) (by omega)
    obtain ⟨c, hc, ec⟩ := near_in C2 (v := k) hn
    have gn := g_near C2 (v := k) (by omega)
    have gc := g_come (I := P) (J := Q) (b := b) (v := k) (c := c) (by omega) (by omega)
    rw [en, ec]
    exact ⟨⟨gn.1, gc.1⟩, gn.2, gc.2⟩
  refine ⟨⟨fun k hk => ⟨(R k (by omega)).2.2.2.1 b 8 (by omega) (by omega) (by omega), fun _ => (near k hk).1⟩, (R nv (Nat.le_refl _)).2.2.2.1 b 8 (by omega) (by omega) (by omega)⟩, ⟨fun k hk => ⟨(R k (by omega)).2.2.2.2.1 74 18 (by omega) (by omega) (by omega) (by omega), g180 (by omega), fun _ => (near k hk).2⟩, (R nv (Nat.le_refl _)).2.2.2.2.1 74 18 (by omega) (by omega) (by omega) (by omega)⟩⟩
end
