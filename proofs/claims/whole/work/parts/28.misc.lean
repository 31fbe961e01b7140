section
variable {b nv nc tc : Nat} {I J : WI}
/-! floats: no NaN from what is small -/
theorem vf_iff (r : UInt32) : vf_n32 r ↔ r.toNat % 2 ^ 31 ≤ 2139095040 := by
  unfold vf_n32
  rw [UInt32.le_iff_toNat_le, UInt32.toNat_and, show (0x7fffffff : UInt32).toNat = 2 ^ 31 - 1 from rfl, Nat.and_two_pow_sub_one_eq_mod]
  exact Iff.rfl
theorem vf_mag {r : UInt32} {K : Nat} (h : r.toNat % 2 ^ 31 < K * 2 ^ 23) (hK : K ≤ 255) : vf_n32 r := by
  rw [vf_iff]
  omega
theorem g31 (x : Int32) : g_31 x ∧ g_190 x := by
  have h : vf_n32 (FP.fmul (FP.i2f x) 1065353224) := vf_mag (K := 164) (by
    have := FP.Core.fmul_mag (a := FP.i2f x) (b := 1065353224) (Ka := 160) (Kb := 128) (FP.Core.i2f_mag x) (by decide) (by decide) (by decide)
    show (FP.Core.fmul (FP.i2f x) 1065353224).toNat % 2 ^ 31 < 164 * 2 ^ 23
    omega) (by decide)
  exact ⟨h, h⟩
theorem op_high (x : Int32) : g_122 x ∧ g_189 x ∧ v_122 x = v_189 x := by
  unfold v_122 v_189 g_122 g_189
  rw [show (0 : Int64) = Int32.toInt64 0 by decide, show (999999999 : Int64) = Int32.toInt64 999999999 by decide, v170_107]
  exact ⟨fun _ => (g31 x).1, fun _ => (g31 x).2, rfl⟩
theorem drawn_lp (a : Int32) : ∀ k, lp_143_4 a k = lp_259_21 a k := by
  intro k
  induction k with
  | zero => rfl
  | succ k ih => simp only [lp_143_4, lp_259_21, bx, ih]
theorem op_drawn (x1 x2 : Int32) : g_144 x1 x2 ∧ g_259 x1 x2 ∧ v_144 x1 x2 = v_259 x1 x2 := by
  unfold v_144 v_259 g_144 g_259 g_143 gl_143_4 gl_259_21 v_143
  rw [show (0 : Int64) = Int32.toInt64 0 by decide, show (2 : Int64) = Int32.toInt64 2 by decide, v170_107]
  rcases v107_cases x2 0 2 with ⟨e, h1, h2⟩ | ⟨e, -⟩
  · have t : (2 : Int32).toInt = 2 := by decide
    rw [e, if_neg d10, if_pos d10, drawn_lp]
    exact ⟨fun _ => by omega, fun _ => by omega, rfl⟩
  · rw [e, if_pos rfl, if_neg d00]
    exact ⟨fun g => absurd rfl g, fun g => absurd rfl g, rfl⟩
/-! the tape -/
def qT (I J : WI) : Prop := ∃ n : Nat, n ≤ 160 ∧ I 31 1 = nI n ∧ J 74 6 = nI n ∧ ∀ i, i < n → I 32 i = J 77 i ∧ bt 0 255 (J 77 i)
theorem op_feed (h : qT I J) (x : Int32) : g_125 I x ∧ g_191 J x ∧ (v_125 I x).1 = (v_191 J x).1 ∧ qT (v_125 I x).2 (v_191 J x).2 := by
  have hR := h
  obtain ⟨n, h1, h2, h3, h4⟩ := h
  unfold v_125 v_191 g_125 g_191
  rw [show (0 : Int64) = Int32.toInt64 0 by decide, show (255 : Int64) = Int32.toInt64 255 by decide, v170_107, h2, h3]
  rcases v107_cases x 0 255 with ⟨e, b1, b2⟩ | ⟨e, -⟩
  · rw [e, if_pos d10, if_pos d10]
    have e160 : (160 : Int32) = nI 160 := rfl
    by_cases hn : n = 160
    · subst hn
      rw [if_neg (show ¬ nI 160 < 160 by decide), if_neg (show ¬ ¬ nI 160 = 160 by decide)]
      exact ⟨fun _ g => absurd g (by decide), fun _ g => absurd rfl g, rfl, hR⟩
    · have hl : nI n < 160 := by rw [e160]; exact nI_lt (by omega) (by omega)
      have hne : ¬ nI n = 160 := by rw [e160, nI_eq (by omega) (by omega)]; exact hn
      have hle : ¬ 160 ≤ nI n := Int32.not_le.mpr hl
      have hin : vp_in (nI n) 160 := vin (by omega) (by omega)
      rw [if_pos hl, if_pos hne, cl (show n < 2 ^ 31 by omega), nI_1]
      have e83 : v_83 I x = (nI (n + 1), up2 (up2 I 32 n x) 31 1 (nI (n + 1))) := by
        unfold v_83
        rw [h2, if_neg hle, cl (show n < 2 ^ 31 by omega), nI_1]
        simp [bx, up2]
      simp only [bx, e83]
      refine ⟨fun _ _ => by unfold g_83; rw [h2]; exact fun _ => hin, fun _ _ => hin, trivial, n + 1, by omega, by simp [up2], by simp [up2], fun i hi => ?_⟩
      rw [up2_nk (c' := 32) (by omega), up2_nk (c' := 77) (by omega)]
      by_cases hin : i = n
      · subst hin
        simp only [up2, and_self, if_true]
        exact ⟨trivial, b1, b2⟩
      · rw [up2_nk (by omega), up2_nk (by omega)]
        exact h4 i (by omega)
  · rw [e, if_neg d00, if_neg d00]
    exact ⟨fun g => absurd rfl g, fun g => absurd rfl g, rfl, hR⟩
/-! a rule -/
theorem op_force (h : kR 1 nv nc tc I J) (h9 : I 0 9 = nI tc) (h3 : J 74 3 = nI tc) (h6 : tc ≤ 6) (x : Int32) : (v_127 I x).1 = (v_209 J x).1 ∧ kR 1 nv nc tc (v_127 I x).2 (v_209 J x).2 := by
  obtain ⟨hA, hQ, hC, hB, hP, hV, hN, hr, r, hr1, hr2⟩ := h
  have hR : kR 1 nv nc tc I J := ⟨hA, hQ, hC, hB, hP, hV, hN, hr, r, hr1, hr2⟩
  unfold v_127 v_209
  rw [show (0 : Int64) = Int32.toInt64 0 by decide, v170_107, h9, h3]
  rcases vnum (nv := tc) (by omega) x with ⟨e, v, hv, rfl⟩ | e
  · rw [e, if_pos d10, if_pos d10]
    have FI : ∀ c k, ¬ (c = 1 ∧ k = 2) → up2 I 1 2 (nI v) c k = I c k := fun c k a => up2_nk a
    have FJ : ∀ c k, ¬ (c = 74 ∧ k = 4) → up2 J 74 4 (nI v) c k = J c k := fun c k a => up2_nk a
    refine ⟨hr, ?_⟩
    refine ⟨kA_cg hA (fun c k _ => FI c k (by omega)) (fun k _ => FJ 78 k (by omega)), kQ_cg hQ (fun k _ => FI (1 + 3) k (by omega)) (fun k _ => FJ 79 k (by omega)), kC_cg hC (fun c k _ => FI c k (by omega)) (fun c k _ => FJ c k (by omega)), kB_cg hC.1 hB (fun c k _ => FI c k (by omega)) (fun c k _ => FJ c k (by omega)), kP_cg hP (fun k _ => FI (1 + 7) k (by omega)) (fun k _ => FJ 84 k (by omega)), kV_cg hV (fun c k _ => FI c k (by omega)) (fun c k _ => FJ c k (by omega)), kN_cg hV.1 hC.1 hN (fun c k _ => FJ c k (by omega)), ?_, v, hv, ?_⟩
    · simp [up2]
    · simp [up2]
  · rw [e, if_neg d00, if_neg d00]
    exact ⟨rfl, hR⟩
end
