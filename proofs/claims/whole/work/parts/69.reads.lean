section
variable {en : Int32 → Int32} {n r t : Nat} {T : Nat → Int32}
theorem FTs_t2 {I J : WI} (ht : 45 ≤ t ∧ t ≤ 55) (h : FTs t I J) (x : Int32) : FTs t (up2 I t 2 x) J := by
  obtain ⟨f, s, h1, h2, h3, h4, h5, h6, h7⟩ := h
  exact ⟨f, s, h1, (up2_nk (by omega)).trans h2, h3, h4, (up2_nk (by omega)).trans h5, (up2_nk (by omega)).trans h6, h7⟩
theorem NF_t2 {o st s : Nat} {I J : WI} {L : WL} (ht : 45 ≤ t ∧ t ≤ 55) (h : NF en n r T t o st s I J L) (x : Int32) : NF en n r T t o st s (up2 I t 2 x) J L := by
  obtain ⟨h1, h2, h3, h4, h5, h6, h7, h8⟩ := h
  refine ⟨bC_cg h1 (fun c k hh => up2_nk (by omega)), h2, ?_, (up2_nk (by omega)).trans h4, h5, h6, (up2_nk (by omega)).trans h7, h8⟩
  unfold Tk at h3 ⊢
  have f31 : ∀ k, up2 I t 2 x 31 k = I 31 k := fun k => up2_nk (by omega)
  rw [f31, f31, f31, f31]
  exact h3
/-- the end of the text -/
theorem endT {o st s : Nat} {I J : WI} {L : WL} (h : NF en n r T t o st s I J L) : (I 31 4 = 256 ∧ J 74 28 = 0) ∨ (¬ I 31 4 = 256 ∧ ¬ J 74 28 = 0) := by
  obtain ⟨-, -, ⟨-, -, -, hk⟩, -, -, -, -, -⟩ := h
  rcases hk with ⟨a1, a2, a3⟩ | ⟨e, a0, a1, a2, a3, a4, a5, a6, a7⟩ | ⟨e, a0, a1, a2, a3, a4, a5, a6⟩ | ⟨a0, a1, a2, a3, a4, a5, a6⟩ | ⟨a0, a1, a2⟩
  · exact Or.inl ⟨a2, a3⟩
  · exact Or.inr ⟨by rw [a4]; decide, by rw [a5]; decide⟩
  · refine Or.inr ⟨?_, by rw [a4]; decide⟩
    rcases a6 with ⟨b1, -⟩ | ⟨i, i1, i2, -, i4⟩ | ⟨b1, -⟩
    · rw [b1]; decide
    · rw [i4]
      match i, i1, i2 with
      | 6, _, _ | 7, _, _ | 8, _, _ | 9, _, _ | 10, _, _ => decide
    · rw [b1]; decide
  · exact Or.inr ⟨by rw [a4]; exact (sgn_ne a1).1, by rw [a5]; decide⟩
  · refine Or.inr ⟨?_, by rw [a1]; decide⟩
    rcases a2 with q | ⟨q1, q2, -⟩
    · rw [q]; decide
    · intro w
      rw [w] at q2
      exact absurd q2 (by decide)
/-- what reading a text comes to -/
def Rd (t : Nat) (en : Int32 → Int32) (w : Int32) (C : Int32 × WI) (Q : Int32 × WI) : Prop :=
  (∃ fl : Nat, fl ≤ 160 ∧ C.1 = nI fl ∧ ¬ Q.2 74 32 = 0 ∧ Q.2 74 33 = nI fl) ∨
  (∃ cs1 cs2 : List Int32, C.1 = -1 ∧ Q.2 74 32 = 0 ∧ cs1.length + cs2.length ≤ 160 ∧ C.2 t 1 = nI (cs1.length + cs2.length) ∧ C.2 t 2 = nI cs1.length ∧ (∀ k, k < cs1.length + cs2.length → C.2 (t + 1) k = (cs1 ++ cs2).getD k 0) ∧ ∃ p q, (∀ R, runL en cs1 R = p :: R) ∧ (∀ R, runL en cs2 R = q :: R) ∧ Q.1 = if w = 0 then p else q)
theorem readS (ht : 45 ≤ t ∧ t ≤ 55) {I J : WI} {L : WL} (hC : bC I n T) (hr : r < 6) (h76 : J 76 r = nI n) (h75 : ∀ i, i < n → J 75 (160 * r + i) = T i) (hen : enOK en J) (tt : Nat) (w : Int32) :
    g_84 I t ∧ g_193 J L (nI r) ∧ Rd t en w ((v_84 I tt t).1, (v_84 I tt t).2.1) ((v_193 J L (nI r) w).1, (v_193 J L (nI r) w).2.1) := by
  have h160 := hC.1
  -- where both begin
  obtain ⟨A, hA⟩ : ∃ A, A = up2 (up2 (v_80 I t) 31 6 (-1)) 31 3 0 := ⟨_, rfl⟩
  obtain ⟨J0, hJ0⟩ : ∃ J0, J0 = up2 (up2 (up2 (up2 (up2 J 74 25 (160 * nI r)) 74 26 (J 76 (nI r).toNatClampNeg)) 74 27 0) 74 31 0) 74 32 0 := ⟨_, rfl⟩
  have fA : ∀ c k, c ≠ t → ¬ (c = 31 ∧ (k = 3 ∨ k = 6)) → A c k = I c k := fun c k h1 h2 => by
    rw [hA]
    refine (up2_nk (by omega)).trans ((up2_nk (by omega)).trans ?_)
    unfold v_80
    exact (up2_nk (by omega)).trans (up2_nk (by omega))
  have fJ : ∀ c k, ¬ (c = 74 ∧ (k = 25 ∨ k = 26 ∨ k = 27 ∨ k = 31 ∨ k = 32)) → J0 c k = J c k := fun c k h1 => by
    rw [hJ0]
    exact (up2_nk (by omega)).trans ((up2_nk (by omega)).trans ((up2_nk (by omega)).trans ((up2_nk (by omega)).trans (up2_nk (by omega)))))
  have hAC : bC A n T := bC_cg hC (fun c k hh => fA c k (by omega) (by omega))
  have h25 : J0 74 25 = nI (160 * r) := by
    rw [hJ0]
    refine (up2_nk (by omega)).trans ((up2_nk (by omega)).trans ((up2_nk (by omega)).trans ((up2_nk (by omega)).trans ?_)))
    rw [show (160 : Int32) = nI 160 from rfl, pk_mul]
    simp [up2]
  have h26 : J0 74 26 = nI n := by
    rw [hJ0]
    refine (up2_nk (by omega)).trans ((up2_nk (by omega)).trans ((up2_nk (by omega)).trans ?_))
    rw [cl (show r < 2 ^ 31 by omega), h76]
    simp [up2]
  have h27 : J0 74 27 = nI 0 := by
    rw [hJ0]
    refine (up2_nk (by omega)).trans ((up2_nk (by omega)).trans ?_)
    simp [up2]; rfl
  have h31 : J0 74 31 = nI 0 := by
    rw [hJ0]
    refine (up2_nk (by omega)).trans ?_
    simp [up2]; rfl
  have h32 : J0 74 32 = 0 := by rw [hJ0]; simp [up2]
  have hJR : bR J0 r n T := ⟨hr, h160, h25, h26, fun i hi => ⟨(fJ _ _ (by omega)).trans (h75 i hi), (hC.2.2 i hi).2⟩⟩
  have a3 : A 31 3 = nI 0 := by rw [hA]; simp [up2]; rfl
  have a6 : A 31 6 = -1 := by rw [hA]; exact (up2_nk (by omega)).trans (by simp [up2])
  have at1 : A t 1 = nI 0 := by
    rw [hA]
    refine (up2_nk (by omega)).trans ((up2_nk (by omega)).trans ?_)
    unfold v_80
    exact (up2_nk (by omega)).trans (by simp [up2]; rfl)
  obtain ⟨g1, g2, st, s1, s2⟩ := lex (L := L) hAC hJR a3 h27 (Nat.zero_le _)
  have hNF : NF en n r T t 0 st 0 (v_85 A) (v_194 J0 L).1 (v_194 J0 L).2 := by
    refine ⟨bC_cg hAC (fun c k hh => frI_v_85 (by omega)), bR_cg hJR (fun c k hh => frI_v_194 (by omega)), s2, ?_, ?_, ?_, ?_, ?_⟩
    · rw [frI_v_85 (by omega)]; exact a6
    · rw [frI_v_194 (by omega)]; exact h32
    · rw [frI_v_194 (by omega)]; exact h31
    · rw [frI_v_85 (by omega)]; exact at1
    · exact enOK_cg hen (fun k k1 k2 => by rw [frI_v_194 (by omega)]; exact fJ _ _ (by omega))
  have qf : ∀ K : WI, v_196 K 102 105 116 115 0 0 0 0 = qW K (sByt.getD 6 []) := fun K => rfl
  have qa : ∀ K : WI, v_196 K 97 100 100 115 0 0 0 0 = qW K (sByt.getD 7 []) := fun K => rfl
  have e260 : nI (254 + 6) = 260 := rfl
  have e261 : nI (254 + 7) = 261 := rfl
  obtain ⟨x1, x2, x3, x4, x5⟩ := partS ht (i := 6) (by decide) (by decide) hNF (Nat.zero_le _)
  rw [e260] at x1 x2 x3 x5
  -- what both do, step by step
  obtain ⟨P5, hP5⟩ : ∃ P, v_95 (pcc (v_95 (v_85 A) 260) t 0) 59 = P := ⟨_, rfl⟩
  obtain ⟨P8, hP8⟩ : ∃ P, v_95 (pcc (v_95 (up2 P5 t 2 (P5 t 1)) 261) t 0) 59 = P := ⟨_, rfl⟩
  obtain ⟨Q2, hQ2⟩ : ∃ Q, v_198 (v_194 J0 L).1 (v_194 J0 L).2 (qW (v_194 J0 L).1 (sByt.getD 6 [])) = Q := ⟨_, rfl⟩
  have e84 : v_84 I tt t = ((if P8 31 4 = 256 then P8 else v_96 P8) 31 6, up2 (if P8 31 4 = 256 then P8 else v_96 P8) 31 1 0, t) := by
    unfold v_84
    rw [bxd, ← hA, bxd, bxd, bxd, bxv hP5, bxd, bxd, bxv hP8]
    split <;> rfl
  have g84 : g_95 (v_85 A) 260 → okcc (v_95 (v_85 A) 260) t 0 → g_95 (pcc (v_95 (v_85 A) 260) t 0) 59 → g_95 (up2 P5 t 2 (P5 t 1)) 261 → okcc (v_95 (up2 P5 t 2 (P5 t 1)) 261) t 0 → g_95 (pcc (v_95 (up2 P5 t 2 (P5 t 1)) 261) t 0) 59 → g_84 I t := by
    intro y1 y2 y3 y4 y5 y6
    unfold g_84
    rw [bxp, ← hA]
    refine ⟨g1, ?_⟩
    rw [bxp]
    refine ⟨y1, ?_⟩
    rw [bxp]
    refine ⟨y2, ?_⟩
    rw [bxp]
    refine ⟨y3, ?_⟩
    rw [bxw hP5]
    refine ⟨y4, ?_⟩
    rw [bxp]
    refine ⟨y5, ?_⟩
    rw [bxp]
    exact y6
  rw [hP5, hQ2] at x5
  rw [e84]
  rcases x5 with x5 | ⟨st1, u1, s1', cs1, b1, b2, b3, b4, b5, b6⟩
  · -- a fault in the first part
    have f3 := FT_bad x5
    have h5 := FTs_t2 ht x5 (P5 t 1)
    have z1 := ftE h5 (x := 261) (by decide)
    have z2 := ftP h5
    have z3 := ftE h5 (x := 59) (by decide)
    have e8 : P8 = up2 P5 t 2 (P5 t 1) := by rw [← hP8, z1.1, z2.1, z3.1]
    have n4 : ¬ P8 31 4 = 256 := by rw [e8]; exact FT_tok h5 (by decide)
    have e193 : v_193 J L (nI r) w = if ¬ w = 0 then (0, Q2.2.1, Q2.2.2) else (Q2.1, Q2.2.1, Q2.2.2) := by
      have k4 : (if Q2.2.1 74 32 = 0 then bx (v_198 Q2.2.1 Q2.2.2 (v_196 Q2.2.1 97 100 100 115 0 0 0 0)) (fun p3 => (p3.1, p3.2.1, p3.2.2)) else (0, Q2.2.1, Q2.2.2)) = (0, Q2.2.1, Q2.2.2) := if_neg f3
      have k6 : (if ¬ Q2.2.1 74 32 = 0 then Q2.2.1 else (if Q2.2.1 74 28 = 0 then Q2.2.1 else bx (v_199 Q2.2.1) (fun p5 => p5))) = Q2.2.1 := if_pos f3
      unfold v_193
      rw [← hJ0, bxd, qf, bxv hQ2, bxv k4, bxv k6]
    rw [e193]
    refine ⟨g84 x1 x2 x3 (by rw [z1.1] at *; exact z1.2) (by rw [z1.1]; exact z2.2) (by rw [z1.1, z2.1]; exact z3.2), ?_, Or.inl ?_⟩
    · unfold g_193
      rw [← hJ0]
      refine ⟨vin hr (by omega), g2, ?_⟩
      rw [bxp, qf]
      refine ⟨gW hNF _ _ _ _ _ _ _, x4, ?_⟩
      rw [bxw hQ2]
      exact fun q => absurd q f3
    · rw [if_neg n4, e8, (v96F h5).1]
      obtain ⟨f, s, y1, y2, y3, y4, y5, y6, y7⟩ := h5
      refine ⟨f, y1, y2, ?_, ?_⟩
      · split <;> exact y3
      · split <;> exact y4
  · have hst1 := b1.2.2.1.1
    have h2N := NF_t2 ht b1 (P5 t 1)
    obtain ⟨y1, y2, y3, y4, y5⟩ := partS ht (i := 7) (by decide) (by decide) h2N (by omega)
    rw [e261] at y1 y2 y3 y5
    obtain ⟨Q3, hQ3⟩ : ∃ Q, v_198 Q2.2.1 Q2.2.2 (qW Q2.2.1 (sByt.getD 7 [])) = Q := ⟨_, rfl⟩
    have hb32 := b1.2.2.2.2.1
    rw [hP8, hQ3] at y5
    have k4 : (if Q2.2.1 74 32 = 0 then bx (v_198 Q2.2.1 Q2.2.2 (v_196 Q2.2.1 97 100 100 115 0 0 0 0)) (fun p3 => (p3.1, p3.2.1, p3.2.2)) else (0, Q2.2.1, Q2.2.2)) = Q3 := by
      rw [if_pos hb32, qa, bxd, hQ3]
    have gg : g_193 J L (nI r) := by
      unfold g_193
      rw [← hJ0]
      refine ⟨vin hr (by omega), g2, ?_⟩
      rw [bxp, qf]
      refine ⟨gW hNF _ _ _ _ _ _ _, x4, ?_⟩
      rw [bxw hQ2, qa]
      exact fun _ => ⟨gW h2N _ _ _ _ _ _ _, y4⟩
    have gc := g84 x1 x2 x3 y1 y2 y3
    have t31 : 31 ≠ t := by omega
    rcases y5 with y5 | ⟨st2, u2, s2', cs2, c1, c2, c3, c4, c5, c6⟩
    · -- a fault in the second
      have f3 := FT_bad y5
      have n4 : ¬ P8 31 4 = 256 := FT_tok y5 (by decide)
      have k6 : (if ¬ Q3.2.1 74 32 = 0 then Q3.2.1 else (if Q3.2.1 74 28 = 0 then Q3.2.1 else bx (v_199 Q3.2.1) (fun p5 => p5))) = Q3.2.1 := if_pos f3
      have e193 : v_193 J L (nI r) w = if ¬ w = 0 then (Q3.1, Q3.2.1, Q3.2.2) else (Q2.1, Q3.2.1, Q3.2.2) := by
        unfold v_193
        rw [← hJ0, bxd, qf, bxv hQ2, bxv k4, bxv k6]
      rw [e193, if_neg n4, (v96F y5).1]
      refine ⟨gc, gg, Or.inl ?_⟩
      obtain ⟨f, s, z1, z2, z3, z4, z5, z6, z7⟩ := y5
      refine ⟨f, z1, z2, ?_, ?_⟩
      · split <;> exact z3
      · split <;> exact z4
    · have hc32 := c1.2.2.2.2.1
      have hc160 := c1.2.2.1.1
      rcases endT c1 with ⟨z1, z2⟩ | ⟨z1, z2⟩
      · -- all is read
        have k6 : (if ¬ Q3.2.1 74 32 = 0 then Q3.2.1 else (if Q3.2.1 74 28 = 0 then Q3.2.1 else bx (v_199 Q3.2.1) (fun p5 => p5))) = Q3.2.1 := by
          rw [if_neg (show ¬ ¬ Q3.2.1 74 32 = 0 from fun q => q hc32), if_pos z2]
        have e193 : v_193 J L (nI r) w = if ¬ w = 0 then (Q3.1, Q3.2.1, Q3.2.2) else (Q2.1, Q3.2.1, Q3.2.2) := by
          unfold v_193
          rw [← hJ0, bxd, qf, bxv hQ2, bxv k4, bxv k6]
        have l1 : s1' = cs1.length := by omega
        have l2 : s2' = cs1.length + cs2.length := by omega
        -- the first part's size has stayed
        have ft2 : ∀ (K : WI) (x : Int32), v_95 K x t 2 = K t 2 := fun K x => frI_v_95 (by omega)
        have fp2 : ∀ K : WI, pcc K t 0 t 2 = K t 2 := fun K => frI_pcc (by omega) (by omega) (by omega)
        have p82 : P8 t 2 = nI cs1.length := by
          rw [← hP8, ft2, fp2, ft2, ← l1, ← b1.2.2.2.2.2.2.1]
          simp [up2]
        have hcode : ∀ k, k < cs1.length + cs2.length → P8 (t + 1) k = (cs1 ++ cs2).getD k 0 := by
          intro k hk
          rw [getD_app]
          by_cases z : k < cs1.length
          · rw [if_pos z, c4 k (by omega), up2_nk (by omega), ← b5 k z, Nat.zero_add]
          · rw [if_neg z, ← c5 (k - cs1.length) (by omega), l1, show cs1.length + (k - cs1.length) = k by omega]
        rw [e193, if_pos z1]
        refine ⟨gc, gg, Or.inr ⟨cs1, cs2, c1.2.2.2.1, ?_, by omega, ?_, ?_, fun k hk => ?_, Q2.1, Q3.1, b6, c6, ?_⟩⟩
        · split <;> exact hc32
        · show up2 P8 31 1 0 t 1 = _
          rw [up2_nk (by omega), c1.2.2.2.2.2.2.1, l2]
        · show up2 P8 31 1 0 t 2 = _
          rw [up2_nk (by omega)]; exact p82
        · show up2 P8 31 1 0 (t + 1) k = _
          rw [up2_nk (by omega)]; exact hcode k hk
        · by_cases q : w = 0
          · rw [if_neg (show ¬ ¬ w = 0 from fun z => z q), if_pos q]
          · rw [if_pos q, if_neg q]
      · -- more than a text
        have hf := failS c1 ht (by omega)
        have f3 := FT_bad hf
        have k6 : (if ¬ Q3.2.1 74 32 = 0 then Q3.2.1 else (if Q3.2.1 74 28 = 0 then Q3.2.1 else bx (v_199 Q3.2.1) (fun p5 => p5))) = v_199 Q3.2.1 := by
          rw [if_neg (show ¬ ¬ Q3.2.1 74 32 = 0 from fun q => q hc32), if_neg z2, bxd]
        have e193 : v_193 J L (nI r) w = if ¬ w = 0 then (Q3.1, v_199 Q3.2.1, Q3.2.2) else (Q2.1, v_199 Q3.2.1, Q3.2.2) := by
          unfold v_193
          rw [← hJ0, bxd, qf, bxv hQ2, bxv k4, bxv k6]
        rw [e193, if_neg z1]
        refine ⟨gc, gg, Or.inl ?_⟩
        obtain ⟨f, s, w1, w2, w3, w4, w5, w6, w7⟩ := hf
        refine ⟨f, w1, w2, ?_, ?_⟩
        · split <;> exact w3
        · split <;> exact w4
end
