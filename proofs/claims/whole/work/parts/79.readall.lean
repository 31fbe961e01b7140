section
variable {S : Nat → List Int32 × List Int32} {b nv nc tc r v : Nat} {I J J' : WI} {L L' : WL}
/-- all but what reading all of them changes -/
def RX (J J' : WI) : Prop := ∀ c k, ¬ (c = 74 ∧ 19 ≤ k ∧ k ≤ 33) → c ≠ 88 → c ≠ 89 → ¬ (96 ≤ c ∧ c ≤ 98) → J' c k = J c k
theorem RX_of (h : RO J J') : RX J J' := fun c k a b d _ => h c k a b d
theorem RX_tr {J2 : WI} (h : RX J J') (h2 : RX J' J2) : RX J J2 := fun c k a b d e => (h2 c k a b d e).trans (h c k a b d e)
theorem WJ_cx (h : WJ S b nv nc tc r I J L) (hR : RX J J') (hM : kM S tc J' L') : WJ S b nv nc tc r I J' L' := by
  obtain ⟨h1, h2, h3, h4, h5, h6⟩ := h
  exact ⟨kR_cgJ h1 (fun c k hh => hR c k (by omega) (by omega) (by omega) (by omega)), fun q hq => TxtP_cg (h2 q hq) (fun _ _ _ => rfl) (fun c k hh => hR c k (by omega) (by omega) (by omega) (by omega)), h3, hM, h5, (hR _ _ (by omega) (by omega) (by omega) (by omega)).trans h6⟩
theorem enR_cx (hR : RX J J') : enR J' v = enR J v := by
  unfold enR
  have f : ∀ c k, 84 ≤ c → c ≤ 86 → J' c k = J c k := fun c k h1 h2 => hR c k (by omega) (by omega) (by omega) (by omega)
  rw [f 84 _ (by omega) (by omega), f 84 _ (by omega) (by omega), f 84 _ (by omega) (by omega), f 85 _ (by omega) (by omega), f 86 _ (by omega) (by omega)]
theorem FT_cx (hR : RX J J') : FT S r J' v ↔ FT S r J v := by
  unfold FT
  rw [enR_cx hR, hR 87 v (by omega) (by omega) (by omega) (by omega)]
theorem PU_cx (hR : RX J J') : PU S r J' v = PU S r J v := by
  unfold PU
  rw [enR_cx hR]
theorem kM_cg {cnt : Nat} (h : kM S cnt J L) (hJ : ∀ k, J' 89 k = J 89 k) : kM S cnt J' L := fun q hq => by
  rcases h q hq with a | ⟨r', a1, w, x, y, z, g, v', c, a2, a3, a4⟩
  · exact Or.inl a
  · exact Or.inr ⟨r', a1, w, x, y, z, g, v', c, a2, a3, (hJ q).trans a4⟩
theorem st238 {J1 : WI} {L1 : WL} {J0 : WI} {L0 : WL} {k : Nat} {P2 : Int32 × WI × WL} (h : v_213 J1 L1 (nI k) = P2) : st_238_2 J0 L0 k (J1, L1) = bx ((v_217 (up2 P2.2.1 97 (nI k).toNatClampNeg (vp_nar (bT 0) P2.1)) P2.2.2 (nI k)) : Int32 × WI × WL) (fun p3 => ((up2 (up2 p3.2.1 96 (nI k).toNatClampNeg p3.1) 98 (nI k).toNatClampNeg (vp_nar (bT 0) 0)), p3.2.2)) := by
  subst h
  unfold st_238_2
  dsimp only [bx]
theorem na01 {x : Int32} (h : x = 0 ∨ x = 1) : vp_nar (bT 0) x = x := by
  rcases h with a | a
  · rw [a]; decide
  · rw [a]; decide
/-- the reference reads them all -/
theorem readAll (h : WJ S b nv nc tc r I J L) (h37 : ∀ v, v < nv → I 37 v = PU S r J v) : ∀ k, k ≤ nv → gl_238_2 J L k ∧ ∃ (J' : WI) (L' : WL), lp_238_2 J L k = (J', L') ∧ RX J J' ∧ kM S tc J' L' ∧ ∀ j, j < k → (J' 97 j = 0 ∨ J' 97 j = 1) ∧ (J' 97 j = 1 ↔ FT S r J j) ∧ J' 96 j = v_22 I b (nI j) ∧ J' 98 j = 0 ∧ g_22 I b (nI j) := by
  have h12 : nv ≤ 12 := by obtain ⟨⟨-, -, -, -, -, kv, -⟩, -⟩ := h; exact kv.1
  intro k
  induction k with
  | zero => exact fun _ => ⟨⟨fun j hj => absurd hj (Nat.not_lt_zero _), rfl⟩, J, L, rfl, fun _ _ _ _ _ _ => rfl, h.2.2.2.1, fun j hj => absurd hj (Nat.not_lt_zero _)⟩
  | succ k ih =>
    intro hk
    obtain ⟨⟨g2, g2'⟩, J1, L1, t3, t4, t5, t6⟩ := ih (by omega)
    obtain ⟨r1, r2, r3, r4, r5, r6⟩ := WJ_cx h t4 t5
    obtain ⟨f1, f2, f3, f4⟩ := refFit r1 r2 r3 r4 r5 r6 (show k < nv by omega)
    have ro1 : RO J1 (v_213 J1 L1 (nI k)).2.1 := ro213
    have e18 : J1 74 18 = J 74 18 := t4 _ _ (by omega) (by omega) (by omega) (by omega)
    have ek : (nI k).toNatClampNeg = k := cl (by omega)
    have estep : lp_238_2 J L (k + 1) = st_238_2 J L k (J1, L1) := by rw [← t3]; rfl
    obtain ⟨P2, hP⟩ : ∃ P2, v_213 J1 L1 (nI k) = P2 := ⟨_, rfl⟩
    rw [hP] at f2 f3 f4 ro1
    have w0 := WJ_cx h t4 t5
    obtain ⟨D, hD⟩ : ∃ D, D = up2 P2.2.1 97 (nI k).toNatClampNeg (vp_nar (bT 0) P2.1) := ⟨_, rfl⟩
    have fD : ∀ c j, ¬ (c = 97 ∧ j = k) → D c j = P2.2.1 c j := fun c j hh => by rw [hD, ek]; exact up2_nk (by omega)
    have d97 : D 97 k = P2.1 := by rw [hD, ek, up2_pt, na01 f2]
    have rxD : RX J D := fun c j a b d e => (fD c j (by omega)).trans ((ro1 c j a b d).trans (t4 c j a b d e))
    have kD : kM S tc D P2.2.2 := kM_cg f4 (fun j => fD _ _ (by omega))
    obtain ⟨s1, s2, s3, s4, s5, s6⟩ := WJ_cx h rxD kD
    obtain ⟨a1, a2, a3, a4⟩ := refFar s1 s2 s3 s4 s5 s6 (show k < nv by omega) ((h37 k (by omega)).trans (PU_cx rxD).symm)
    have ro3 : RO D (v_217 D P2.2.2 (nI k)).2.1 := ro217
    have fin : ∃ (J' : WI) (L' : WL), lp_238_2 J L (k + 1) = (J', L') ∧ RX J J' ∧ kM S tc J' L' ∧ ∀ j, j < k + 1 → (J' 97 j = 0 ∨ J' 97 j = 1) ∧ (J' 97 j = 1 ↔ FT S r J j) ∧ J' 96 j = v_22 I b (nI j) ∧ J' 98 j = 0 ∧ g_22 I b (nI j) := by
      rw [estep, st238 hP, ← hD, ek, na01 (Or.inl rfl)]
      generalize v_217 D P2.2.2 (nI k) = Q at a3 a4 ro3
      rw [bxd]
      have fQ : ∀ c j, ¬ (c = 96 ∧ j = k) → ¬ (c = 98 ∧ j = k) → up2 (up2 Q.2.1 96 k Q.1) 98 k 0 c j = Q.2.1 c j := fun c j h1 h2 => (up2_nk (by omega)).trans (up2_nk (by omega))
      refine ⟨_, _, rfl, fun c j a b d e => (fQ c j (by omega) (by omega)).trans ((ro3 c j a b d).trans (rxD c j a b d e)), kM_cg a4 (fun j => fQ _ _ (by omega) (by omega)), fun j hj => ?_⟩
      have q97 : up2 (up2 Q.2.1 96 k Q.1) 98 k 0 97 j = D 97 j := (fQ _ _ (by omega) (by omega)).trans (ro3 _ _ (by omega) (by omega) (by omega))
      rw [q97]
      by_cases y : j = k
      · subst y
        rw [d97]
        exact ⟨f2, f3.trans (FT_cx t4), (up2_nk (by omega)).trans (up2_pt.trans a3.symm), up2_pt, a1⟩
      · have z := t6 j (by omega)
        have e97 : D 97 j = J1 97 j := (fD _ _ (by omega)).trans (ro1 _ _ (by omega) (by omega) (by omega))
        rw [e97, fQ 96 j (by omega) (by omega), fQ 98 j (by omega) (by omega), ro3 96 j (by omega) (by omega) (by omega), ro3 98 j (by omega) (by omega) (by omega), fD 96 j (by omega), fD 98 j (by omega), ro1 96 j (by omega) (by omega) (by omega), ro1 98 j (by omega) (by omega) (by omega)]
        exact z
    refine ⟨⟨fun j hj => ?_, ?_⟩, fin⟩
    · by_cases y : j = k
      · subst y
        rw [bxd, t3]
        refine ⟨e18, f1, ?_⟩
        show bx (v_213 J1 L1 (nI j)) (fun p2 => _)
        rw [hP, bxd, ← hD]
        exact ⟨vin (by omega) (by omega), a2, vin (by omega) (by omega), vin (by omega) (by omega)⟩
      · exact g2 j (by omega)
    · obtain ⟨J', L', q, q', -⟩ := fin
      rw [bxd, q]
      exact q' _ _ (by omega) (by omega) (by omega) (by omega)
end
