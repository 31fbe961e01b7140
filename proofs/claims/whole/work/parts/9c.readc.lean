section
variable {S : Nat → List Int32 × List Int32} {b nv nc tc r k m : Nat} {I J Ig : WI} {L : WL} {F : WF}
theorem readB (hb : b ≤ 21) (h : WJ S b nv nc tc r Ig J L) (hI : ∀ c k, ¬ (c = b ∧ k = 2) → I c k = Ig c k) (hm : m < 2 ^ nv) (e21 : v_21 I b = nI m) (hF : ∀ v, v < nv → (m.testBit v = true ↔ FT S r J v)) (h37 : ∀ v, v < nv → I 37 v = PU S r J v) (hk1 : 1 ≤ k) (hk : k ≤ 5) :
    g_35 I F (nI k) b ∧ g_237 J L (nI k) ∧ ∃ (I' : WI) (F' : WF) (J' : WI) (L' : WL), v_35 I F (nI k) b = (I', F') ∧ v_237 J L (nI k) = (J', L') ∧ (∀ c j, c ≠ 40 → c ≠ 41 → ¬ (c = 38 ∧ (j = 3 ∨ j = 4 ∨ j = 5 ∨ j = 6)) → I' c j = I c j) ∧ RY J J' ∧ kM S tc J' L' ∧
      HL k (fun v => m.testBit v) nv I' J' ∧ I' 38 4 = J' 74 46 ∧ I' 38 5 = J' 74 47 ∧ I' 38 6 = J' 74 48 ∧ (∀ v, v < nv → J' 96 v = v_22 I b (nI v)) ∧ ∃ q : Nat, q ≤ 12 ∧ J' 74 46 = nI q := by
  have h' := h
  obtain ⟨⟨kA0, kQ0, kC0, kB0, kP0, kV0, kN0, kr0⟩, hT, ht6, hM, hr, h74⟩ := h
  have h12 := kV0.1
  have h4 := kC0.1
  obtain ⟨rg, J1, L1, r1, r2, r3, r4⟩ := readAll h' (fun v hv => (hI 37 v (by omega)).symm.trans (h37 v hv)) nv (Nat.le_refl _)
  have e18 : (J 74 18).toNatClampNeg = nv := by rw [kV0.2.2.1, cl (by omega)]
  have e238 : v_238 J L = (J1, L1) := by unfold v_238; rw [e18, bxd, r1]
  have g238 : g_238 J L := by unfold g_238; rw [e18]; exact rg
  obtain ⟨I2, hI2⟩ : ∃ I2, I2 = up2 (up2 (up2 (up2 I 38 3 0) 38 4 0) 38 5 0) 38 6 0 := ⟨_, rfl⟩
  obtain ⟨J2, hJ2⟩ : ∃ J2, J2 = up2 (up2 (up2 J1 74 46 0) 74 47 0) 74 48 0 := ⟨_, rfl⟩
  have c4 : (4 : Int32).toNatClampNeg = 4 := rfl
  obtain ⟨o1, o2, o3⟩ := over0 (J := J2) 4 (Nat.le_refl _)
  obtain ⟨J3, hJ3⟩ : ∃ J3, J3 = lp_237_21 J2 4 := ⟨_, rfl⟩
  rw [← hJ3] at o2 o3
  have fI : ∀ c j, ¬ (c = 38 ∧ (j = 3 ∨ j = 4 ∨ j = 5 ∨ j = 6)) → I2 c j = I c j := fun c j x => by rw [hI2, up2_nk (by omega), up2_nk (by omega), up2_nk (by omega), up2_nk (by omega)]
  have i3 : I2 38 3 = 0 := by rw [hI2, up2_nk (by omega), up2_nk (by omega), up2_nk (by omega), up2_pt]
  have i4 : I2 38 4 = 0 := by rw [hI2, up2_nk (by omega), up2_nk (by omega), up2_pt]
  have i5 : I2 38 5 = 0 := by rw [hI2, up2_nk (by omega), up2_pt]
  have i6 : I2 38 6 = 0 := by rw [hI2, up2_pt]
  have f2 : ∀ c j, ¬ (c = 74 ∧ (j = 46 ∨ j = 47 ∨ j = 48)) → J2 c j = J1 c j := fun c j x => by rw [hJ2, up2_nk (by omega), up2_nk (by omega), up2_nk (by omega)]
  have f3 : ∀ c j, c ≠ 99 → ¬ (c = 74 ∧ (j = 46 ∨ j = 47 ∨ j = 48)) → J3 c j = J1 c j := fun c j x y => (o2 c j x).trans (f2 c j y)
  have j46 : J3 74 46 = 0 := by rw [o2 74 46 (by omega), hJ2, up2_nk (by omega), up2_nk (by omega), up2_pt]
  have j47 : J3 74 47 = 0 := by rw [o2 74 47 (by omega), hJ2, up2_nk (by omega), up2_pt]
  have j48 : J3 74 48 = 0 := by rw [o2 74 48 (by omega), hJ2, up2_pt]
  have ry3 : RY J J3 := fun c j a1 a2 a3 a4 => (f3 c j (by omega) (by omega)).trans (r2 c j (by omega) a2 a3 (by omega))
  have km3 : kM S tc J3 L1 := kM_cg r3 (fun j => f3 89 j (by omega) (by omega))
  have w3 := WJ_cy h' ry3 km3
  obtain ⟨⟨kA3, kQ3, kC3, kB3, kP3, kV3, kN3, kr3⟩, -⟩ := w3
  have bf : BF b nv nc m I2 J3 := by
    have fg2 : ∀ c j, ¬ (c = b ∧ j = 2) → b ≤ c → c < b + 10 → I2 c j = Ig c j := fun c j x1 x2 x3 => (fI c j (by omega)).trans (hI c j x1)
    refine ⟨⟨kA_cg kA3 (fun c j _ => fg2 _ _ (by omega) (by omega) (by omega)) (fun _ _ => rfl), kQ_cg kQ3 (fun j _ => fg2 _ _ (by omega) (by omega) (by omega)) (fun _ _ => rfl), kC_cg kC3 (fun c j _ => fg2 _ _ (by omega) (by omega) (by omega)) (fun _ _ _ => rfl), kB_cg kC3.1 kB3 (fun c j _ => fg2 _ _ (by omega) (by omega) (by omega)) (fun _ _ _ => rfl), kP_cg kP3 (fun j _ => fg2 _ _ (by omega) (by omega) (by omega)) (fun _ _ => rfl), kV_cg kV3 (fun c j _ => fg2 _ _ (by omega) (by omega) (by omega)) (fun _ _ _ => rfl), kN3⟩, hm, ?_, fun v hv => ?_⟩
    · unfold v_21 at e21 ⊢
      rw [fI 35 2 (by omega), fI b 12 (by omega)]
      exact e21
    · obtain ⟨a1, a2, a3, a4, a5⟩ := r4 v hv
      rw [f3 97 v (by omega) (by omega), f3 96 v (by omega) (by omega), fI 37 v (by omega)]
      refine ⟨a1, a2.trans (hF v hv).symm, fun w => ?_, ?_, ?_⟩
      · have e87 : J3 87 v = J 87 v := ry3 87 v (by omega) (by omega) (by omega) (by omega)
        rw [e87]
        exact ((hF v hv).mp w).1
      · rw [a3, v22_dQ kA3 kQ3 kP3 (by omega), hI 37 v (by omega)]
      · rw [h37 v hv]
        exact PU_bt
  have p0 : ∀ v, v < nv → pR J3 v = false := fun v hv => bNo (fun w => (pR_iff.mp w).2 (by rw [f3 98 v (by omega) (by omega)]; exact (r4 v hv).2.2.2.1))
  have s0 : szr (pR J3) nv = 0 := by
    have : szr (pR J3) nv = szr (fun _ => false) nv := szr_ext nv (fun v hv => p0 v hv)
    rw [this]
    have : ∀ n, szr (fun _ => false) n = 0 := by
      intro n
      induction n with
      | zero => rfl
      | succ n ih => rw [szr_s, ih]; rfl
    exact this nv
  have z8 : szr (r8 J3) nv = 0 := by
    have : szr (r8 J3) nv = szr (fun _ => false) nv := szr_ext nv (fun v hv => by
      unfold r8
      rw [f3 98 v (by omega) (by omega), (r4 v hv).2.2.2.1]; decide)
    rw [this]
    have : ∀ n, szr (fun _ => false) n = 0 := by
      intro n
      induction n with
      | zero => rfl
      | succ n ih => rw [szr_s, ih]; rfl
    exact this nv
  have ri : RI k nv I2 J3 := ⟨⟨by rw [i3, s0, Nat.min_zero]; rfl, fun v hv hp => by rw [p0 v hv] at hp; exact absurd hp (by decide)⟩, by rw [i4, j46], by rw [i5, j47], by rw [i6, j48], by rw [j46, z8]; rfl⟩
  have sk : SK (ovr nc J3) k nv m J3 := fun v hv hd => by
    obtain ⟨c, c1, -, c3⟩ := hd
    rw [o3 c (by omega)] at c3
    exact absurd c3.symm d10
  obtain ⟨bg, t, F1, b1, b2, b3, b4⟩ := boxed (F := F) bf nc (Nat.le_refl _)
  have e36 : v_36 I2 F b = (nI t, F1) := by
    unfold v_36
    rw [bf.1.2.2.1.2.1, cl (by omega), b1, bxd]
  have g36 : g_36 I2 F b := by
    unfold g_36
    rw [bf.1.2.2.1.2.1, cl (by omega)]
    exact bg
  have t16 : t < 16 := Nat.lt_of_lt_of_le b2 (Nat.pow_le_pow_right (by omega) h4)
  have hsz : szr (fun c => t.testBit c) 4 ≤ 4 := szr_n _ 4
  obtain ⟨G1, G2, G3, I', R1, R2, R3⟩ := read_go (F := F1) hb hk1 hk _ 400 0 t I2 J3 (by omega) (by omega) rfl t16 bf (fun c hc => by
      rw [b3 c hc]; exact ⟨fun w => ⟨w, o3 c (by omega)⟩, fun w => w.1⟩) (fun c hc => tb_hi b2 hc) (fun c hc => Or.inl (o3 c (by omega))) (fun c hc hz => b4 c hc ((b3 c hc).mp hz)) ri sk (fun v hv c hc _ _ => by
      rw [f3 98 v (by omega) (by omega)]; exact (r4 v hv).2.2.2.1)
  have n0 : nI 0 = 0 := rfl
  rw [n0] at G1 R1
  have bf' := BF_cg hb bf R2
  refine ⟨?_, ?_, I', F1, lp_237_44 (nI k) 400 (v_239 J3) J3, L1, ?_, ?_, fun c j x1 x2 x3 => (R2.1 c j x1 x2 x3).trans (fI c j x3), fun c j a1 a2 a3 a4 => (R2.2 c j (by omega) (by omega) (by omega)).trans (ry3 c j a1 a2 a3 a4), kM_cg km3 (fun j => R2.2 89 j (by omega) (by omega) (by omega)), RE_all R3 (fun v hv => ⟨(bf'.2.2.2 v hv).1, (bf'.2.2.2 v hv).2.1⟩), R3.1.2.1, R3.1.2.2.1, R3.1.2.2.2.1, fun v hv => ?_, szr (r8 (lp_237_44 (nI k) 400 (v_239 J3) J3)) nv, Nat.le_trans (szr_n _ _) h12, R3.1.2.2.2.2⟩
  · unfold g_35
    rw [← hI2, e36, bxd]
    exact ⟨g36, G1⟩
  · unfold g_237
    rw [e238, bxd, ← hJ2, c4, ← hJ3, bxd]
    exact ⟨g238, o1, G2, G3⟩
  · unfold v_35
    rw [← hI2, e36, bxd]
    exact R1
  · unfold v_237
    rw [e238, bxd, ← hJ2, c4, ← hJ3, bxd, bxd]
  · rw [R2.2 96 v (by omega) (by omega) (by omega), f3 96 v (by omega) (by omega)]
    have kAi : kA b I J := kA_cg kA0 (fun c j _ => hI _ _ (by omega)) (fun _ _ => rfl)
    have kQi : kQ b I J := kQ_cg kQ0 (fun j _ => hI _ _ (by omega)) (fun _ _ => rfl)
    have kPi : kP b I J := kP_cg kP0 (fun j _ => hI _ _ (by omega)) (fun _ _ => rfl)
    rw [(r4 v hv).2.2.1, v22_dQ kA0 kQ0 kP0 (by omega), v22_dQ kAi kQi kPi (by omega), hI 37 v (by omega)]
end
