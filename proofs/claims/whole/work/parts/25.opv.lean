section
variable {b nv nc tc : Nat} {I J : WI}
theorem d10 : ¬ (1 : Int32) = 0 := by decide
theorem d00 : ¬ ¬ (0 : Int32) = 0 := by decide
theorem p12 {m nv : Nat} (h : m < 2 ^ nv) (h12 : nv ≤ 12) : m < 4096 := Nat.lt_of_lt_of_le h (Nat.pow_le_pow_right (by omega) h12)
/-- who is there, here and there -/
theorem there_eq (hV : kV b nv nc I J) (h4 : nc ≤ 4) {v : Nat} (hv : v < nv) : v_61 I b (nI v) = v_180 J (nI v) ∧ (v_61 I b (nI v) = 1 ∧ J 87 v = 0 ∧ (∃ c, c < nc ∧ J 86 v = nI c) ∨ v_61 I b (nI v) = 0 ∧ J 87 v = 1) := by
  obtain ⟨h12, -, -, -, h5, h6, m, h7, h8, h9⟩ := hV
  have e : v_61 I b (nI v) = if m.testBit v then 1 else 0 := by
    unfold v_61
    rw [h8]
    exact v111_eq (p12 h7 h12) (by omega)
  have e2 := h9 v hv
  have e3 : v_180 J (nI v) = if ¬ J 87 v = 0 then 0 else if J 86 v = -1 then 0 else 1 := by
    unfold v_180
    rw [cl (show v < 2 ^ 31 by omega)]
  rw [e3, e, e2]
  rcases h6 v hv with g | g
  · have hne : ∃ c, c < nc ∧ J 86 v = nI c := by
      rcases h5 v hv with ⟨-, g3⟩ | g3
      · rw [g] at g3; exact absurd g3.symm d10
      · exact g3
    obtain ⟨c, hc, hcv⟩ := hne
    have hn : ¬ J 86 v = -1 := by rw [hcv]; exact nIm1 (by omega)
    have a1 : (if decide (J 87 v = 0) = true then (1 : Int32) else 0) = 1 := by rw [g]; rfl
    have a2 : (if ¬ J 87 v = 0 then (0 : Int32) else if J 86 v = -1 then 0 else 1) = 1 := by rw [if_neg (fun a => a g), if_neg hn]
    rw [a1, a2]
    exact ⟨rfl, Or.inl ⟨rfl, g, c, hc, hcv⟩⟩
  · have a1 : (if decide (J 87 v = 0) = true then (1 : Int32) else 0) = 0 := by rw [g]; rfl
    have a2 : (if ¬ J 87 v = 0 then (0 : Int32) else if J 86 v = -1 then 0 else 1) = 0 := by rw [if_pos (by rw [g]; exact d10)]
    rw [a1, a2]
    exact ⟨rfl, Or.inr ⟨rfl, g⟩⟩
theorem g180 {v : Nat} (hv : v < 12) : g_180 J (nI v) := ⟨vin hv (by omega), fun _ => vin hv (by omega)⟩
theorem l64_2 : (12 : Int32) = nI 12 ∧ ((-99) : Int64) = Int32.toInt64 (-99) ∧ (99 : Int64) = Int32.toInt64 99 := by decide
theorem op_vector (h : kR 1 nv nc tc I J) (x y z g : Int32) : g_108 I x y z g ∧ g_174 J x y z g ∧ (v_108 I x y z g).1 = (v_174 J x y z g).1 ∧ ∃ nv', kR 1 nv' nc tc (v_108 I x y z g).2 (v_174 J x y z g).2 := by
  obtain ⟨hA, hQ, hC, hB, hP, hV, hN, hr, r, hr1, hr2⟩ := h
  have hR : kR 1 nv nc tc I J := ⟨hA, hQ, hC, hB, hP, hV, hN, hr, r, hr1, hr2⟩
  have h4 := hC.1
  have h12 := hV.1
  unfold v_108 v_174 g_108 g_174
  rw [v173_106, l64_2.2.1, l64_2.2.2]
  simp only [v170_107]
  rw [hC.2.1, hC.2.2.1, hV.2.1, hV.2.2.1]
  by_cases hx : v_106 x y z = 0
  · rw [if_pos hx, if_pos hx]
    exact ⟨fun h => absurd hx h, fun h => absurd hx h, rfl, nv, hR⟩
  rw [if_neg hx, if_neg hx]
  rcases v107_cases g (-99) 99 with ⟨eg, hg1, hg2⟩ | ⟨eg, -⟩
  · rw [eg, if_pos d10, if_pos d10]
    have hxx := v106_1 hx
    have e0 : (0 : Int32) = nI 0 := rfl
    by_cases hn : nc = 0
    · subst hn
      rw [if_neg (show ¬ ¬ nI 0 = 0 by decide), if_neg (show ¬ ¬ nI 0 = 0 by decide)]
      exact ⟨fun _ _ h => absurd rfl h, fun _ _ h => absurd rfl h, rfl, nv, hR⟩
    have hne : ¬ nI nc = 0 := by rw [e0, nI_eq (by omega) (by omega)]; exact hn
    rw [if_pos hne, if_pos hne]
    by_cases h12' : nv = 12
    · subst h12'
      rw [if_neg (show ¬ nI 12 < 12 by decide), if_neg (show ¬ ¬ nI 12 = 12 by decide)]
      exact ⟨fun _ _ _ h => absurd h (by decide), fun _ _ _ h => absurd rfl h, rfl, 12, hR⟩
    have hlt : nv < 12 := by omega
    have hl : nI nv < 12 := by rw [l64_2.1]; exact nI_lt hlt (by omega)
    have hne2 : ¬ nI nv = 12 := by rw [l64_2.1, nI_eq (by omega) (by omega)]; exact h12'
    rw [if_pos hl, if_pos hne2]
    obtain ⟨-, hv8, hvJ, hva, hvc, hvd, m, hm, hmI, hmb⟩ := hV
    have hm12 := p12 hm h12
    obtain ⟨I0, hI0⟩ : ∃ q : WI, q = up2 (up2 (up2 I 1 8 (nI (nv + 1))) 9 nv g) 1 12 (nI (m ||| 2 ^ nv)) := ⟨_, rfl⟩
    obtain ⟨J0, hJ0⟩ : ∃ q : WI, q = up2 (up2 J 85 nv g) 87 nv 0 := ⟨_, rfl⟩
    have eI : ∀ c k, ¬ (c = 1 ∧ k = 8) → ¬ (c = 9 ∧ k = nv) → ¬ (c = 1 ∧ k = 12) → I0 c k = I c k := fun c k a1 a2 a3 => by rw [hI0, up2_nk a3, up2_nk a2, up2_nk a1]
    have eJ : ∀ c k, ¬ (c = 85 ∧ k = nv) → ¬ (c = 87 ∧ k = nv) → J0 c k = J c k := fun c k a1 a2 => by rw [hJ0, up2_nk a2, up2_nk a1]
    have hC0 : kC 1 nc I0 J0 := kC_cg hC (fun c k _ => eI c k (by omega) (by omega) (by omega)) (fun c k _ => eJ c k (by omega) (by omega))
    have hB0 : kB 1 nc I0 J0 := kB_cg h4 hB (fun c k _ => eI c k (by omega) (by omega) (by omega)) (fun c k _ => eJ c k (by omega) (by omega))
    have hP0 : kP 1 I0 J0 := kP_cg hP (fun k _ => eI _ k (by omega) (by omega) (by omega)) (fun k _ => eJ _ k (by omega) (by omega))
    obtain ⟨c, hc, g57, g175, kB1, kP1, e9, e86, kN'⟩ := put_rel (nv := nv + 1) (v := nv) hlt (by omega) hxx hC0 hB0 hP0
    have hI1 : v_56 (up2 (up2 I 1 8 (nI nv + 1)) (1 + 8) (nI nv).toNatClampNeg g) 1 (nI nv) 1 = I0 := by
      unfold v_56
      rw [if_neg (by decide)]
      simp only [bx, cl (show nv < 2 ^ 31 by omega), nI_1]
      rw [up2_nk (c' := 1) (k' := 12) (by omega), up2_nk (c' := 1) (k' := 12) (by omega), hmI, bit_or hm12 hlt, hI0]
    have hJ1 : up2 (up2 J 85 (nI nv).toNatClampNeg g) 87 (nI nv).toNatClampNeg 0 = J0 := by rw [cl (show nv < 2 ^ 31 by omega), hJ0]
    have e55 : v_55 I 1 x y z g = (nI nv, v_57 I0 1 (nI nv) x y z) := by
      unfold v_55
      rw [hv8, if_pos hl, hI1]
      rfl
    have eJn : v_175 J0 (nI nv) x y z 74 18 = nI nv := by rw [frI_v_175 (by omega) (by omega) (by omega) (by omega) (by omega), eJ 74 18 (by omega) (by omega), hvJ]
    refine ⟨fun _ _ _ _ => ?_, fun _ _ _ _ => ⟨vin hlt (by omega), by rw [hJ1]; exact g175⟩, ?_, nv + 1, ?_⟩
    · unfold g_55
      rw [hv8]
      intro _
      refine ⟨vin hlt (by omega), ?_⟩
      rw [hI1]
      exact g57
    · simp only [bx, e55]
      rw [hJ1, eJn, nI_1, nI_pred]
    · simp only [bx, e55]
      rw [hJ1, eJn, nI_1]
      have FI : ∀ c k, c ≠ 6 → c ≠ 7 → c ≠ 8 → c ≠ 10 → v_57 I0 1 (nI nv) x y z c k = I0 c k := fun c k a1 a2 a3 a4 => frI_v_57 (by omega) (by omega) (by omega) (by omega)
      have FJ : ∀ c k, c ≠ 81 → c ≠ 82 → c ≠ 83 → c ≠ 84 → c ≠ 86 → ¬ (c = 74 ∧ k = 18) → up2 (v_175 J0 (nI nv) x y z) 74 18 (nI (nv + 1)) c k = J0 c k := fun c k a1 a2 a3 a4 a5 a6 => by rw [up2_nk a6, frI_v_175 a1 a2 a3 a4 a5]
      have F2 : ∀ c k, c ≠ 74 → up2 (v_175 J0 (nI nv) x y z) 74 18 (nI (nv + 1)) c k = v_175 J0 (nI nv) x y z c k := fun c k a => up2_nk (by omega)
      refine ⟨kA_cg hA (fun c k _ => ?_) (fun k _ => ?_), kQ_cg hQ (fun k _ => ?_) (fun k _ => ?_), kC_cg hC (fun c k _ => ?_) (fun c k _ => ?_), kB_cg h4 kB1 (fun _ _ _ => rfl) (fun c k _ => F2 c k (by omega)), kP_cg kP1 (fun _ _ => rfl) (fun k _ => F2 _ k (by omega)), ?_, ?_, ?_, r, hr1, ?_⟩
      · rw [FI c k (by omega) (by omega) (by omega) (by omega), eI c k (by omega) (by omega) (by omega)]
      · rw [FJ _ k (by omega) (by omega) (by omega) (by omega) (by omega) (by omega), eJ _ k (by omega) (by omega)]
      · rw [FI _ k (by omega) (by omega) (by omega) (by omega), eI _ k (by omega) (by omega) (by omega)]
      · rw [FJ _ k (by omega) (by omega) (by omega) (by omega) (by omega) (by omega), eJ _ k (by omega) (by omega)]
      · rw [FI c k (by omega) (by omega) (by omega) (by omega), eI c k (by omega) (by omega) (by omega)]
      · rw [FJ c k (by omega) (by omega) (by omega) (by omega) (by omega) (by omega), eJ c k (by omega) (by omega)]
      · have e87 : ∀ w, up2 (v_175 J0 (nI nv) x y z) 74 18 (nI (nv + 1)) 87 w = if w = nv then 0 else J 87 w := fun w => by
          rw [FJ 87 w (by omega) (by omega) (by omega) (by omega) (by omega) (by omega), hJ0]
          by_cases hw : w = nv
          · subst hw; simp [up2]
          · rw [if_neg hw, up2_nk (by omega), up2_nk (by omega)]
        have e86' : ∀ w, up2 (v_175 J0 (nI nv) x y z) 74 18 (nI (nv + 1)) 86 w = if w = nv then nI c else J 86 w := fun w => by
          rw [F2 86 w (by omega), e86 w, eJ 86 w (by omega) (by omega)]
        refine ⟨by omega, ?_, ?_, fun w hw => ?_, fun w hw => ?_, fun w hw => ?_, m ||| 2 ^ nv, ?_, ?_, fun w hw => ?_⟩
        · rw [FI 1 8 (by omega) (by omega) (by omega) (by omega), hI0, up2_nk (by omega), up2_nk (by omega)]
          simp [up2]
        · simp [up2]
        · rw [FI 9 w (by omega) (by omega) (by omega) (by omega), FJ 85 w (by omega) (by omega) (by omega) (by omega) (by omega) (by omega), e86' w, e9 w, eI 10 w (by omega) (by omega) (by omega)]
          have hq := hva w hw
          by_cases hwn : w = nv
          · subst hwn
            rw [hI0, hJ0, if_pos rfl, if_pos rfl, up2_nk (by omega), up2_nk (c' := 85) (by omega)]
            simp only [up2, and_self, if_true]
            exact ⟨trivial, ⟨hg1, hg2⟩, trivial⟩
          · rw [if_neg hwn, if_neg hwn, eI 9 w (by omega) (by omega) (by omega), eJ 85 w (by omega) (by omega)]
            exact hq
        · rw [e86' w, e87 w]
          by_cases hwn : w = nv
          · rw [if_pos hwn, if_pos hwn]; exact Or.inr ⟨c, hc, rfl⟩
          · rw [if_neg hwn, if_neg hwn]; exact hvc w (by omega)
        · rw [e87 w]
          by_cases hwn : w = nv
          · rw [if_pos hwn]; exact Or.inl rfl
          · rw [if_neg hwn]; exact hvd w (by omega)
        · exact Nat.or_lt_two_pow (Nat.lt_of_lt_of_le hm (Nat.pow_le_pow_right (by omega) (by omega))) (Nat.pow_lt_pow_right (by omega) (by omega))
        · rw [FI 1 12 (by omega) (by omega) (by omega) (by omega), hI0]
          simp [up2]
        · rw [e87 w, Nat.testBit_or, Nat.testBit_two_pow]
          by_cases hwn : w = nv
          · subst hwn; simp
          · rw [if_neg hwn, hmb w (by omega)]
            simp [show ¬ nv = w from fun e => hwn e.symm]
      · refine kN_cg (by omega) h4 (kN' (fun w hw hwn c' hc' hwc => ?_) (by omega) (by omega)) (fun c k _ => F2 c k (by omega))
        rw [eJ 86 w (by omega) (by omega)] at hwc
        obtain ⟨q1, q2⟩ := hN w (by omega) c' hc' hwc
        refine ⟨by rw [eJ 83 c' (by omega) (by omega)]; exact q1, fun i hi => ?_⟩
        rw [eJ 81 _ (by omega) (by omega), eJ 82 _ (by omega) (by omega), eJ 84 _ (by omega) (by omega)]
        exact q2 i hi
      · rw [FI 1 2 (by omega) (by omega) (by omega) (by omega), eI 1 2 (by omega) (by omega) (by omega), FJ 74 4 (by omega) (by omega) (by omega) (by omega) (by omega) (by omega), eJ 74 4 (by omega) (by omega)]
        exact hr
      · rw [FJ 74 4 (by omega) (by omega) (by omega) (by omega) (by omega) (by omega), eJ 74 4 (by omega) (by omega)]
        exact hr2
  · rw [eg, if_neg d00, if_neg d00]
    exact ⟨fun _ h => absurd rfl h, fun _ h => absurd rfl h, rfl, nv, hR⟩
end
