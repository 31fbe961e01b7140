section
variable {I J : WI} {P : Nat → Bool} {nv k v s : Nat}
/-! who is held: of those read that fit, the first ones -/
def HL (k : Nat) (P : Nat → Bool) (nv : Nat) (I J : WI) : Prop := I 38 3 = nI (min k (szr P nv)) ∧ ∀ v, v < nv → P v = true → ctr P (fg J) v nv < k → I 40 (ctr P (fg J) v nv) = nI v ∧ I 41 (ctr P (fg J) v nv) = J 96 v
theorem HL_at (h : HL k P nv I J) {j : Nat} (hj : j < min k (szr P nv)) : ∃ w, w < nv ∧ P w = true ∧ ctr P (fg J) w nv = j ∧ I 40 j = nI w ∧ I 41 j = J 96 w := by
  obtain ⟨w, w1, w2, w3⟩ := ctr_ex (P := P) (g := fg J) nv j (by omega)
  have q := h.2 w w1 w2 (by omega)
  rw [w3] at q
  exact ⟨w, w1, w2, w3, q⟩
def SHf (I : WI) (a s : Nat) : WI := fun q j => if (q = 40 ∨ q = 41) ∧ a < j ∧ j ≤ s then I q (j - 1) else I q j
theorem SHf_s : SHf I s s = I := by
  funext q j
  unfold SHf
  rw [if_neg (by omega)]
theorem SHf_o {a q j : Nat} (h : ¬ ((q = 40 ∨ q = 41) ∧ a < j ∧ j ≤ s)) : SHf I a s q j = I q j := by
  unfold SHf
  rw [if_neg h]
theorem SHf_i {a q j : Nat} (h : (q = 40 ∨ q = 41) ∧ a < j ∧ j ≤ s) : SHf I a s q j = I q (j - 1) := by
  unfold SHf
  rw [if_pos h]
theorem SHf_st {a : Nat} (hs : a < s) : up2 (up2 (SHf I (a + 1) s) 40 (a + 1) (I 40 a)) 41 (a + 1) (I 41 a) = SHf I a s := by
  funext q j
  by_cases h1 : q = 41 ∧ j = a + 1
  · obtain ⟨rfl, rfl⟩ := h1
    rw [up2_pt, SHf_i ⟨Or.inr rfl, by omega, by omega⟩, Nat.add_sub_cancel]
  · rw [up2_nk h1]
    by_cases h2 : q = 40 ∧ j = a + 1
    · obtain ⟨rfl, rfl⟩ := h2
      rw [up2_pt, SHf_i ⟨Or.inl rfl, by omega, by omega⟩, Nat.add_sub_cancel]
    · rw [up2_nk h2]
      by_cases h3 : (q = 40 ∨ q = 41) ∧ a < j ∧ j ≤ s
      · rw [SHf_i h3, SHf_i ⟨h3.1, by omega, h3.2.2⟩]
      · rw [SHf_o h3, SHf_o (fun w => h3 ⟨w.1, by omega, w.2.2⟩)]
theorem nI_pm (a : Nat) : nI (a + 1) + (-1) = nI a := (Int32.sub_eq_add_neg _ _).symm.trans (nI_pred a)
theorem nI_0le (a : Nat) (h : a < 100) : ¬ nI (a + 1) ≤ 0 := by
  have t0 : (0 : Int32).toInt = 0 := by decide
  rw [Int32.le_iff_toInt_le, nI_toInt (by omega), t0]
  omega
theorem v129_aB {v w : Nat} (hv : v < 12) (hw : w < 12) : v_129 (J 96 v) (nI v) (J 96 w) (nI w) = if aB (fg J) v w = true then 1 else 0 := by
  rw [← v242_e hv hw, v242_aB hv hw]
theorem hold_go (h12 : nv ≤ 12) (hs : s ≤ 5) (hv : v < nv) (hp : P v = false) (hcl : ∀ j, j < s → ∃ w, w < nv ∧ P w = true ∧ ctr P (fg J) w nv = j ∧ I 40 j = nI w ∧ I 41 j = J 96 w) :
    ∀ d f, d < f → min (ctr P (fg J) v nv) s + d ≤ s → gl_40_10 (nI v) (J 96 v) f (nI (min (ctr P (fg J) v nv) s + d)) (SHf I (min (ctr P (fg J) v nv) s + d) s) ∧
      lp_40_10 (nI v) (J 96 v) f (nI (min (ctr P (fg J) v nv) s + d)) (SHf I (min (ctr P (fg J) v nv) s + d) s) = (nI (min (ctr P (fg J) v nv) s), SHf I (min (ctr P (fg J) v nv) s) s) := by
  intro d
  induction d with
  | zero =>
    intro f hf _
    obtain ⟨k, rfl⟩ : ∃ k, f = k + 1 := ⟨f - 1, by omega⟩
    rw [Nat.add_zero, gl_40_10, lp_40_10]
    obtain ⟨c, hc⟩ : ∃ c, c = ctr P (fg J) v nv := ⟨_, rfl⟩
    rw [← hc]
    rcases Nat.eq_zero_or_pos (min c s) with e | e
    · rw [e, if_pos (by decide)]
      exact ⟨fun w => absurd (show nI 0 ≤ 0 by decide) w, rfl⟩
    · obtain ⟨a, ha⟩ : ∃ a, min c s = a + 1 := ⟨min c s - 1, by omega⟩
      obtain ⟨w, w1, w2, w3, w4, w5⟩ := hcl a (by omega)
      have hb : aB (fg J) v w = false := by
        apply bNo
        intro q
        have := ctr_mono (P := P) q nv
        omega
      have ev : v_129 (J 96 v) (nI v) (SHf I (a + 1) s 41 (nI (a + 1) - 1).toNatClampNeg) (SHf I (a + 1) s 40 (nI (a + 1) - 1).toNatClampNeg) = 0 := by
        rw [nI_pred, cl (by omega), SHf_o (by omega), SHf_o (by omega), w4, w5, v129_aB (by omega) (by omega), hb, if_neg (by decide)]
      rw [ha, if_neg (nI_0le a (by omega)), ev, if_pos rfl]
      exact ⟨fun _ => ⟨by rw [nI_pred]; exact vin (by omega) (by omega), fun q => absurd rfl q⟩, rfl⟩
  | succ d ih =>
    intro f hf hd
    obtain ⟨k, rfl⟩ : ∃ k, f = k + 1 := ⟨f - 1, by omega⟩
    obtain ⟨G, R⟩ := ih k (by omega) (by omega)
    obtain ⟨c, hc⟩ : ∃ c, c = ctr P (fg J) v nv := ⟨_, rfl⟩
    rw [← hc] at G R hd ⊢
    obtain ⟨w, w1, w2, w3, w4, w5⟩ := hcl (min c s + d) (by omega)
    have hb : aB (fg J) v w = true := by
      by_cases q : aB (fg J) v w = true
      · exact q
      · have hne : v ≠ w := fun e => by rw [e, w2] at hp; exact absurd hp (by decide)
        have := ctr_lt (aB_to hne (bNo q)) w2 nv w1
        omega
    rw [← Nat.add_assoc, gl_40_10, lp_40_10]
    have e4 : (nI (min c s + d + 1) - 1).toNatClampNeg = min c s + d := by rw [nI_pred, cl (by omega)]
    have e5 : (nI (min c s + d + 1)).toNatClampNeg = min c s + d + 1 := cl (by omega)
    have ev : v_129 (J 96 v) (nI v) (SHf I (min c s + d + 1) s 41 (min c s + d)) (SHf I (min c s + d + 1) s 40 (min c s + d)) = 1 := by
      rw [SHf_o (by omega), SHf_o (by omega), w4, w5, v129_aB (by omega) (by omega), hb, if_pos rfl]
    rw [if_neg (nI_0le _ (by omega)), e4, e5, ev, if_neg d10, nI_pm, SHf_o (a := min c s + d + 1) (q := 40) (by omega), SHf_o (a := min c s + d + 1) (q := 41) (by omega), SHf_st (by omega)]
    exact ⟨fun _ => ⟨by rw [nI_pred]; exact vin (by omega) (by omega), fun _ => ⟨by rw [nI_pred]; exact vin (by omega) (by omega), vin (by omega) (by omega), G⟩⟩, R⟩
theorem holdR (h12 : nv ≤ 12) (hk1 : 1 ≤ k) (hk : k ≤ 5) (hv : v < nv) (hp : P v = false) (h : HL k P nv I J) {x : Int32} (hx : x = J 96 v) :
    g_40 I (nI v) x ∧ HL k (inr P v) nv (v_40 I (nI v) x (nI k)) J ∧ ∀ q j, q ≠ 40 → q ≠ 41 → ¬ (q = 38 ∧ j = 3) → v_40 I (nI v) x (nI k) q j = I q j := by
  subst hx
  obtain ⟨s, hs⟩ : ∃ s, s = min k (szr P nv) := ⟨_, rfl⟩
  obtain ⟨c, hc⟩ : ∃ c, c = ctr P (fg J) v nv := ⟨_, rfl⟩
  obtain ⟨m, hm⟩ : ∃ m, m = min c s := ⟨_, rfl⟩
  have h38 : I 38 3 = nI s := by rw [hs]; exact h.1
  have hcz := ctr_le (P := P) (g := fg J) (v := v) nv
  obtain ⟨G, R⟩ := hold_go (P := P) (J := J) (I := I) (s := s) h12 (by omega) hv hp (fun j hj => HL_at h (by omega)) (s - m) 400 (by omega) (by omega)
  rw [← hc, ← hm, show m + (s - m) = s by omega, SHf_s] at G R
  have e282 : v_282 (I 38 3) 5 = nI s := by
    have t5 : (5 : Int32).toInt = 5 := by decide
    rw [v282_eq, h38, if_pos (by rw [Int32.le_iff_toInt_le, nI_toInt (by omega), t5]; omega)]
  have e2 : v_282 (nI s + 1) (nI k) = nI (min k (s + 1)) := by
    rw [v282_eq, nI_1]
    by_cases y : s + 1 ≤ k
    · rw [if_pos (by rw [Int32.le_iff_toInt_le, nI_toInt (by omega), nI_toInt (by omega)]; omega), Nat.min_eq_right y]
    · rw [if_neg (by rw [Int32.le_iff_toInt_le, nI_toInt (by omega), nI_toInt (by omega)]; omega), Nat.min_eq_left (by omega)]
  have ev : v_40 I (nI v) (J 96 v) (nI k) = up2 (up2 (up2 (SHf I m s) 40 m (nI v)) 41 m (J 96 v)) 38 3 (nI (min k (s + 1))) := by
    unfold v_40
    rw [e282, R, bxd, cl (by omega)]
    dsimp only
    rw [SHf_o (I := I) (a := m) (s := s) (q := 38) (j := 3) (by omega), h38, e2]
  refine ⟨?_, ⟨?_, ?_⟩, ?_⟩
  · unfold g_40
    rw [e282, R, bxd]
    exact ⟨G, vin (by omega) (by omega)⟩
  · rw [ev, up2_pt, szr_inr hp, if_pos hv]
    congr 1
    omega
  · intro w hw pw hk'
    rw [ctr_inr hp] at hk' ⊢
    have fr : ∀ q j, ¬ (q = 38 ∧ j = 3) → ¬ (q = 40 ∧ j = m) → ¬ (q = 41 ∧ j = m) → v_40 I (nI v) (J 96 v) (nI k) q j = SHf I m s q j := fun q j a1 a2 a3 => by
      rw [ev, up2_nk a1, up2_nk a3, up2_nk a2]
    by_cases y : w = v
    · subst y
      rw [if_neg (fun z => by have := aB_self (g := fg J) (v := w); rw [z.2] at this; exact absurd this (by decide)), Nat.add_zero] at hk' ⊢
      rw [← hc] at hk' ⊢
      have e : c = m := by omega
      rw [e, ev, up2_nk (by omega), up2_nk (by omega), up2_pt, up2_nk (by omega), up2_pt]
      exact ⟨rfl, rfl⟩
    · have pw' : P w = true := by rw [inr_o y] at pw; exact pw
      have wz := ctr_sz (g := fg J) pw' nv hw
      by_cases z : aB (fg J) v w = true
      · rw [if_pos ⟨hv, z⟩] at hk' ⊢
        have m1 := ctr_mono (P := P) z nv
        obtain ⟨q1, q2⟩ := h.2 w hw pw' (by omega)
        rw [fr _ _ (by omega) (by omega) (by omega), fr _ _ (by omega) (by omega) (by omega), SHf_i ⟨Or.inl rfl, by omega, by omega⟩, SHf_i ⟨Or.inr rfl, by omega, by omega⟩, Nat.add_sub_cancel]
        exact ⟨q1, q2⟩
      · have z' : ¬ (v < nv ∧ aB (fg J) v w = true) := fun a => z a.2
        rw [if_neg z', Nat.add_zero] at hk' ⊢
        have m1 := ctr_lt (aB_to (fun e => y e.symm) (bNo z)) pw' nv hw
        obtain ⟨q1, q2⟩ := h.2 w hw pw' (by omega)
        rw [fr _ _ (by omega) (by omega) (by omega), fr _ _ (by omega) (by omega) (by omega), SHf_o (by omega), SHf_o (by omega)]
        exact ⟨q1, q2⟩
  · intro q j a1 a2 a3
    rw [ev, up2_nk a3, up2_nk (by omega), up2_nk (by omega), SHf_o (by omega)]
end
