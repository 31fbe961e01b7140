section
variable {b nv nc tc : Nat} {I J : WI}
/-- the sets, one by one -/
theorem sets_lp {P Q : WI} {x : Int32} {m : Nat} (h12 : nv ≤ 12) (hm : m < 2 ^ nv) (hPm : P b 12 = nI m) (hc : ∀ s, (∀ j, s.testBit j = true → m.testBit j = true) → v_10 P (nI s) (nI m) = v_252 Q (nI s)) :
    ∀ k, k ≤ 2 ^ nv → (k ≤ m + 1 → lp_8_34 P b (-1) k = lp_250_136 Q (nI m) (-1) k) ∧ (m + 1 ≤ k → lp_250_136 Q (nI m) (-1) k = lp_250_136 Q (nI m) (-1) (m + 1)) ∧ (lp_250_136 Q (nI m) (-1) k = -1 ∨ ∃ s, s < k ∧ lp_250_136 Q (nI m) (-1) k = nI s) := by
  have hp : 2 ^ nv ≤ 4096 := Nat.pow_le_pow_right (n := 2) (by omega) h12
  intro k
  induction k with
  | zero => intro _; exact ⟨fun _ => rfl, fun h => by omega, Or.inl rfl⟩
  | succ k ih =>
    intro hk
    obtain ⟨i1, i2, i3⟩ := ih (by omega)
    have hsub := sub_nI (s := k) (m := m) (by omega) (by omega)
    have keep : lp_250_136 Q (nI m) (-1) k = -1 ∨ ∃ s, s < k + 1 ∧ lp_250_136 Q (nI m) (-1) k = nI s := by
      rcases i3 with h | ⟨s, hs, h⟩
      · exact Or.inl h
      · exact Or.inr ⟨s, by omega, h⟩
    by_cases z : nI k &&& (nI m ^^^ (-1)) = 0
    · have hz := hsub.mp z
      have hle := sub_le hz
      have hcc := hc k hz
      have e : lp_250_136 Q (nI m) (-1) (k + 1) = (if lp_250_136 Q (nI m) (-1) k = -1 then (if v_252 Q (nI k) = 0 then lp_250_136 Q (nI m) (-1) k else nI k) else (if v_251 (lp_250_136 Q (nI m) (-1) k) ≤ v_251 (nI k) then lp_250_136 Q (nI m) (-1) k else (if v_252 Q (nI k) = 0 then lp_250_136 Q (nI m) (-1) k else nI k))) := by
        rw [lp_250_136]
        simp only [bx]
        rw [if_neg (fun q => q z)]
      refine ⟨fun hkm => ?_, fun hkm => ?_, ?_⟩
      · rw [e, lp_8_34, i1 (by omega), hPm]
        simp only [bx]
        rw [if_neg (show ¬ ¬ nI k &&& (nI m ^^^ (-1)) = 0 from fun q => q z), if_neg (show ¬ (1 : Int32) = 0 by decide), hcc]
        rcases i3 with h | ⟨s, hs, h⟩
        · rw [h]
          simp only [if_true]
          rw [if_neg (show ¬ (1 : Int32) = 0 by decide)]
        · have n1 : ¬ nI s = -1 := nIm1 (by omega)
          rw [h, if_neg n1, if_neg n1, v251_eq (show s < 4096 by omega), v251_eq (show k < 4096 by omega)]
          by_cases y : v_286 (nI s) ≤ v_286 (nI k)
          · rw [if_pos y, if_pos y, if_pos rfl]
          · rw [if_neg y, if_neg y, if_neg (show ¬ (1 : Int32) = 0 by decide)]
      · have : k = m := by omega
        subst this
        rfl
      · rw [e]
        split
        · split
          · exact keep
          · exact Or.inr ⟨k, by omega, rfl⟩
        · split
          · exact keep
          · split
            · exact keep
            · exact Or.inr ⟨k, by omega, rfl⟩
    · have e : lp_250_136 Q (nI m) (-1) (k + 1) = lp_250_136 Q (nI m) (-1) k := by
        rw [lp_250_136]
        simp only [bx]
        rw [if_pos z]
      rw [e]
      refine ⟨fun hkm => ?_, fun hkm => ?_, keep⟩
      · rw [lp_8_34, hPm]
        simp only [bx]
        rw [if_pos z, if_pos (show (0 : Int32) = 0 from rfl)]
        exact i1 (by omega)
      · by_cases y : m + 1 ≤ k
        · exact i2 y
        · have : k = m := by omega
          subst this
          exact absurd (hsub.mpr (fun _ h => h)) z
theorem op_cover (h : kR 1 nv nc tc I J) (x1 x2 : Int32) : g_137 I x1 x2 ∧ g_250 J x1 x2 ∧ (v_137 I x1 x2).1 = (v_250 J x1 x2).1 ∧ kR 1 nv nc tc (v_137 I x1 x2).2 (v_250 J x1 x2).2 := by
  have hfin : kR 1 nv nc tc (v_137 I x1 x2).2 (v_250 J x1 x2).2 := kR_cgI (kR_cgJ h (fun c k hh => frI_v_250 (by omega))) (fun c k hh => frI_v_137 (by omega))
  obtain ⟨hA, hQ, hC, hB, hP, hV, hN, -⟩ := h
  have h12 := hV.1
  have h4 := hC.1
  have hV2 := hV
  obtain ⟨-, -, -, -, -, -, m, hm1, hm2, hm3⟩ := hV2
  have hp : 2 ^ nv ≤ 4096 := Nat.pow_le_pow_right (n := 2) (by omega) h12
  have hm : ∀ v, v < nv → (m.testBit v = true ↔ ¬ v_180 J (nI v) = 0) := fun v hv => by
    have tt := there_eq hV h4 hv
    rw [hm3 v hv]
    rcases tt.2 with ⟨t1, t2, -⟩ | ⟨t1, t2⟩
    · rw [← tt.1, t1, t2]; decide
    · rw [← tt.1, t1, t2]; decide
  refine ⟨?_, ?_, ?_, hfin⟩
  · -- the class's guards
    intro _ _
    have hr := rowsC hA hP h12 (by omega) hV.2.1 x1
    unfold g_8
    rw [hV.2.1, cl (show nv < 2 ^ 31 by omega)]
    refine ⟨⟨fun k hk => ?_, ?_⟩, ?_⟩
    · obtain ⟨h1, -⟩ := hr k (by omega)
      show _ ∧ _ ∧ _
      refine ⟨(h1 1 8 (by omega)).trans (by rw [hV.2.1]), ?_, vin (by omega) (by omega)⟩
      unfold g_9 gl_9_6
      rw [h1 1 8 (by omega), hV.2.1, cl (show nv < 2 ^ 31 by omega)]
      intro i hi
      exact (g_betw (J := I) (by omega) (by omega)).1
    · exact ((hr nv (Nat.le_refl _)).1 1 8 (by omega)).trans (by rw [hV.2.1])
    · obtain ⟨h1, -⟩ := hr nv (Nat.le_refl _)
      show gl_8_34 _ _ _ _
      unfold gl_8_34
      rw [h1 1 12 (by omega), hm2, nI_toInt (by omega)]
      refine ⟨by omega, fun k hk _ _ => ?_⟩
      unfold g_10 gl_10_5
      rw [show (12 : Int32).toNatClampNeg = 12 from rfl]
      intro i hi _
      exact vin hi (by omega)
  · -- the reference's guards
    intro _ _
    have hr := rowsR hA hP hV h4 x1
    rw [hV.2.2.1, cl (show nv < 2 ^ 31 by omega)]
    obtain ⟨r1, ⟨t, t1, t2, t3⟩, r3⟩ := hr nv (Nat.le_refl _)
    have htm : t = m := tb_eq t1 hm1 (fun j hj => (t3 j hj).trans (hm j hj).symm)
    subst htm
    refine ⟨⟨fun k hk => ?_, (r1 74 18 (by omega)).trans (by rw [hV.2.2.1])⟩, ?_⟩
    · obtain ⟨h1, -, -⟩ := hr k (by omega)
      show _ ∧ _ ∧ _ ∧ _
      refine ⟨(h1 74 18 (by omega)).trans (by rw [hV.2.2.1]), g180 (by omega), vin (by omega) (by omega), ?_⟩
      rw [cl (show k < 2 ^ 31 by omega)]
      have hQ : ∀ q j, q ≠ 100 → up2 (lp_250_30 J x1 0 k).2 100 k 0 q j = J q j := fun q j hq => by rw [up2_nk (fun z => hq z.1)]; exact h1 q j hq
      have e18 : up2 (lp_250_30 J x1 0 k).2 100 k 0 74 18 = nI nv := by rw [hQ 74 18 (by omega)]; exact hV.2.2.1
      unfold gl_250_70
      rw [e18, cl (show nv < 2 ^ 31 by omega)]
      have rr := rowR hA hP hV h4 hQ (show k < nv by omega) (by simp [up2]) x1
      refine ⟨fun i hi => ?_, (rr nv (Nat.le_refl _)).1 74 18 (by omega) |>.trans e18⟩
      show _ ∧ _ ∧ _ ∧ _ ∧ _
      exact ⟨((rr i (by omega)).1 74 18 (by omega)).trans e18, vin (by omega) (by omega), g180 (by omega), fun _ => (g_betw (I := I) (b := 1) (by omega) (by omega)).2, vin (by omega) (by omega)⟩
    · show gl_250_136 _ _ _ _ ∧ _
      have e18 : (lp_250_30 J x1 0 nv).2 74 18 = nI nv := by rw [r1 74 18 (by omega)]; exact hV.2.2.1
      have hV' : kV 1 nv nc I (lp_250_30 J x1 0 nv).2 := kV_cg hV (fun _ _ _ => rfl) (fun c k _ => r1 c k (by omega))
      have e180 : ∀ v, v < nv → v_180 (lp_250_30 J x1 0 nv).2 (nI v) = v_180 J (nI v) := fun v hv => by rw [← (there_eq hV' h4 hv).1, (there_eq hV h4 hv).1]
      rw [t2, e18, shN h12, cl (show 2 ^ nv < 2 ^ 31 by omega)]
      obtain ⟨p1, -⟩ := rowsC hA hP h12 (by omega) hV.2.1 x1 nv (Nat.le_refl _)
      have hcc : ∀ s, (∀ j, s.testBit j = true → t.testBit j = true) → v_10 (lp_8_2 I 1 x1 nv) (nI s) (nI t) = v_252 (lp_250_30 J x1 0 nv).2 (nI s) := fun s hs => by
        have c1 := covC (P := lp_8_2 I 1 x1 nv) h12 hm1 hs (rowsC hA hP h12 (by omega) hV.2.1 x1 nv (Nat.le_refl _)).2
        have c2 := (covR_lp h12 e18 e180 hm1 hm hs r3 nv 0 400 (by omega) (by omega)).2
        have e : v_252 (lp_250_30 J x1 0 nv).2 (nI s) = lp_252_2 (lp_250_30 J x1 0 nv).2 (nI s) 400 (nI 0) := rfl
        rw [e]
        rcases c1 with ⟨a1, a2⟩ | ⟨a1, a2⟩
        · rcases c2 with ⟨b1, b2⟩ | ⟨b1, b2⟩
          · rw [a1, b1]
          · exact absurd (fun v _ hv hmv => a2 v hv hmv) b2
        · rcases c2 with ⟨b1, b2⟩ | ⟨b1, b2⟩
          · exact absurd (fun v hv hmv => b2 v (by omega) hv hmv) a2
          · rw [a1, b1]
      have hs := sets_lp (P := lp_8_2 I 1 x1 nv) (b := 1) (x := x1) h12 hm1 ((p1 1 12 (by omega)).trans hm2) hcc
      have g252 : ∀ s, (∀ j, s.testBit j = true → t.testBit j = true) → g_252 (lp_250_30 J x1 0 nv).2 (nI s) := fun s hs => (covR_lp h12 e18 e180 hm1 hm hs r3 nv 0 400 (by omega) (by omega)).1
      refine ⟨fun k hk => ?_, ?_⟩
      · show _ → _
        intro q
        have hz := (sub_nI (s := k) (m := t) (by omega) (by omega)).mp (Classical.not_not.mp q)
        refine ⟨fun _ => g252 k hz, fun hn => ⟨g251 (by omega), ?_, fun _ => g252 k hz⟩⟩
        rcases (hs k (by omega)).2.2 with h | ⟨s, h1, h2⟩
        · exact absurd h hn
        · rw [h2]; exact g251 (by omega)
      · show _ → _
        intro hn _
        rcases (hs (2 ^ nv) (Nat.le_refl _)).2.2 with h | ⟨s, h1, h2⟩
        · exact absurd h hn
        · rw [h2]; exact g251 (by omega)
  · unfold v_137 v_250
    rw [show (0 : Int64) = Int32.toInt64 0 by decide, show (1 : Int64) = Int32.toInt64 1 by decide, show (999999999 : Int64) = Int32.toInt64 999999999 by decide, v170_107, v170_107]
    by_cases z1 : v_107 x1 0 999999999 = 0
    · rw [if_pos z1, if_pos z1]
    · rw [if_neg z1, if_neg z1]
      rcases v107_cases x2 0 1 with ⟨e2, y1, y2⟩ | ⟨e2, -⟩
      · rw [e2, if_pos d10, if_pos d10]
        obtain ⟨p1, p2⟩ := rowsC hA hP h12 (by omega) hV.2.1 x1 nv (Nat.le_refl _)
        obtain ⟨r1, ⟨t, t1, t2, t3⟩, r3⟩ := rowsR hA hP hV h4 x1 nv (Nat.le_refl _)
        have htm : t = m := tb_eq t1 hm1 (fun j hj => (t3 j hj).trans (hm j hj).symm)
        subst htm
        have e18 : (lp_250_30 J x1 0 nv).2 74 18 = nI nv := by rw [r1 74 18 (by omega)]; exact hV.2.2.1
        have hV' : kV 1 nv nc I (lp_250_30 J x1 0 nv).2 := kV_cg hV (fun _ _ _ => rfl) (fun c k _ => r1 c k (by omega))
        have e180 : ∀ v, v < nv → v_180 (lp_250_30 J x1 0 nv).2 (nI v) = v_180 J (nI v) := fun v hv => by rw [← (there_eq hV' h4 hv).1, (there_eq hV h4 hv).1]
        have hcc : ∀ s, (∀ j, s.testBit j = true → t.testBit j = true) → v_10 (lp_8_2 I 1 x1 nv) (nI s) (nI t) = v_252 (lp_250_30 J x1 0 nv).2 (nI s) := fun s hs => by
          have c1 := covC (P := lp_8_2 I 1 x1 nv) h12 hm1 hs p2
          have c2 := (covR_lp h12 e18 e180 hm1 hm hs r3 nv 0 400 (by omega) (by omega)).2
          have e : v_252 (lp_250_30 J x1 0 nv).2 (nI s) = lp_252_2 (lp_250_30 J x1 0 nv).2 (nI s) 400 (nI 0) := rfl
          rw [e]
          rcases c1 with ⟨a1, a2⟩ | ⟨a1, a2⟩
          · rcases c2 with ⟨b1, b2⟩ | ⟨b1, b2⟩
            · rw [a1, b1]
            · exact absurd (fun v _ hv hmv => a2 v hv hmv) b2
          · rcases c2 with ⟨b1, b2⟩ | ⟨b1, b2⟩
            · exact absurd (fun v hv hmv => b2 v (by omega) hv hmv) a2
            · rw [a1, b1]
        have hs := sets_lp (P := lp_8_2 I 1 x1 nv) (b := 1) (x := x1) h12 hm1 ((p1 1 12 (by omega)).trans hm2) hcc
        have e8 : v_8 I 1 x1 = (lp_8_34 (lp_8_2 I 1 x1 nv) 1 (-1) (t + 1), lp_8_2 I 1 x1 nv) := by
          unfold v_8
          rw [hV.2.1, cl (show nv < 2 ^ 31 by omega)]
          simp only [bx]
          rw [p1 1 12 (by omega), hm2, nI_toInt (by omega), show ((t : Int) + 1 - (0 : Int32).toInt).toNat = t + 1 by
            have : (0 : Int32).toInt = 0 := by decide
            omega]
        have e1 := (hs (t + 1) (by omega)).1 (Nat.le_refl _)
        have e9 := (hs (2 ^ nv) (Nat.le_refl _)).2.1 (by omega)
        rw [e8, hV.2.2.1, cl (show nv < 2 ^ 31 by omega)]
        simp only [bx]
        rw [t2, e18, shN h12, cl (show 2 ^ nv < 2 ^ 31 by omega), e9, e1]
        have hx2 : x2 = 0 ∨ x2 = 1 := by
          have t : (0 : Int32).toInt = 0 ∧ (1 : Int32).toInt = 1 := by decide
          rcases (show x2.toInt = 0 ∨ x2.toInt = 1 by omega) with z | z
          · exact Or.inl (Int32.toInt_inj.mp (by omega))
          · exact Or.inr (Int32.toInt_inj.mp (by omega))
        rcases (hs (t + 1) (by omega)).2.2 with h | ⟨s, h1, h2⟩
        · rw [h]
          rcases hx2 with rfl | rfl <;> rfl
        · rw [h2]
          have n1 : ¬ nI s = -1 := nIm1 (by omega)
          rcases hx2 with rfl | rfl
          · rw [if_neg (show ¬ (0 : Int32) = 1 by decide), if_pos n1, if_pos n1, if_neg d00, v251_eq (by omega)]
          · rw [if_pos rfl, if_pos n1, if_pos d10]
      · rw [e2, if_neg d00, if_neg d00]
end
