section
variable {I J : WI} {b nv nc k m c : Nat}
theorem RF_rf : RF I J I J := ⟨fun _ _ _ _ _ => rfl, fun _ _ _ _ _ => rfl⟩
/-- both loops over a cell -/
theorem cell_lp (hb : b ≤ 21) (hk1 : 1 ≤ k) (hk : k ≤ 5) (h : BF b nv nc m I J) (hc : c < nc) {q : Nat} (hq : q < 4096) (hqb : ∀ v, v < nv → (q.testBit v = true ↔ J 86 v = nI c ∧ J 87 v = 0)) (hri : RI k nv I J) {D : Nat → Prop} (hsk : SK D k nv m J) (h98 : ∀ v, v < nv → J 86 v = nI c → J 98 v = 0) :
    ∀ j, j ≤ nv → gl_39_23 I (nI k) b (nI q) (nI m) j ∧ gl_237_81 J (nI k) (nI c) j ∧ RF I J (lp_39_23 I (nI k) b (nI q) (nI m) j) (lp_237_81 J (nI k) (nI c) j) ∧ RI k nv (lp_39_23 I (nI k) b (nI q) (nI m) j) (lp_237_81 J (nI k) (nI c) j) ∧
      SK (fun v => D v ∨ (v < j ∧ J 86 v = nI c)) k nv m (lp_237_81 J (nI k) (nI c) j) ∧ (∀ v, (j ≤ v ∨ ¬ J 86 v = nI c) → lp_237_81 J (nI k) (nI c) j 98 v = J 98 v) ∧ (∀ v, lp_237_81 J (nI k) (nI c) j 99 v = J 99 v) ∧ lp_237_81 J (nI k) (nI c) j 74 48 = J 74 48 := by
  have h0 := h
  obtain ⟨⟨-, -, kC0, -, -, kV0, -⟩, m2, -⟩ := h
  have h12 := kV0.1
  have h4 := kC0.1
  have m12 := p12 m2 h12
  intro j
  induction j with
  | zero =>
    intro _
    refine ⟨⟨fun i hi => absurd hi (Nat.not_lt_zero _), rfl⟩, ⟨fun i hi => absurd hi (Nat.not_lt_zero _), rfl⟩, RF_rf, hri, fun v hv hd hm => ?_, fun _ _ => rfl, fun _ => rfl, rfl⟩
    rcases hd with hd | hd
    · exact hsk v hv hd hm
    · exact absurd hd.1 (Nat.not_lt_zero _)
  | succ j ih =>
    intro hj
    obtain ⟨⟨g1, g1'⟩, ⟨g2, g2'⟩, rf, ri, sk, e98, e99, e48⟩ := ih (by omega)
    obtain ⟨A, hA⟩ : ∃ A, lp_39_23 I (nI k) b (nI q) (nI m) j = A := ⟨_, rfl⟩
    obtain ⟨B, hB⟩ : ∃ B, lp_237_81 J (nI k) (nI c) j = B := ⟨_, rfl⟩
    rw [hA] at rf ri g1'
    rw [hB] at rf ri sk e98 e99 e48 g2'
    rw [bxd] at g1' g2'
    have bf := BF_cg hb h0 rf
    obtain ⟨⟨kA1, kQ1, kC1, kB1, kP1, kV1, kN1⟩, n1, n2, n3⟩ := bf
    have bf := BF_cg hb h0 rf
    have fJ := rf.2
    have e86 : ∀ v, B 86 v = J 86 v := fun v => fJ _ _ (by omega) (by omega) (by omega)
    have e87 : ∀ v, B 87 v = J 87 v := fun v => fJ _ _ (by omega) (by omega) (by omega)
    obtain ⟨ri1, ri2, ri3, ri4, ri5⟩ := ri
    obtain ⟨y1, y2, y3, y4⟩ := beyond (P := pR B) (f := v_218 B (nI j)) kV1.2.2.1 h12 hk1 hk (fun v _ => pR_iff) ri1
    have ej : (nI j).toNatClampNeg = j := cl (by omega)
    have dq := far_dQ bf (show j < nv by omega)
    obtain ⟨f1, f2, f3, f4, f5⟩ := n3 j (by omega)
    -- the two steps
    have s1 := st39 hA
    have s2 := st237 (show j < 100 by omega) hB
    have hqj := hqb j (by omega)
    have ht := there_eq kV1 h4 (show j < nv by omega)
    -- what has to be shown of a next pair
    have fin : ∀ A' B' : WI, lp_39_23 I (nI k) b (nI q) (nI m) (j + 1) = A' → lp_237_81 J (nI k) (nI c) (j + 1) = B' → RF A B A' B' → RI k nv A' B' → SK (fun v => D v ∨ (v < j + 1 ∧ J 86 v = nI c)) k nv m B' → (∀ v, (j + 1 ≤ v ∨ ¬ J 86 v = nI c) → B' 98 v = B 98 v) → (∀ v, B' 99 v = B 99 v) → B' 74 48 = B 74 48 →
        (¬ v_111 (nI q) (nI j) = 0 → g_63 A b (nI j) ∧ g_38 A (nI k) ∧ (v_38 A (v_63 A b (nI j)) (nI k) = 0 → (¬ v_111 (nI m) (nI j) = 0 → g_22 (up2 A 38 4 (A 38 4 + 1)) b (nI j) ∧ g_40 (up2 A 38 4 (A 38 4 + 1)) (nI j) (v_22 (up2 A 38 4 (A 38 4 + 1)) b (nI j))))) →
        (J 86 j = nI c → (¬ v_180 B (nI j) = 0 → g_218 B (nI j) ∧ g_240 B (nI k))) →
        (gl_39_23 I (nI k) b (nI q) (nI m) (j + 1) ∧ gl_237_81 J (nI k) (nI c) (j + 1) ∧ RF I J (lp_39_23 I (nI k) b (nI q) (nI m) (j + 1)) (lp_237_81 J (nI k) (nI c) (j + 1)) ∧ RI k nv (lp_39_23 I (nI k) b (nI q) (nI m) (j + 1)) (lp_237_81 J (nI k) (nI c) (j + 1)) ∧
          SK (fun v => D v ∨ (v < j + 1 ∧ J 86 v = nI c)) k nv m (lp_237_81 J (nI k) (nI c) (j + 1)) ∧ (∀ v, (j + 1 ≤ v ∨ ¬ J 86 v = nI c) → lp_237_81 J (nI k) (nI c) (j + 1) 98 v = J 98 v) ∧ (∀ v, lp_237_81 J (nI k) (nI c) (j + 1) 99 v = J 99 v) ∧ lp_237_81 J (nI k) (nI c) (j + 1) 74 48 = J 74 48) := by
      intro A' B' p1 p2 p3 p4 p5 p6 p7 p8 p9 p10
      rw [p1, p2]
      have rf' := RF_tr rf p3
      refine ⟨⟨fun i hi => ?_, ?_⟩, ⟨fun i hi => ?_, ?_⟩, rf', p4, p5, fun v hv => ?_, fun v => (p7 v).trans (e99 v), p8.trans e48⟩
      · by_cases y : i = j
        · subst y
          rw [hA, bxd]
          exact ⟨g1', p9⟩
        · exact g1 i (by omega)
      · rw [p1, bxd]
        exact rf'.1 b 8 (by omega) (by omega) (by omega)
      · by_cases y : i = j
        · subst y
          rw [hB, bxd, ej]
          refine ⟨g2', vin (by omega) (by omega), fun w => ⟨g180 (by omega), fun u => ?_⟩⟩
          have w' : J 86 i = nI c := by rw [← e86]; exact Classical.not_not.mp w
          obtain ⟨p, p'⟩ := p10 w' u
          refine ⟨p, p', ?_⟩
          rw [bxd, bxd]
          exact ⟨vin (by omega) (by omega), vin (by omega) (by omega), vin (by omega) (by omega)⟩
        · exact g2 i (by omega)
      · rw [p2, bxd]
        exact rf'.2 74 18 (by omega) (by omega) (by omega)
      · rw [p6 v hv]
        exact e98 v (hv.imp (fun w => by omega) (fun w => w))
    by_cases z : J 86 j = nI c
    · have z' : B 86 j = nI c := (e86 j).trans z
      have vj : ∀ v, (j + 1 ≤ v ∨ ¬ J 86 v = nI c) → v ≠ j := fun v hv e => by
        subst e
        rcases hv with h | h
        · omega
        · exact h z
      rcases ht.2 with ⟨t1, t2, -⟩ | ⟨t1, t2⟩
      · -- in the cell, and there
        have hq1 : ¬ v_111 (nI q) (nI j) = 0 := fun w => by
          rw [v111_0 hq (by omega)] at w
          rw [hqj.mpr ⟨z, by rw [← e87]; exact t2⟩] at w
          exact absurd w (by decide)
        have n180 : ¬ v_180 B (nI j) = 0 := by rw [← ht.1, t1]; decide
        obtain ⟨l1, l2, l3, l4, l5⟩ := lowv kA1 kQ1 kC1 kP1 kV1 (show j < nv by omega) hc z'
        have b98 : B 98 j = 0 := (e98 j (by omega)).trans (h98 j (by omega) z)
        have pj : pR B j = false := bNo (fun w => (pR_iff.mp w).2 b98)
        rw [if_neg hq1, l3, y3] at s1
        rw [if_neg (nn z'), if_neg n180] at s2
        rcases y4 with y4 | ⟨y4, w, w1, w2, w3, w4⟩
        · -- read
          rw [y4, if_pos rfl] at s1
          rw [y4, if_pos rfl] at s2
          obtain ⟨A4, hA4⟩ : ∃ A4, A4 = up2 A 38 4 (A 38 4 + 1) := ⟨_, rfl⟩
          have fA4 : ∀ a d, ¬ (a = 38 ∧ d = 4) → A4 a d = A a d := fun a d hh => by rw [hA4, up2_nk hh]
          have rf4 : RF A B A4 B := ⟨fun a d x1 x2 x3 => fA4 a d (by omega), fun _ _ _ _ _ => rfl⟩
          obtain ⟨⟨kA4, kQ4, -, -, kP4, -, -⟩, -, -, n34⟩ := BF_cg hb bf rf4
          have e22 : v_22 A4 b (nI j) = B 96 j := by
            rw [v22_dQ kA4 kQ4 kP4 (by omega), (n34 j (by omega)).2.2.2.1]
          have hl4 : HL k (pR B) nv A4 B := HL_cg ri1 (fA4 _ _ (by omega)) (fun a d hh => fA4 _ _ (by omega)) (fun _ _ => rfl) (fun _ _ => rfl)
          obtain ⟨gh, hh1, hh2⟩ := holdR h12 hk1 hk (show j < nv by omega) pj hl4 e22
          obtain ⟨B', hB'⟩ : ∃ B', B' = rst3 B j 1 1 0 := ⟨_, rfl⟩
          have fB' : ∀ a d, ¬ (a = 98 ∧ d = j) → ¬ (a = 74 ∧ (d = 46 ∨ d = 47)) → B' a d = B a d := fun a d x1 x2 => by rw [hB', rst3_o x1 x2]
          have b1 : B' 98 j = 1 := by rw [hB']; exact rst3_8.1
          have b2 : B' 74 46 = B 74 46 + 1 := by rw [hB']; exact rst3_8.2.1
          have b3 : B' 74 47 = B 74 47 := by rw [hB', rst3_8.2.2, Int32.add_zero]
          have b4 : B' 74 48 = B 74 48 := fB' _ _ (by omega) (by omega)
          rw [← hB'] at s2
          rw [← hA4] at s1
          have eg : ∀ v, fg B' v = fg B v := fun v => by unfold fg; rw [fB' 96 v (by omega) (by omega)]
          have po : ∀ v, v ≠ j → pR B' v = pR B v := fun v hv => pR_cg (fB' _ _ (by omega) (by omega)) (fB' _ _ (by omega) (by omega))
          have a4 : A4 38 4 = A 38 4 + 1 := by rw [hA4, up2_pt]
          have e8 : ∀ v, r8 B' v = inr (r8 B) j v := fun v => by
            by_cases y : v = j
            · subst y
              rw [inr_v]
              unfold r8
              rw [b1]; decide
            · rw [inr_o y]; exact r8_cg (fB' _ _ (by omega) (by omega))
          have n8 : r8 B j = false := by unfold r8; rw [b98]; decide
          have s8 : B' 74 46 = nI (szr (r8 B') nv) := by
            rw [b2, ri5, szr_ext nv (fun v _ => e8 v), szr_inr n8, if_pos (show j < nv by omega), nI_1]
          by_cases u : m.testBit j = true
          · -- and it fits
            have u1 : ¬ v_111 (nI m) (nI j) = 0 := fun w => by
              rw [v111_0 m12 (by omega), u] at w
              exact absurd w (by decide)
            have pj' : pR B' j = true := pR_iff.mpr ⟨by rw [fB' _ _ (by omega) (by omega), f2.mpr u]; decide, by rw [b1]; decide⟩
            have pe : ∀ v, pR B' v = inr (pR B) j v := fun v => by
              by_cases y : v = j
              · subst y; rw [pj', inr_v]
              · rw [po v y, inr_o y]
            rw [if_neg u1] at s1
            obtain ⟨A', hA'⟩ : ∃ A', A' = v_40 A4 (nI j) (v_22 A4 b (nI j)) (nI k) := ⟨_, rfl⟩
            rw [← hA'] at s1 hh1 hh2
            refine fin A' B' s1 s2 ⟨fun a d x1 x2 x3 => ?_, fun a d x1 x2 x3 => fB' a d (by omega) (by omega)⟩ ⟨?_, ?_, ?_, ?_, ?_⟩ ?_ (fun v hv => fB' _ _ (by have := vj v hv; omega) (by omega)) (fun v => fB' _ _ (by omega) (by omega)) b4 (fun _ => ⟨l1, y1, fun _ _ => ⟨g22 (by omega), ?_⟩⟩) (fun _ _ => ⟨l2, y2⟩)
            · rw [hh2 a d (by omega) (by omega) (by omega), fA4 a d (by omega)]
            · exact HL_cg hh1 rfl (fun _ _ _ => rfl) (fun v _ => fB' _ _ (by omega) (by omega)) (fun v _ => pe v)
            · rw [hh2 38 4 (by omega) (by omega) (by omega), a4, b2, ri2]
            · rw [hh2 38 5 (by omega) (by omega) (by omega), fA4 38 5 (by omega), b3, ri3]
            · rw [hh2 38 6 (by omega) (by omega) (by omega), fA4 38 6 (by omega), b4, ri4]
            · exact s8
            · intro v hv hd hm
              by_cases y : v = j
              · subst y; exact Or.inl pj'
              · have hd' : D v ∨ (v < j ∧ J 86 v = nI c) := by
                  rcases hd with hd | hd
                  · exact Or.inl hd
                  · exact Or.inr ⟨by omega, hd.2⟩
                rcases sk v hv hd' hm with x | x
                · exact Or.inl ((po v y).trans x)
                · right
                  rw [ctr_ext (g' := fg B) (Q := inr (pR B) j) (eg v) nv (fun i _ => pe i) (fun i _ => eg i), ctr_inr pj]
                  omega
            · rw [← hA4]; exact gh
          · -- and it does not fit
            have u1 : v_111 (nI m) (nI j) = 0 := (v111_0 m12 (by omega)).mpr (bNo u)
            have n97 : B 97 j = 0 := by
              rcases f1 with f1 | f1
              · exact f1
              · exact absurd (f2.mp f1) u
            have pj' : pR B' j = false := bNo (fun w => (pR_iff.mp w).1 (by rw [fB' _ _ (by omega) (by omega)]; exact n97))
            have pe : ∀ v, pR B' v = pR B v := fun v => by
              by_cases y : v = j
              · subst y; rw [pj', pj]
              · exact po v y
            rw [if_pos u1] at s1
            refine fin A4 B' s1 s2 ⟨fun a d x1 x2 x3 => fA4 a d (by omega), fun a d x1 x2 x3 => fB' a d (by omega) (by omega)⟩ ⟨?_, ?_, ?_, ?_, ?_⟩ ?_ (fun v hv => fB' _ _ (by have := vj v hv; omega) (by omega)) (fun v => fB' _ _ (by omega) (by omega)) b4 (fun _ => ⟨l1, y1, fun _ w => absurd u1 w⟩) (fun _ _ => ⟨l2, y2⟩)
            · exact HL_cg hl4 rfl (fun _ _ _ => rfl) (fun v _ => fB' _ _ (by omega) (by omega)) (fun v _ => pe v)
            · rw [a4, b2, ri2]
            · rw [fA4 38 5 (by omega), b3, ri3]
            · rw [fA4 38 6 (by omega), b4, ri4]
            · exact s8
            · intro v hv hd hm
              by_cases y : v = j
              · subst y; exact absurd hm u
              · have hd' : D v ∨ (v < j ∧ J 86 v = nI c) := by
                  rcases hd with hd | hd
                  · exact Or.inl hd
                  · exact Or.inr ⟨by omega, hd.2⟩
                rw [pe v, ctr_ext (g' := fg B) (Q := pR B) (eg v) nv (fun i _ => pe i) (fun i _ => eg i)]
                exact sk v hv hd' hm
        · -- skipped
          rw [y4, if_neg d10] at s1
          rw [y4, if_neg d10] at s2
          obtain ⟨A', hA'⟩ : ∃ A', A' = up2 A 38 5 (A 38 5 + 1) := ⟨_, rfl⟩
          have fA' : ∀ a d, ¬ (a = 38 ∧ d = 5) → A' a d = A a d := fun a d hh => by rw [hA', up2_nk hh]
          have a5 : A' 38 5 = A 38 5 + 1 := by rw [hA', up2_pt]
          obtain ⟨B', hB'⟩ : ∃ B', B' = rst3 B j 0 0 1 := ⟨_, rfl⟩
          have fB' : ∀ a d, ¬ (a = 98 ∧ d = j) → ¬ (a = 74 ∧ (d = 46 ∨ d = 47)) → B' a d = B a d := fun a d x1 x2 => by rw [hB', rst3_o x1 x2]
          have b1 : B' 98 j = 0 := by rw [hB']; exact rst3_8.1
          have b2 : B' 74 46 = B 74 46 := by rw [hB', rst3_8.2.1, Int32.add_zero]
          have b3 : B' 74 47 = B 74 47 + 1 := by rw [hB', rst3_8.2.2]
          have b4 : B' 74 48 = B 74 48 := fB' _ _ (by omega) (by omega)
          rw [← hB'] at s2
          rw [← hA'] at s1
          have eg : ∀ v, fg B' v = fg B v := fun v => by unfold fg; rw [fB' 96 v (by omega) (by omega)]
          have pe : ∀ v, pR B' v = pR B v := fun v => by
            by_cases y : v = j
            · subst y
              exact pR_cg (fB' _ _ (by omega) (by omega)) (b1.trans b98.symm)
            · exact pR_cg (fB' _ _ (by omega) (by omega)) (fB' _ _ (by omega) (by omega))
          refine fin A' B' s1 s2 ⟨fun a d x1 x2 x3 => fA' a d (by omega), fun a d x1 x2 x3 => fB' a d (by omega) (by omega)⟩ ⟨?_, ?_, ?_, ?_, ?_⟩ ?_ (fun v hv => fB' _ _ (by have := vj v hv; omega) (by omega)) (fun v => fB' _ _ (by omega) (by omega)) b4 (fun _ => ⟨l1, y1, fun w => by rw [l3, y3, y4] at w; exact absurd w d10⟩) (fun _ _ => ⟨l2, y2⟩)
          · exact HL_cg ri1 (fA' _ _ (by omega)) (fun a d hh => fA' _ _ (by omega)) (fun v _ => fB' _ _ (by omega) (by omega)) (fun v _ => pe v)
          · rw [fA' 38 4 (by omega), b2, ri2]
          · rw [a5, b3, ri3]
          · rw [fA' 38 6 (by omega), b4, ri4]
          · rw [b2, ri5, szr_ext (P := r8 B') (Q := r8 B) nv (fun v _ => by
              by_cases y : v = j
              · subst y; exact r8_cg (b1.trans b98.symm)
              · exact r8_cg (fB' _ _ (by omega) (by omega)))]
          · intro v hv hd hm
            rw [pe v, ctr_ext (g' := fg B) (Q := pR B) (eg v) nv (fun i _ => pe i) (fun i _ => eg i)]
            by_cases y : v = j
            · subst y
              right
              have lt : fg B w < fg B v := by
                refine Int.lt_of_not_ge fun hge => ?_
                have := l5 (B 96 w) (Int.le_trans dq.1 hge) (far_dQ bf w1).2
                have := w4 l4
                omega
              have := ctr_lt (P := pR B) (aB_iff.mpr (Or.inl lt)) w2 nv w1
              omega
            · have hd' : D v ∨ (v < j ∧ J 86 v = nI c) := by
                rcases hd with hd | hd
                · exact Or.inl hd
                · exact Or.inr ⟨by omega, hd.2⟩
              exact sk v hv hd' hm
      · -- in the cell, but not there
        have hq1 : v_111 (nI q) (nI j) = 0 := (v111_0 hq (by omega)).mpr (bNo (fun w => by
          have := (hqj.mp w).2
          rw [← e87, t2] at this
          exact absurd this d10))
        have n180 : v_180 B (nI j) = 0 := ht.1.symm.trans t1
        rw [if_pos hq1] at s1
        rw [if_neg (nn z'), if_pos n180] at s2
        refine fin A B s1 s2 RF_rf ⟨ri1, ri2, ri3, ri4, ri5⟩ ?_ (fun _ _ => rfl) (fun _ => rfl) rfl (fun w => absurd hq1 w) (fun _ w => absurd n180 w)
        intro v hv hd hm
        by_cases y : v = j
        · subst y
          have := f3 hm
          rw [t2] at this
          exact absurd this d10
        · refine sk v hv ?_ hm
          rcases hd with hd | hd
          · exact Or.inl hd
          · exact Or.inr ⟨by omega, hd.2⟩
    · -- elsewhere
      have z' : ¬ B 86 j = nI c := by rw [e86]; exact z
      have hq1 : v_111 (nI q) (nI j) = 0 := (v111_0 hq (by omega)).mpr (bNo (fun w => z (hqj.mp w).1))
      rw [if_pos hq1] at s1
      rw [if_pos z'] at s2
      refine fin A B s1 s2 RF_rf ⟨ri1, ri2, ri3, ri4, ri5⟩ ?_ (fun _ _ => rfl) (fun _ => rfl) rfl (fun w => absurd hq1 w) (fun w => absurd w z)
      intro v hv hd hm
      refine sk v hv ?_ hm
      rcases hd with hd | hd
      · exact Or.inl hd
      · by_cases y : v = j
        · subst y; exact absurd hd.2 z
        · exact Or.inr ⟨by omega, hd.2⟩
end
