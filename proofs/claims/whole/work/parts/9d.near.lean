section
variable {S : Nat → List Int32 × List Int32} {b nv nc tc r k m : Nat} {I J : WI} {L : WL} {F : WF}
/-! near -/
theorem HL_size (h : HL k (fun v => m.testBit v) nv I J) : I 38 3 = nI (min k (pc m nv)) := by
  rw [← szr_pc m nv]; exact h.1
theorem pc_le' (m : Nat) : ∀ n, pc m n ≤ n := by
  intro n
  induction n with
  | zero => exact Nat.le_refl _
  | succ n ih =>
    have e : pc m (n + 1) = pc m n + if m.testBit n then 1 else 0 := rfl
    rw [e]; split <;> omega
/-- the one of a rank, of both -/
theorem held_at (h : HL k (fun v => m.testBit v) nv I J) {J1 : WI} (h18 : J1 74 18 = nI nv) (h12 : nv ≤ 12) (hk : k ≤ 5) (h97 : ∀ v, v < nv → (m.testBit v = true ↔ ¬ J1 97 v = 0)) (h96 : ∀ v, v < nv → J1 96 v = J 96 v) {j : Nat} (hj : j < 100) :
    g_241 J1 (nI j) 0 ∧ ((j < min k (pc m nv) ∧ (∃ v, v < nv ∧ v_241 J1 (nI j) 0 = nI v ∧ I 40 j = nI v ∧ I 41 j = J1 96 v)) ∨ (pc m nv ≤ j ∧ v_241 J1 (nI j) 0 = -1) ∨ (k ≤ j ∧ j < pc m nv)) := by
  obtain ⟨G, R⟩ := ranked (P := fun v => m.testBit v) (ro := 0) h18 h12 (fun v hv => ⟨fun w => ⟨(h97 v hv).mp w, Or.inl rfl⟩, fun w => (h97 v hv).mpr w.1⟩) hj
  rw [szr_pc] at R
  refine ⟨G, ?_⟩
  rcases R with ⟨v, v1, v2, v3, v4, v5⟩ | ⟨v1, v2⟩
  · by_cases y : j < k
    · left
      have eg : ∀ v, v < nv → fg J1 v = fg J v := fun v hv => by unfold fg; rw [h96 v hv]
      have ec := ctr_ext (P := fun v => m.testBit v) (Q := fun v => m.testBit v) (eg v v1) nv (fun _ _ => rfl) (fun i hi => eg i hi)
      rw [v3] at ec
      obtain ⟨q1, q2⟩ := h.2 v v1 v2 (by omega)
      rw [← ec] at q1 q2
      exact ⟨by omega, v, v1, v5, q1, q2.trans (h96 v v1).symm⟩
    · right; right
      exact ⟨by omega, v4⟩
  · right; left
    exact ⟨v1, v2⟩
theorem in59 {w : Nat} (hw : w < 10) : (v_107 (nI w) 5 7 = 0 ∧ ¬ (5 ≤ w ∧ w ≤ 7)) ∨ (v_107 (nI w) 5 7 = 1 ∧ 5 ≤ w ∧ w ≤ 7) := by
  have t5 : (5 : Int32).toInt = 5 := by decide
  have t7 : (7 : Int32).toInt = 7 := by decide
  have tw := nI_toInt (n := w) (by omega)
  rcases v107_cases (nI w) 5 7 with ⟨a, b1, b2⟩ | ⟨a, b⟩
  · rw [tw] at b1 b2
    exact Or.inr ⟨a, by omega, by omega⟩
  · rw [tw] at b
    exact Or.inl ⟨a, by omega⟩
/-- what the class's near comes to -/
theorem near_C (h : WJ S 1 nv nc tc r I J L) (h9 : I 0 9 = nI tc) (hk1 : 1 ≤ k) (hk : k ≤ 5) {w : Nat} (hw : w < 10) : ∃ (m : Nat) (A I' : WI) (F' : WF) (J' : WI) (L' : WL), m < 2 ^ nv ∧ (∀ v, v < nv → (m.testBit v = true ↔ FT S r J v)) ∧ (∀ v, v < nv → A 37 v = PU S r J v) ∧ WJ S 1 nv nc tc r A J L ∧
    v_128 I F (nI k) (nI w) = ((if nI w = 5 then (I' 38 4) else (if nI w = 6 then (I' 38 5) else (if nI w = 7 then (I' 38 6) else (if nI w = 8 then (v_41 I') else (if nI w = 9 then (I' 38 3) else (v_42 I' (nI w))))))), I', F') ∧
    g_237 J L (nI k) ∧ v_237 J L (nI k) = (J', L') ∧ RY J J' ∧ kM S tc J' L' ∧ HL k (fun v => m.testBit v) nv I' J' ∧ I' 38 4 = J' 74 46 ∧ I' 38 5 = J' 74 47 ∧ I' 38 6 = J' 74 48 ∧ (∀ v, v < nv → J' 96 v = v_22 A 1 (nI v)) ∧ g_128 I F (nI k) (nI w) := by
  have h' := h
  obtain ⟨h1, h2, h3, h4, h5, h6⟩ := h
  have h12 : nv ≤ 12 := h1.2.2.2.2.2.1.1
  obtain ⟨a1, a2, a3, a4, m, m1, m2, m3⟩ := weighR (b := 1) L (by omega) h1 h2 h3 h5 h6 h9
  obtain ⟨A, hA⟩ : ∃ A, A = v_12 I 1 (45 + 2 * r) := ⟨_, rfl⟩
  rw [← hA] at m2 m3
  have fr : ∀ c k, c ≠ 35 → c ≠ 36 → c ≠ 37 → A c k = I c k := fun c k x y z => by rw [hA]; exact frI_v_12 (by omega) y z
  have wA : WJ S 1 nv nc tc r A J L := WJ_I h' (by omega) fr
  obtain ⟨g1, g2, I', F', J', L', e1, e2, e3, e4, e5, e6, e7, e8, e9, e10, -⟩ := readB (F := F) (b := 1) (by omega) wA (fun _ _ _ => rfl) m1 m2 (fun v hv => (m3 v hv).1) (fun v hv => (m3 v hv).2) hk1 hk
  have k15 : v_107 (nI k) 1 5 = 1 := by
    have t1 : (1 : Int32).toInt = 1 := by decide
    have t5 : (5 : Int32).toInt = 5 := by decide
    have tk := nI_toInt (n := k) (by omega)
    rcases v107_cases (nI k) 1 5 with ⟨a, -⟩ | ⟨-, b⟩
    · exact a
    · rw [tk, t1, t5] at b; exact absurd ⟨by omega, by omega⟩ b
  have w09 : v_107 (nI w) 0 9 = 1 := by
    have t0 : (0 : Int32).toInt = 0 := by decide
    have t9 : (9 : Int32).toInt = 9 := by decide
    have tw := nI_toInt (n := w) (by omega)
    rcases v107_cases (nI w) 0 9 with ⟨a, -⟩ | ⟨-, b⟩
    · exact a
    · rw [tw, t0, t9] at b; exact absurd ⟨by omega, by omega⟩ b
  have hs := HL_size e6
  have hpc := pc_le' m nv
  have t0 : (0 : Int32).toInt = 0 := by decide
  have g41 : g_41 I' := by
    unfold g_41
    rw [hs]
    intro z
    rw [Int32.le_iff_toInt_le, nI_toInt (by omega), t0] at z
    obtain ⟨a, ha⟩ : ∃ a, min k (pc m nv) = a + 1 := ⟨min k (pc m nv) - 1, by omega⟩
    rw [ha, nI_pred]
    exact vin (by omega) (by omega)
  have g42 : g_42 I' (nI w) := by
    unfold g_42
    rw [hs]
    intro z
    rcases vnum (nv := min k (pc m nv)) (by omega) (nI w) with ⟨-, v, hv, e⟩ | q
    · rw [e]; exact vin (by omega) (by omega)
    · exact absurd q z
  refine ⟨m, A, I', F', J', L', m1, fun v hv => (m3 v hv).1, fun v hv => (m3 v hv).2, wA, ?_, g2, e2, e4, e5, e6, e7, e8, e9, e10, ?_⟩
  · unfold v_128
    rw [k15, w09, if_neg d10, if_pos d10, a1, bxd, ← hA, bxd, e1, bxd]
    by_cases y5 : nI w = 5
    · rw [if_pos y5, if_pos y5]
    rw [if_neg y5, if_neg y5]
    by_cases y6 : nI w = 6
    · rw [if_pos y6, if_pos y6]
    rw [if_neg y6, if_neg y6]
    by_cases y7 : nI w = 7
    · rw [if_pos y7, if_pos y7]
    rw [if_neg y7, if_neg y7]
    by_cases y8 : nI w = 8
    · rw [if_pos y8, if_pos y8]
    rw [if_neg y8, if_neg y8]
    by_cases y9 : nI w = 9
    · rw [if_pos y9, if_pos y9]
    rw [if_neg y9, if_neg y9]
  · unfold g_128
    rw [a1, bxd, ← hA, bxd, e1, bxd]
    refine fun _ _ => ⟨a2, a3, a4, g1, fun _ => trivial, fun _ => ⟨fun _ => trivial, fun _ => ⟨fun _ => trivial, fun _ => ⟨fun _ => g41, fun _ => ⟨fun _ => trivial, fun _ => g42⟩⟩⟩⟩⟩
end
