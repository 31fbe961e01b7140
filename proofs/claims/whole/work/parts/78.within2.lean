section
variable {S : Nat → List Int32 × List Int32} {nv nc tc r : Nat} {I J : WI} {L : WL}
/-- weighed, what is told of the shelf stays -/
theorem WJ_I {b : Nat} {I' : WI} (h : WJ S b nv nc tc r I J L) (hb : b ≤ 21) (hI : ∀ c k, c ≠ 35 → c ≠ 36 → c ≠ 37 → I' c k = I c k) : WJ S b nv nc tc r I' J L := by
  obtain ⟨h1, h2, h3, h4, h5, h6⟩ := h
  exact ⟨kR_cgI h1 (fun c k hh => hI c k (by omega) (by omega) (by omega)), fun q hq => TxtP_cg (h2 q hq) (fun c k hh => hI c k (by omega) (by omega) (by omega)) (fun _ _ _ => rfl), h3, h4, h5, h6⟩
/-- the judge, for the shelf -/
theorem weigh1 (h : WJ S 1 nv nc tc r I J L) (h9 : I 0 9 = nI tc) : g_120 I ∧ ∃ (m : Nat) (A : WI), v_120 I = (nI m, A) ∧ m < 2 ^ nv ∧ (∀ v, v < nv → (m.testBit v = true ↔ FT S r J v)) ∧ (∀ v, v < nv → A 37 v = PU S r J v) ∧ WJ S 1 nv nc tc r A J L ∧ A 1 8 = nI nv := by
  have h' := h
  obtain ⟨h1, h2, h3, h4, h5, h6⟩ := h
  obtain ⟨a1, a2, a3, a4, m, m1, m2, m3⟩ := weighR (b := 1) L (by omega) h1 h2 h3 h5 h6 h9
  have kv8 : I 1 8 = nI nv := by obtain ⟨-, -, -, -, -, kv, -⟩ := h1; exact kv.2.1
  have fr : ∀ c k, c ≠ 35 → c ≠ 36 → c ≠ 37 → v_12 I 1 (45 + 2 * r) c k = I c k := fun c k x y z => frI_v_12 (by omega) y z
  refine ⟨?_, m, v_12 I 1 (45 + 2 * r), ?_, m1, fun v hv => (m3 v hv).1, fun v hv => (m3 v hv).2, WJ_I h' (by omega) fr, (fr _ _ (by omega) (by omega) (by omega)).trans kv8⟩
  · unfold g_120
    rw [a1, bxd]
    exact ⟨a2, a3, a4⟩
  · unfold v_120
    rw [a1, bxd, bxd, m2]
theorem op_within (h : WJ S 1 nv nc tc r I J L) (h9 : I 0 9 = nI tc) (x1 x2 : Int32) : g_130 I x1 x2 ∧ g_243 J L x1 x2 ∧ (v_130 I x1 x2).1 = (v_243 J L x1 x2).1 ∧ RO J (v_243 J L x1 x2).2.1 ∧ kM S tc (v_243 J L x1 x2).2.1 (v_243 J L x1 x2).2.2 := by
  obtain ⟨g, m, A, e, m1, m2, m3, wA, e8⟩ := weigh1 h h9
  have h12 : nv ≤ 12 := by obtain ⟨⟨-, -, -, -, -, kv, -⟩, -⟩ := h; exact kv.1
  have e18 : J 74 18 = nI nv := by obtain ⟨⟨-, -, -, -, -, kv, -⟩, -⟩ := h; exact kv.2.2.1
  have hM : kM S tc J L := h.2.2.2.1
  obtain ⟨g1, g2, t, J', L', t1, t2, t3, t4, t5⟩ := within_lp wA m1 m2 m3 x1 nv (Nat.le_refl _)
  have c1 : (A 1 8).toNatClampNeg = nv := by rw [e8, cl (by omega)]
  have c2 : (J 74 18).toNatClampNeg = nv := by rw [e18, cl (by omega)]
  unfold v_130 v_243 g_130 g_243
  rw [show (0 : Int64) = Int32.toInt64 0 by decide, show (999999999 : Int64) = Int32.toInt64 999999999 by decide, show (1 : Int64) = Int32.toInt64 1 by decide, v170_107, v170_107, e, bxd, bxd, bxd, bxd, c1, c2]
  refine ⟨fun _ _ => ⟨g, g1⟩, fun _ _ => g2, ?_⟩
  by_cases y1 : v_107 x1 0 999999999 = 0
  · rw [if_pos y1, if_pos y1]
    exact ⟨rfl, fun _ _ _ _ _ => rfl, hM⟩
  · rw [if_neg y1, if_neg y1]
    by_cases y2 : v_107 x2 0 1 = 0
    · rw [if_neg (fun w => w y2), if_neg (fun w => w y2)]
      exact ⟨rfl, fun _ _ _ _ _ => rfl, hM⟩
    · rw [if_pos y2, if_pos y2, t2, t3]
      by_cases y3 : x2 = 0
      · rw [if_neg (fun w => w y3), if_neg (fun w => w y3)]
        exact ⟨pop t1 h12, t4, t5⟩
      · rw [if_pos y3, if_pos y3]
        exact ⟨rfl, t4, t5⟩
end
