section
variable {S : Nat → List Int32 × List Int32} {b nv nc tc r v : Nat} {I J : WI} {L : WL}
/-- the reference: does v fit -/
theorem refFit (hk : kR b nv nc tc I J) (hT : ∀ r, r < tc → TxtP (S r) I J r) (ht : tc ≤ 6) (hM : kM S tc J L) (hr : r < tc) (h4 : J 74 4 = nI r) (hv : v < nv) :
    g_213 J L (nI v) ∧ ((v_213 J L (nI v)).1 = 0 ∨ (v_213 J L (nI v)).1 = 1) ∧ ((v_213 J L (nI v)).1 = 1 ↔ FT S r J v) ∧ kM S tc (v_213 J L (nI v)).2.1 (v_213 J L (nI v)).2.2 := by
  have ok := ok_R hk ht hr hv 0 ⟨by decide, by decide⟩
  obtain ⟨-, -, kc, -, -, kv, -, -, -⟩ := hk
  have h12 := kv.1
  have kc4 := kc.1
  have n01 : ¬ (0 : Int32) = 1 := by decide
  have ev : (nI v).toNatClampNeg = v := cl (by omega)
  obtain ⟨g, s1, s2⟩ := saysS (w := 0) ht hT hM hr h4 (show v < 12 by omega) ok
  have s1 : (v_214 J L 0 (nI v)).1 = rv (S r).1 (enR J v) := s1
  have hg : g_213 J L (nI v) := by
    unfold g_213 g_180
    exact ⟨⟨vin (by omega) (by omega), fun _ => vin (by omega) (by omega)⟩, fun _ => g⟩
  refine ⟨hg, ?_⟩
  by_cases z : J 87 v = 0
  · have z6 : ¬ J 86 v = -1 := by
      rcases kv.2.2.2.2.1 v hv with ⟨-, a⟩ | ⟨c, c1, c2⟩
      · rw [z] at a; exact absurd a (by decide)
      · have := kv.1
        rw [c2]
        intro w
        have tc' : (nI c).toInt = (c : Int) := Int32.toInt_ofNat_of_lt (by omega)
        rw [w] at tc'
        have : (-1 : Int32).toInt = -1 := by decide
        omega
    have e180 : ¬ v_180 J (nI v) = 0 := by
      unfold v_180
      rw [ev, if_neg (fun w => w z), if_neg z6]
      decide
    unfold v_213
    rw [if_neg e180]
    generalize v_214 J L 0 (nI v) = Q at s1 s2
    rw [bxd]
    by_cases y : Q.1 = 0
    · rw [if_pos y]
      refine ⟨Or.inl rfl, ⟨fun w => absurd w n01, fun w => absurd (s1.symm.trans y) w.2⟩, s2⟩
    · rw [if_neg y]
      exact ⟨Or.inr rfl, ⟨fun _ => ⟨z, by rw [← s1]; exact y⟩, fun _ => rfl⟩, s2⟩
  · have e180 : v_180 J (nI v) = 0 := by
      unfold v_180
      rw [ev, if_pos z]
    unfold v_213
    rw [if_pos e180]
    exact ⟨Or.inl rfl, ⟨fun w => absurd w n01, fun w => absurd w.1 z⟩, hM⟩
/-- the reference: what a push is -/
theorem refPush (hk : kR b nv nc tc I J) (hT : ∀ r, r < tc → TxtP (S r) I J r) (ht : tc ≤ 6) (hM : kM S tc J L) (hr : r < tc) (h4 : J 74 4 = nI r) (hv : v < nv) :
    g_215 J L (nI v) ∧ (v_215 J L (nI v)).1 = PU S r J v ∧ kM S tc (v_215 J L (nI v)).2.1 (v_215 J L (nI v)).2.2 := by
  have ok := ok_R hk ht hr hv 1 ⟨by decide, by decide⟩
  obtain ⟨-, -, -, -, -, kv, -, -, -⟩ := hk
  have h12 := kv.1
  obtain ⟨g, s1, s2⟩ := saysS (w := 1) ht hT hM hr h4 (show v < 12 by omega) ok
  have s1 : (v_214 J L 1 (nI v)).1 = rv (S r).2 (enR J v) := s1
  refine ⟨g, ?_⟩
  unfold v_215
  generalize v_214 J L 1 (nI v) = Q at s1 s2
  rw [bxd]
  refine ⟨?_, s2⟩
  show v_216 Q.1 0 99 = PU S r J v
  rw [cq_216, s1]
  rfl
/-- how far a vector is, its push with it -/
theorem refFar (hk : kR b nv nc tc I J) (hT : ∀ r, r < tc → TxtP (S r) I J r) (ht : tc ≤ 6) (hM : kM S tc J L) (hr : r < tc) (h4 : J 74 4 = nI r) (hv : v < nv) (h37 : I 37 v = PU S r J v) :
    g_22 I b (nI v) ∧ g_217 J L (nI v) ∧ v_22 I b (nI v) = (v_217 J L (nI v)).1 ∧ kM S tc (v_217 J L (nI v)).2.1 (v_217 J L (nI v)).2.2 := by
  obtain ⟨g, s1, s2⟩ := refPush hk hT ht hM hr h4 hv
  obtain ⟨ka, kq, -, -, kp, kv, -, -, -⟩ := hk
  have h12 := kv.1
  have e3 : (3 * nI v).toNatClampNeg = 3 * v := by rw [n30, cl (by omega)]
  have e31 : (3 * nI v + 1).toNatClampNeg = 3 * v + 1 := by rw [n31, cl (by omega)]
  have e32 : (3 * nI v + 2).toNatClampNeg = 3 * v + 2 := by rw [n32, cl (by omega)]
  have ev : (nI v).toNatClampNeg = v := cl (by omega)
  have v3 : vp_in (3 * nI v) 36 := by rw [n30]; exact vin (by omega) (by omega)
  have v31 : vp_in (3 * nI v + 1) 36 := by rw [n31]; exact vin (by omega) (by omega)
  have v32 : vp_in (3 * nI v + 2) 36 := by rw [n32]; exact vin (by omega) (by omega)
  have d : ∀ i, i < 3 → v_285 (I (b + 7) (3 * v + i) - I (b + 3) i) = v_184 (J 84 (3 * v + i)) (J 79 i) := fun i hi => by
    rw [(kp _ (by omega)).1, (kq i hi).1]
    exact abs_far (kp _ (by omega)).2 (kq i hi).2
  have d0 : v_285 (I (b + 7) (3 * v) - I (b + 3) 0) = v_184 (J 84 (3 * v)) (J 79 0) := d 0 (by omega)
  refine ⟨?_, ?_, ?_⟩
  · unfold g_22
    exact ⟨v3, v31, v32, (g_meas (I := I) (J := J) (b := b + 1) _ _ _).1, vin (by omega) (by omega)⟩
  · unfold g_217
    exact ⟨v3, v31, v32, (g_meas (I := J) (J := J) (b := b + 1) _ _ _).2, g⟩
  · unfold v_22 v_217
    rw [e3, e31, e32, ev, bxd, bxd, d0, d 1 (by omega), d 2 (by omega), meas_eq ka, h37]
    generalize v_215 J L (nI v) = Q at s1 s2
    rw [bxd]
    exact ⟨by rw [← s1], s2⟩
end
