section
variable {I J I' J' : WI} {P P' : Nat → Bool} {b nv nc k v m : Nat}
/-! beyond all that are held: the same of both, and what it tells -/
theorem HL_cg (h : HL k P nv I J) (h3 : I' 38 3 = I 38 3) (h40 : ∀ q j, q = 40 ∨ q = 41 → I' q j = I q j) (hJ : ∀ v, v < nv → J' 96 v = J 96 v) (hP : ∀ v, v < nv → P' v = P v) : HL k P' nv I' J' := by
  have eg : ∀ v, v < nv → fg J' v = fg J v := fun v hv => by unfold fg; rw [hJ v hv]
  refine ⟨?_, fun v hv hp hc => ?_⟩
  · rw [h3, h.1, szr_ext nv (fun j hj => hP j hj)]
  · rw [ctr_ext (eg v hv) nv (fun j hj => hP j hj) (fun j hj => eg j hj)] at hc ⊢
    rw [hP v hv] at hp
    rw [h40 _ _ (Or.inl rfl), h40 _ _ (Or.inr rfl), hJ v hv]
    exact h.2 v hv hp hc
theorem beyond (h18 : J 74 18 = nI nv) (h12 : nv ≤ 12) (hk1 : 1 ≤ k) (hk : k ≤ 5) (hP : ∀ v, v < nv → (P v = true ↔ ¬ J 97 v = 0 ∧ ¬ J 98 v = 0)) (h : HL k P nv I J) (f : UInt32) : g_38 I (nI k) ∧ g_240 J (nI k) ∧ v_38 I f (nI k) = v_240 J f (nI k) ∧
    (v_240 J f (nI k) = 0 ∨ (v_240 J f (nI k) = 1 ∧ ∃ w, w < nv ∧ P w = true ∧ ctr P (fg J) w nv = k - 1 ∧ (vf_n32 f → FP.Core.fkey (v_190 (J 96 w)) < FP.Core.fkey f))) := by
  have t0 : (0 : Int32).toInt = 0 := by decide
  obtain ⟨a, ha⟩ : ∃ a, k = a + 1 := ⟨k - 1, by omega⟩
  have ek : nI k - 1 = nI a := by rw [ha]; exact nI_pred a
  obtain ⟨G, R⟩ := ranked (ro := 1) h18 h12 (fun v hv => ⟨fun w => ⟨((hP v hv).mp w).1, Or.inr ((hP v hv).mp w).2⟩, fun w => (hP v hv).mpr ⟨w.1, by
    rcases w.2 with q | q
    · exact absurd q (by decide)
    · exact q⟩⟩) (show a < 100 by omega)
  have h38 := h.1
  have hsz : szr P nv ≤ nv := szr_n P nv
  have en : ∀ x : Nat, x < 100 → (nI x).toInt = (x : Int) := fun x hx => nI_toInt (by omega)
  unfold g_38 g_240 v_38 v_240
  rw [ek, h38]
  rcases R with ⟨w, w1, w2, w3, w4, w5⟩ | ⟨w1, w2⟩
  · have es : min k (szr P nv) = k := by omega
    obtain ⟨q1, q2⟩ := h.2 w w1 w2 (by omega)
    rw [w3] at q1 q2
    have ew : (nI w).toNatClampNeg = w := cl (by omega)
    have ea : (nI a).toNatClampNeg = a := cl (by omega)
    have n1 : ¬ nI k ≤ 0 := by rw [Int32.le_iff_toInt_le, en k (by omega), t0]; omega
    have n2 : ¬ nI k < nI k := by rw [Int32.lt_iff_toInt_lt]; omega
    rw [es, w5, ek, ew, ea, q2, if_neg n1, if_neg n2, if_neg (nIm1 (by omega))]
    refine ⟨fun _ _ => ⟨vin (by omega) (by omega), (g31 _).1⟩, ⟨G, fun _ => ⟨vin (by omega) (by omega), (g31 _).2⟩⟩, rfl, ?_⟩
    by_cases z : Op.cmpValue (FP.fcmp f (v_190 (J 96 w))) .l ≤ (0 : Int32)
    · rw [if_pos z]; exact Or.inl rfl
    · rw [if_neg z]
      refine Or.inr ⟨rfl, w, w1, w2, by omega, fun hf => ?_⟩
      rw [cmpL0 hf (n190 _)] at z
      omega
  · have es : min k (szr P nv) = szr P nv := by omega
    rw [es, w2, if_pos rfl]
    have cl2 : szr P nv < k := by omega
    have n2 : nI (szr P nv) < nI k := by rw [Int32.lt_iff_toInt_lt, en k (by omega), en _ (by omega)]; omega
    rw [if_pos n2]
    refine ⟨fun _ w => absurd n2 w, ⟨G, fun w => absurd rfl w⟩, ?_, Or.inl rfl⟩
    split <;> rfl
theorem g22 (hv : v < 12) : g_22 I b (nI v) := by
  have v3 : vp_in (3 * nI v) 36 := by rw [n30]; exact vin (by omega) (by omega)
  have v31 : vp_in (3 * nI v + 1) 36 := by rw [n31]; exact vin (by omega) (by omega)
  have v32 : vp_in (3 * nI v + 2) 36 := by rw [n32]; exact vin (by omega) (by omega)
  unfold g_22
  exact ⟨v3, v31, v32, (g_meas (I := I) (J := I) (b := b + 1) _ _ _).1, vin (by omega) (by omega)⟩
theorem v22_dQ (ka : kA b I J) (kq : kQ b I J) (kp : kP b I J) (hv : v < 12) : v_22 I b (nI v) = dQ J v + I 37 v := by
  have e3 : (3 * nI v).toNatClampNeg = 3 * v := by rw [n30, cl (by omega)]
  have e31 : (3 * nI v + 1).toNatClampNeg = 3 * v + 1 := by rw [n31, cl (by omega)]
  have e32 : (3 * nI v + 2).toNatClampNeg = 3 * v + 2 := by rw [n32, cl (by omega)]
  have ev : (nI v).toNatClampNeg = v := cl (by omega)
  have d : ∀ i, i < 3 → v_285 (I (b + 7) (3 * v + i) - I (b + 3) i) = v_184 (J 84 (3 * v + i)) (J 79 i) := fun i hi => by
    rw [(kp _ (by omega)).1, (kq i hi).1]
    exact abs_far (kp _ (by omega)).2 (kq i hi).2
  have d0 : v_285 (I (b + 7) (3 * v) - I (b + 3) 0) = v_184 (J 84 (3 * v)) (J 79 0) := d 0 (by omega)
  unfold v_22 dQ
  rw [e3, e31, e32, ev, bxd, d0, d 1 (by omega), d 2 (by omega), meas_eq ka]
/-- what a reading rests on -/
def BF (b nv nc m : Nat) (I J : WI) : Prop := (kA b I J ∧ kQ b I J ∧ kC b nc I J ∧ kB b nc I J ∧ kP b I J ∧ kV b nv nc I J ∧ kN nv nc J) ∧ m < 2 ^ nv ∧ v_21 I b = nI m ∧
  ∀ v, v < nv → (J 97 v = 0 ∨ J 97 v = 1) ∧ (J 97 v = 1 ↔ m.testBit v = true) ∧ (m.testBit v = true → J 87 v = 0) ∧ J 96 v = dQ J v + I 37 v ∧ bt 0 99 (I 37 v)
/-- what a reading changes: these alone -/
def RF (I0 J0 I J : WI) : Prop := (∀ c j, c ≠ 40 → c ≠ 41 → ¬ (c = 38 ∧ (j = 3 ∨ j = 4 ∨ j = 5 ∨ j = 6)) → I c j = I0 c j) ∧ (∀ c j, c ≠ 98 → c ≠ 99 → ¬ (c = 74 ∧ (j = 46 ∨ j = 47 ∨ j = 48)) → J c j = J0 c j)
theorem RF_tr {I0 J0 : WI} (h : RF I0 J0 I J) (h2 : RF I J I' J') : RF I0 J0 I' J' := ⟨fun c j a d e => (h2.1 c j a d e).trans (h.1 c j a d e), fun c j a d e => (h2.2 c j a d e).trans (h.2 c j a d e)⟩
theorem dQ_cg (hJ : ∀ c j, 78 ≤ c → c ≤ 84 → J' c j = J c j) (v : Nat) : dQ J' v = dQ J v := by
  have e4 : ∀ j, J' 84 j = J 84 j := fun j => hJ _ _ (by omega) (by omega)
  have e9 : ∀ j, J' 79 j = J 79 j := fun j => hJ _ _ (by omega) (by omega)
  have e8 : ∀ j, J' 78 j = J 78 j := fun j => hJ _ _ (by omega) (by omega)
  unfold dQ v_185 v_186 v_187 v_188
  simp only [e4, e9, e8]
theorem BF_cg {I0 J0 : WI} (hb : b ≤ 21) (h : BF b nv nc m I0 J0) (hR : RF I0 J0 I J) : BF b nv nc m I J := by
  obtain ⟨⟨h1, h2, h3, h4, h5, h6, h7⟩, h8, h9, h10⟩ := h
  obtain ⟨fI, fJ⟩ := hR
  have h12 := h6.1
  have c4 := h3.1
  refine ⟨⟨kA_cg h1 (fun c j _ => fI _ _ (by omega) (by omega) (by omega)) (fun j _ => fJ _ _ (by omega) (by omega) (by omega)), kQ_cg h2 (fun j _ => fI _ _ (by omega) (by omega) (by omega)) (fun j _ => fJ _ _ (by omega) (by omega) (by omega)), kC_cg h3 (fun c j _ => fI _ _ (by omega) (by omega) (by omega)) (fun c j _ => fJ _ _ (by omega) (by omega) (by omega)), kB_cg c4 h4 (fun c j _ => fI _ _ (by omega) (by omega) (by omega)) (fun c j _ => fJ _ _ (by omega) (by omega) (by omega)), kP_cg h5 (fun j _ => fI _ _ (by omega) (by omega) (by omega)) (fun j _ => fJ _ _ (by omega) (by omega) (by omega)), kV_cg h6 (fun c j _ => fI _ _ (by omega) (by omega) (by omega)) (fun c j _ => fJ _ _ (by omega) (by omega) (by omega)), kN_cg h12 c4 h7 (fun c j _ => fJ _ _ (by omega) (by omega) (by omega))⟩, h8, ?_, fun v hv => ?_⟩
  · unfold v_21
    rw [fI 35 2 (by omega) (by omega) (by omega), fI b 12 (by omega) (by omega) (by omega)]
    exact h9
  · rw [fJ 97 v (by omega) (by omega) (by omega), fJ 87 v (by omega) (by omega) (by omega), fJ 96 v (by omega) (by omega) (by omega), fI 37 v (by omega) (by omega) (by omega), dQ_cg (fun c j _ _ => fJ c j (by omega) (by omega) (by omega)) v]
    exact h10 v hv
/-- a far is no less than the distance, and not too great -/
theorem far_dQ (h : BF b nv nc m I J) (hv : v < nv) : (dQ J v).toInt ≤ (J 96 v).toInt ∧ (J 96 v).toInt ≤ 107784300 := by
  obtain ⟨⟨h1, h2, h3, h4, h5, h6, h7⟩, h8, h9, h10⟩ := h
  have h12 := h6.1
  obtain ⟨-, -, -, e, e1, e2⟩ := h10 v hv
  obtain ⟨d1, d2⟩ := dQ_bt h1 h2 h5 (show v < 12 by omega)
  rw [e, ti_add (by omega) (by omega)]
  omega
end
