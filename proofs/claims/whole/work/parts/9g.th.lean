section
variable {S : Nat → List Int32 × List Int32} {b nv nc tc r m : Nat} {I J I' J' : WI} {L L' : WL} {F : WF}
/-! moves of a weighed shelf -/
/-- the query goes elsewhere -/
theorem TH_q (hb : b ≤ 21) (h : TH S b nv nc tc r m I J L) (hI : ∀ c k, ¬ (c = b + 3 ∧ k < 3) → I' c k = I c k) (hJ : ∀ c k, ¬ (c = 79 ∧ k < 3) → J' c k = J c k) (hq : ∀ i, i < 3 → I' (b + 3) i = J' 79 i ∧ bt (-999) 999 (J' 79 i)) : TH S b nv nc tc r m I' J' L := by
  obtain ⟨⟨Ig, ⟨⟨k1, k2, k3, k4, k5, k6, k7, k8, q, q1, q2⟩, w2, w3, w4, w5, w6⟩, g⟩, h1, h2, h3, h4⟩ := h
  have e : ∀ v, enR J' v = enR J v := fun v => by
    unfold enR
    rw [hJ 84 _ (by omega), hJ 84 _ (by omega), hJ 84 _ (by omega), hJ 85 _ (by omega), hJ 86 _ (by omega)]
  have gI : ∀ c k, ¬ (c = b + 3 ∧ k < 3) → ¬ (c = b ∧ k = 2) → I' c k = Ig c k := fun c k x y => (hI c k x).trans (g c k y)
  refine ⟨⟨fun c k => if c = b ∧ k = 2 then Ig c k else I' c k, ⟨⟨kA_cg k1 (fun c k x => ?_) (fun k _ => hJ _ _ (by omega)), fun i hi => ?_, kC_cg k3 (fun c k x => ?_) (fun c k x => hJ _ _ (by omega)), kB_cg k3.1 k4 (fun c k x => ?_) (fun c k x => hJ _ _ (by omega)), kP_cg k5 (fun k x => ?_) (fun k x => hJ _ _ (by omega)), kV_cg k6 (fun c k x => ?_) (fun c k x => hJ _ _ (by omega)), kN_cg k6.1 k3.1 k7 (fun c k x => hJ _ _ (by omega)), ?_, q, q1, ?_⟩, fun t ht => TxtP_cg (w2 t ht) (fun c k x => ?_) (fun c k x => hJ _ _ (by omega)), w3, ?_, w5, ?_⟩, fun c k x => (if_neg x).symm⟩, h1, ?_, fun v hv => ?_, fun v hv => ?_⟩
  · rw [if_neg (by omega), gI _ _ (by omega) (by omega)]
  · show (if b + 3 = b ∧ i = 2 then Ig (b + 3) i else I' (b + 3) i) = J' 79 i ∧ bt (-999) 999 (J' 79 i)
    rw [if_neg (show ¬ (b + 3 = b ∧ i = 2) by omega)]
    exact hq i hi
  · rw [if_neg (by omega), gI _ _ (by omega) (by omega)]
  · rw [if_neg (by omega), gI _ _ (by omega) (by omega)]
  · rw [if_neg (by omega), gI _ _ (by omega) (by omega)]
  · rw [if_neg (by omega), gI _ _ (by omega) (by omega)]
  · show (if b = b ∧ 2 = 2 then Ig b 2 else I' b 2) = J' 74 4
    rw [if_pos (show b = b ∧ 2 = 2 from ⟨rfl, rfl⟩), hJ 74 4 (by omega)]
    exact k8
  · rw [hJ 74 4 (by omega)]; exact q2
  · rw [if_neg (by omega), gI _ _ (by omega) (by omega)]
  · exact kM_cg w4 (fun j => hJ 89 j (by omega))
  · rw [hJ 74 4 (by omega)]; exact w6
  · unfold v_21 at h2 ⊢
    rw [hI 35 2 (by omega), hI b 12 (by omega)]; exact h2
  · rw [h3 v hv]
    unfold FT
    rw [e v, hJ 87 v (by omega)]
  · rw [hI 37 v (by omega), h4 v hv]
    unfold PU
    rw [e v]
/-- a shelf laid in thought -/
theorem TH_lay (h : WJ S 1 nv nc tc r I J L) (h1 : m < 2 ^ nv) (h2 : v_21 I 1 = nI m) (h3 : ∀ v, v < nv → (m.testBit v = true ↔ FT S r J v)) (h4 : ∀ v, v < nv → I 37 v = PU S r J v) : TH S 21 nv nc tc r m (v_76 I 21 1) J L := by
  obtain ⟨w1, w2, w3, w4, w5, w6⟩ := h
  obtain ⟨l1, l2⟩ := v76_pt (I := I) (b := 21) (r := 1) (by omega)
  have l3 : ∀ q j, (q < 21 ∨ 31 ≤ q) → v_76 I 21 1 q j = I q j := fun q j x => l2 q j (by omega)
  refine TH_of ⟨lay_kR (by omega) w1, fun q hq => TxtP_cg (w2 q hq) (fun c k x => l3 _ _ (by omega)) (fun _ _ _ => rfl), w3, w4, w5, w6⟩ h1 ?_ h3 (fun v hv => by rw [l3 37 v (by omega)]; exact h4 v hv)
  unfold v_21 at h2 ⊢
  have e : v_76 I 21 1 21 12 = I 1 12 := l1 0 12 (Or.inl ⟨rfl, by omega⟩)
  rw [l3 35 2 (by omega), e]
  exact h2
/-- weighed -/
theorem TH_w (h : WJ S 1 nv nc tc r I J L) (h9 : I 0 9 = nI tc) : ∃ (A : WI) (m : Nat), A = v_12 I 1 (45 + 2 * r) ∧ v_115 I 1 = 45 + 2 * r ∧ g_115 I 1 ∧ isT (45 + 2 * r) ∧ g_12 I 1 (45 + 2 * r) ∧ TH S 1 nv nc tc r m A J L ∧ TH S 21 nv nc tc r m (v_76 A 21 1) J L ∧ (∀ c k, c ≠ 35 → c ≠ 36 → c ≠ 37 → A c k = I c k) ∧ WJ S 1 nv nc tc r A J L := by
  have h' := h
  obtain ⟨h1, h2, h3, h4, h5, h6⟩ := h
  obtain ⟨a1, a2, a3, a4, m, m1, m2, m3⟩ := weighR (b := 1) L (by omega) h1 h2 h3 h5 h6 h9
  have fr : ∀ c k, c ≠ 35 → c ≠ 36 → c ≠ 37 → v_12 I 1 (45 + 2 * r) c k = I c k := fun c k x y z => frI_v_12 (by omega) y z
  have wA : WJ S 1 nv nc tc r (v_12 I 1 (45 + 2 * r)) J L := WJ_I h' (by omega) fr
  exact ⟨v_12 I 1 (45 + 2 * r), m, rfl, a1, a2, a3, a4, TH_of wA m1 m2 (fun v hv => (m3 v hv).1) (fun v hv => (m3 v hv).2), TH_lay wA m1 m2 (fun v hv => (m3 v hv).1) (fun v hv => (m3 v hv).2), fr, wA⟩
end
