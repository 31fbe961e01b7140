section
variable {S : Nat → List Int32 × List Int32} {b nv nc tc r m : Nat} {I J I' J' : WI} {L L' : WL} {F : WF}
/-! a weighed shelf whose query is elsewhere -/
def TQ (S : Nat → List Int32 × List Int32) (b nv nc tc r m : Nat) (I J : WI) (L : WL) : Prop := (∃ Ig, WJ S b nv nc tc r Ig J L ∧ ∀ c k, ¬ (c = b ∧ k = 2) → ¬ (c = b + 3 ∧ k < 3) → I c k = Ig c k) ∧ m < 2 ^ nv ∧ v_21 I b = nI m ∧ (∀ v, v < nv → (m.testBit v = true ↔ FT S r J v)) ∧ ∀ v, v < nv → I 37 v = PU S r J v
theorem TQ_of (h : TH S b nv nc tc r m I J L) : TQ S b nv nc tc r m I J L := by
  obtain ⟨⟨Ig, w, g⟩, h1⟩ := h
  exact ⟨⟨Ig, w, fun c k x _ => g c k x⟩, h1⟩
theorem TQ_k (h : TQ S b nv nc tc r m I J L) : kA b I J ∧ kC b nc I J ∧ kB b nc I J ∧ kP b I J ∧ kV b nv nc I J ∧ kN nv nc J := by
  obtain ⟨⟨Ig, ⟨⟨k1, k2, k3, k4, k5, k6, k7, -⟩, -⟩, hI⟩, -⟩ := h
  exact ⟨kA_cg k1 (fun c j _ => hI _ _ (by omega) (by omega)) (fun _ _ => rfl), kC_cg k3 (fun c j _ => hI _ _ (by omega) (by omega)) (fun _ _ _ => rfl), kB_cg k3.1 k4 (fun c j _ => hI _ _ (by omega) (by omega)) (fun _ _ _ => rfl), kP_cg k5 (fun j _ => hI _ _ (by omega) (by omega)) (fun _ _ => rfl), kV_cg k6 (fun c j _ => hI _ _ (by omega) (by omega)) (fun _ _ _ => rfl), k7⟩
theorem TQ_M (h : TQ S b nv nc tc r m I J L) : kM S tc J L := by
  obtain ⟨⟨Ig, w, -⟩, -⟩ := h
  exact w.2.2.2.1
/-- the query put anew -/
theorem TQ_q (hb : b ≤ 21) (h : TQ S b nv nc tc r m I J L) (hI : ∀ c k, ¬ (c = b + 3 ∧ k < 3) → I' c k = I c k) (hJ : ∀ c k, ¬ (c = 79 ∧ k < 3) → J' c k = J c k) (hq : ∀ i, i < 3 → I' (b + 3) i = J' 79 i ∧ bt (-999) 999 (J' 79 i)) : TH S b nv nc tc r m I' J' L := by
  obtain ⟨⟨Ig, ⟨⟨k1, k2, k3, k4, k5, k6, k7, k8, q, q1, q2⟩, w2, w3, w4, w5, w6⟩, g⟩, h1, h2, h3, h4⟩ := h
  have e : ∀ v, enR J' v = enR J v := fun v => by
    unfold enR
    rw [hJ 84 _ (by omega), hJ 84 _ (by omega), hJ 84 _ (by omega), hJ 85 _ (by omega), hJ 86 _ (by omega)]
  have gI : ∀ c k, ¬ (c = b + 3 ∧ k < 3) → ¬ (c = b ∧ k = 2) → I' c k = Ig c k := fun c k x y => (hI c k x).trans (g c k y x)
  refine ⟨⟨fun c k => if c = b ∧ k = 2 then Ig c k else I' c k, ⟨⟨kA_cg k1 (fun c k x => ?_) (fun k _ => hJ _ _ (by omega)), fun i hi => ?_, kC_cg k3 (fun c k x => ?_) (fun c k x => hJ _ _ (by omega)), kB_cg k3.1 k4 (fun c k x => ?_) (fun c k x => hJ _ _ (by omega)), kP_cg k5 (fun k x => ?_) (fun k x => hJ _ _ (by omega)), kV_cg k6 (fun c k x => ?_) (fun c k x => hJ _ _ (by omega)), kN_cg k6.1 k3.1 k7 (fun c k x => hJ _ _ (by omega)), ?_, q, q1, ?_⟩, fun t ht => TxtP_cg (w2 t ht) (fun c k x => ?_) (fun c k x => hJ _ _ (by omega)), w3, ?_, w5, ?_⟩, fun c k x => (if_neg x).symm⟩, h1, ?_, fun v hv => ?_, fun v hv => ?_⟩
  · rw [if_neg (by omega), gI _ _ (by omega) (by omega)]
  · show (if b + 3 = b ∧ i = 2 then Ig (b + 3) i else I' (b + 3) i) = J' 79 i ∧ bt (-999) 999 (J' 79 i)
    rw [if_neg (show ¬ (b + 3 = b ∧ i = 2) by omega)]
    exact hq i hi
  · rw [if_neg (by omega), gI _ _ (by omega) (by omega)]
  · rw [if_neg (by omega), gI _ _ (by omega) (by omega)]
  · rw [if_neg (by omega), gI _ _ (by omega) (by omega)]
  · rw [if_neg (by omega), gI _ _ (by omega) (by omega)]
  · show (if b = b ∧ 2 = 2 then Ig b 2 else I' b 2) = J' 74 4
    rw [if_pos (show b = b ∧ 2 = 2 from ⟨rfl, rfl⟩), hJ 74 4 (by omega)]
    exact k8
  · rw [hJ 74 4 (by omega)]; exact q2
  · rw [if_neg (by omega), gI _ _ (by omega) (by omega)]
  · exact kM_cg w4 (fun j => hJ 89 j (by omega))
  · rw [hJ 74 4 (by omega)]; exact w6
  · unfold v_21 at h2 ⊢
    rw [hI 35 2 (by omega), hI b 12 (by omega)]; exact h2
  · rw [h3 v hv]
    unfold FT
    rw [e v, hJ 87 v (by omega)]
  · rw [hI 37 v (by omega), h4 v hv]
    unfold PU
    rw [e v]
/-- only what the query rests on is otherwise -/
theorem TQ_I (hb : b ≤ 21) (h : TQ S b nv nc tc r m I J L) (hI : ∀ c k, c < 57 → ¬ (c = b ∧ k = 2) → ¬ (c = b + 3 ∧ k < 3) → I' c k = I c k) : TQ S b nv nc tc r m I' J L := by
  obtain ⟨⟨Ig, ⟨w1, w2, w3, w4, w5, w6⟩, g⟩, h1, h2, h3, h4⟩ := h
  refine ⟨⟨fun c k => if (c = b ∧ k = 2) ∨ (c = b + 3 ∧ k < 3) then Ig c k else I' c k, ⟨kR_cgI w1 (fun c k x => ?_), fun q hq => TxtP_cg (w2 q hq) (fun c k x => ?_) (fun _ _ _ => rfl), w3, w4, w5, w6⟩, fun c k x y => (if_neg (by omega)).symm⟩, h1, ?_, h3, fun v hv => ?_⟩
  · by_cases y : (c = b ∧ k = 2) ∨ (c = b + 3 ∧ k < 3)
    · rw [if_pos y]
    · rw [if_neg y, hI c k (by omega) (by omega) (by omega), g c k (by omega) (by omega)]
  · rw [if_neg (by omega), hI c k (by omega) (by omega) (by omega), g c k (by omega) (by omega)]
  · unfold v_21 at h2 ⊢
    rw [hI 35 2 (by omega) (by omega) (by omega), hI b 12 (by omega) (by omega) (by omega)]
    exact h2
  · rw [hI 37 v (by omega) (by omega) (by omega)]; exact h4 v hv
/-- the reference otherwise where nothing rests on it -/
theorem TQ_J (h : TQ S b nv nc tc r m I J L) (hJ : ∀ c k, KC nc c k → J' c k = J c k) (h75 : ∀ c k, c = 75 ∨ c = 76 → J' c k = J c k) (hM : kM S tc J' L') : TQ S b nv nc tc r m I J' L' := by
  have h12 : nv ≤ 12 := (TQ_k h).2.2.2.2.1.1
  obtain ⟨⟨Ig, ⟨w1, w2, w3, w4, w5, w6⟩, g⟩, h1, h2, h3, h4⟩ := h
  have e : ∀ v, v < nv → enR J' v = enR J v := fun v hv => by
    unfold enR
    rw [hJ 84 _ (kc84 (by omega)), hJ 84 _ (kc84 (by omega)), hJ 84 _ (kc84 (by omega)), hJ 85 _ (kc85 (by omega) (by omega)), hJ 86 _ (kc85 (by omega) (by omega))]
  refine ⟨⟨Ig, ⟨kR_in w1 hJ, fun q hq => TxtP_cg (w2 q hq) (fun _ _ _ => rfl) (fun c k x => h75 c k x), w3, hM, w5, (hJ 74 4 (kc74 (by omega))).trans w6⟩, g⟩, h1, h2, fun v hv => ?_, fun v hv => ?_⟩
  · rw [h3 v hv]
    unfold FT
    rw [e v hv, hJ 87 v (kc85 (by omega) (by omega))]
  · rw [h4 v hv]
    unfold PU
    rw [e v hv]
theorem TQ_stand (hb : b ≤ 21) (h : TQ S b nv nc tc r m I J L) {v : Nat} (hv : v < 12) : g_78 I b (nI v) ∧ g_257 J (nI v) ∧ TH S b nv nc tc r m (v_78 I b (nI v)) (v_257 J (nI v)) L ∧ (∀ c k, ¬ (c = b + 3 ∧ k < 3) → v_78 I b (nI v) c k = I c k) ∧ RW J (v_257 J (nI v)) := by
  obtain ⟨kA0, kC0, kB0, kP0, kV0, kN0⟩ := TQ_k h
  have h12 := kV0.1
  have c3' : (3 : Int32).toNatClampNeg = 3 := rfl
  obtain ⟨g, e1, e2, e3⟩ := v257_lp (J := J) kV0.2.2.1 hv h12 3 (Nat.le_refl _)
  have e257 : v_257 J (nI v) = lp_257_2 J (nI v) 3 := by unfold v_257; rw [c3', bxd]
  have g257 : g_257 J (nI v) := by unfold g_257; rw [c3']; exact g
  have e0 : (3 * nI v).toNatClampNeg = 3 * v := by rw [n30, cl (by omega)]
  have e31 : (3 * nI v + 1).toNatClampNeg = 3 * v + 1 := by rw [n31, cl (by omega)]
  have e32 : (3 * nI v + 2).toNatClampNeg = 3 * v + 2 := by rw [n32, cl (by omega)]
  have e78 : v_78 I b (nI v) = v_70 I b (if v < nv then I (b + 7) (3 * v) else 0) (if v < nv then I (b + 7) (3 * v + 1) else 0) (if v < nv then I (b + 7) (3 * v + 2) else 0) := by
    unfold v_78
    rw [kV0.2.1, bxd, bxd, e0, e31, e32]
    by_cases y : v < nv
    · rcases v107_cases (nI v) 0 (nI nv - 1) with ⟨z, -⟩ | ⟨-, z⟩
      · rw [z, if_neg d10, if_pos y, if_pos y, if_pos y]
      · exfalso
        apply z
        have t0 : (0 : Int32).toInt = 0 := by decide
        rw [show (1 : Int32) = nI 1 from rfl, pk_sub_toInt (by omega) (by omega), nI_toInt (by omega), t0]
        omega
    · rcases vnum (nv := nv) (by omega) (nI v) with ⟨-, u, hu, e⟩ | z
      · have := (nI_eq (a := v) (b := u) (by omega) (by omega)).mp e
        omega
      · rw [z, if_pos rfl, if_neg y, if_neg y, if_neg y]
  have fI : ∀ c k, ¬ (c = b + 3 ∧ k < 3) → v_78 I b (nI v) c k = I c k := fun c k x => by
    rw [e78]
    unfold v_70
    rw [up2_nk (by omega), up2_nk (by omega), up2_nk (by omega)]
  have hp : ∀ i, i < 3 → (if v < nv then I (b + 7) (3 * v + i) else 0 : Int32) = (if v < nv then J 84 (3 * v + i) else 0) ∧ bt (-999) 999 (if v < nv then J 84 (3 * v + i) else 0 : Int32) := fun i hi => by
    have p := kP0 (3 * v + i) (by omega)
    by_cases y : v < nv
    · rw [if_pos y, if_pos y]; exact p
    · rw [if_neg y, if_neg y]; exact ⟨rfl, by decide, by decide⟩
  refine ⟨?_, g257, ?_, fI, fun c k x1 x2 x3 x4 x5 => by rw [e257]; exact e1 c k x1⟩
  · unfold g_78
    exact fun _ => ⟨by rw [n30]; exact vin (by omega) (by omega), by rw [n31]; exact vin (by omega) (by omega), by rw [n32]; exact vin (by omega) (by omega)⟩
  · refine TQ_q hb h fI (fun c k x => ?_) (fun i hi => ?_)
    · rw [e257]
      by_cases y : c = 79
      · subst y; exact e2 k (by omega)
      · exact e1 c k y
    · rw [e257, e3 i hi]
      obtain ⟨p1, p2⟩ := hp i hi
      refine ⟨?_, p2⟩
      rw [← p1, e78]
      unfold v_70
      match i, hi with
      | 0, _ => rw [up2_nk (by omega), up2_nk (by omega), up2_pt, Nat.add_zero (3 * v)]
      | 1, _ => rw [up2_nk (by omega), up2_pt]
      | 2, _ => rw [up2_pt]
/-- kept, thought, given back -/
theorem back_Q (h4 : nc ≤ 4) (hB : kB b nc I J) {Q : WI} (hQ : RW (v_234 J) Q) : (∀ c k, KC nc c k → v_235 Q c k = J c k) ∧ (∀ c k, ¬ (79 ≤ c ∧ c ≤ 83) → c ≠ 86 → v_235 Q c k = Q c k) := by
  obtain ⟨k1, k2, k3, k4⟩ := v234_pt (J := J)
  obtain ⟨u1, u2, u3, u4⟩ := v235_pt (J := Q)
  have F : ∀ q j, q < 90 → q ≠ 79 → q ≠ 80 → q ≠ 81 → q ≠ 82 → q ≠ 83 → q ≠ 86 → q ≠ 88 → q ≠ 89 → ¬ (q = 74 ∧ ((19 ≤ j ∧ j ≤ 33) ∨ (46 ≤ j ∧ j ≤ 48))) → v_235 Q q j = J q j := fun q j a0 a1 a2 a3 a4 a5 a6 a7 a8 a9 => by
    rw [u1 q j a1 a2 a3 a4 a5 a6, hQ q j a1 a9 a7 a8 (by omega), k1 q j (Or.inl a0)]
  have G : ∀ q j, 90 ≤ q → q ≤ 95 → Q q j = v_234 J q j := fun q j a1 a2 => hQ q j (by omega) (by omega) (by omega) (by omega) (by omega)
  have R : ∀ j, j < 12 → v_235 Q 80 j = J 80 j ∧ v_235 Q 81 j = J 81 j ∧ v_235 Q 82 j = J 82 j ∧ v_235 Q 86 j = J 86 j := fun j hj => by
    obtain ⟨a1, a2, a3, a4⟩ := u2 j hj
    obtain ⟨c1, c2, c3, c4⟩ := k2 j hj
    rw [a1, a2, a3, a4, G 90 j (by omega) (by omega), G 91 j (by omega) (by omega), G 92 j (by omega) (by omega), G 94 j (by omega) (by omega)]
    exact ⟨c1, c2, c3, c4⟩
  refine ⟨fun c k hk => ?_, fun c k a1 a2 => u1 c k (by omega) (by omega) (by omega) (by omega) (by omega) a2⟩
  rcases hk with ⟨rfl, hk⟩ | ⟨rfl, hk⟩ | ⟨rfl, hk⟩ | ⟨hc, hk⟩ | ⟨rfl, hk⟩ | ⟨rfl, hk⟩ | ⟨hc, hk⟩
  · exact F 74 k (by omega) (by omega) (by omega) (by omega) (by omega) (by omega) (by omega) (by omega) (by omega) (by omega)
  · exact F 78 k (by omega) (by omega) (by omega) (by omega) (by omega) (by omega) (by omega) (by omega) (by omega) (by omega)
  · rw [u4 k hk, G 95 k (by omega) (by omega), k4 k hk]
  · rcases hc with rfl | rfl | rfl
    · exact (R k hk).1
    · exact (R k hk).2.1
    · exact (R k hk).2.2.1
  · rw [u3 k (by omega), G 93 k (by omega) (by omega), k3 k (by omega)]
    rcases hB k hk with ⟨z, -⟩ | ⟨z, -⟩ <;> rw [z] <;> decide
  · exact F 84 k (by omega) (by omega) (by omega) (by omega) (by omega) (by omega) (by omega) (by omega) (by omega) (by omega)
  · rcases hc with rfl | rfl | rfl
    · exact F 85 k (by omega) (by omega) (by omega) (by omega) (by omega) (by omega) (by omega) (by omega) (by omega) (by omega)
    · exact (R k hk).2.2.2
    · exact F 87 k (by omega) (by omega) (by omega) (by omega) (by omega) (by omega) (by omega) (by omega) (by omega) (by omega)
theorem kHp_cg {s n : Nat} {G : WF} (hs : s < 4) (h : kHp s n I J F G) (hI : ∀ c k, 58 ≤ c → c < 74 → I' c k = I c k) (hJ : ∀ c k, 111 ≤ c → c ≤ 116 → J' c k = J c k) : kHp s n I' J' F G := by
  obtain ⟨a1, a2, a3, a4, a5⟩ := h
  have e112 : J' 112 s = J 112 s := hJ _ _ (by omega) (by omega)
  refine ⟨a1, by rw [hI _ _ (by omega) (by omega)]; exact a2, by rw [hJ _ _ (by omega) (by omega)]; exact a3, by rw [hI _ _ (by omega) (by omega), e112]; exact a4, ?_⟩
  rw [e112]
  rcases a5 with ⟨a, h⟩ | ⟨a, h⟩ | ⟨a, h⟩
  · refine Or.inl ⟨a, fun i hi => ?_⟩
    rw [hJ 116 _ (by omega) (by omega)]
    exact h i hi
  · refine Or.inr (Or.inl ⟨a, fun i hi => ?_⟩)
    rw [hI _ _ (by omega) (by omega), hJ 114 _ (by omega) (by omega)]
    exact h i hi
  · refine Or.inr (Or.inr ⟨a, fun i hi => ?_⟩)
    rw [hI _ _ (by omega) (by omega), hJ 114 _ (by omega) (by omega)]
    exact h i hi
end
