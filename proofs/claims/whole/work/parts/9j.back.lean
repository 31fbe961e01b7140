section
variable {S : Nat → List Int32 × List Int32} {b nv nc tc r m : Nat} {I J I' J' : WI} {L L' : WL} {F : WF}
/-! what a shelf's standing rests on in the reference, place by place -/
def KC (nc c k : Nat) : Prop := (c = 74 ∧ (k = 4 ∨ k = 13 ∨ k = 18)) ∨ (c = 78 ∧ k < 7) ∨ (c = 79 ∧ k < 3) ∨ ((c = 80 ∨ c = 81 ∨ c = 82) ∧ k < 12) ∨ (c = 83 ∧ k < nc) ∨ (c = 84 ∧ k < 36) ∨ ((c = 85 ∨ c = 86 ∨ c = 87) ∧ k < 12)
theorem kc74 {k : Nat} (h : k = 4 ∨ k = 13 ∨ k = 18) : KC nc 74 k := Or.inl ⟨rfl, h⟩
theorem kc78 {k : Nat} (h : k < 7) : KC nc 78 k := Or.inr (Or.inl ⟨rfl, h⟩)
theorem kc79 {k : Nat} (h : k < 3) : KC nc 79 k := Or.inr (Or.inr (Or.inl ⟨rfl, h⟩))
theorem kc80 {c k : Nat} (hc : c = 80 ∨ c = 81 ∨ c = 82) (h : k < 12) : KC nc c k := Or.inr (Or.inr (Or.inr (Or.inl ⟨hc, h⟩)))
theorem kc83 {k : Nat} (h : k < nc) : KC nc 83 k := Or.inr (Or.inr (Or.inr (Or.inr (Or.inl ⟨rfl, h⟩))))
theorem kc84 {k : Nat} (h : k < 36) : KC nc 84 k := Or.inr (Or.inr (Or.inr (Or.inr (Or.inr (Or.inl ⟨rfl, h⟩)))))
theorem kc85 {c k : Nat} (hc : c = 85 ∨ c = 86 ∨ c = 87) (h : k < 12) : KC nc c k := Or.inr (Or.inr (Or.inr (Or.inr (Or.inr (Or.inr ⟨hc, h⟩)))))
theorem kR_in (h : kR b nv nc tc I J) (hJ : ∀ c k, KC nc c k → J' c k = J c k) : kR b nv nc tc I J' := by
  obtain ⟨hA, hQ, hC, hB, hP, hV, hN, hr, r, hr1, hr2⟩ := h
  have h4 := hC.1
  have h12 := hV.1
  refine ⟨kA_cg hA (fun _ _ _ => rfl) (fun k hk => hJ _ _ (kc78 hk)), kQ_cg hQ (fun _ _ => rfl) (fun k hk => hJ _ _ (kc79 hk)), kC_cg hC (fun _ _ _ => rfl) (fun c k hk => ?_), ?_, kP_cg hP (fun _ _ => rfl) (fun k hk => hJ _ _ (kc84 hk)), kV_cg hV (fun _ _ _ => rfl) (fun c k hk => ?_), ?_, ?_, r, hr1, ?_⟩
  · rcases hk with ⟨rfl, rfl⟩ | ⟨rfl, hk⟩
    · exact hJ _ _ (kc74 (by omega))
    · exact hJ _ _ (kc80 (by omega) hk)
  · intro c hc
    rw [hJ 83 c (kc83 hc)]
    rcases hB c hc with ⟨z, bb⟩ | ⟨z, bb⟩
    · exact Or.inl ⟨z, bb⟩
    · right
      refine ⟨z, fun i hi => ?_⟩
      rw [hJ 81 _ (kc80 (by omega) (by omega)), hJ 82 _ (kc80 (by omega) (by omega))]
      exact bb i hi
  · rcases hk with ⟨rfl, rfl⟩ | ⟨hc, hk⟩
    · exact hJ _ _ (kc74 (by omega))
    · exact hJ _ _ (kc85 hc hk)
  · intro v hv c hc hvc
    rw [hJ 86 v (kc85 (by omega) (by omega))] at hvc
    obtain ⟨n1, n2⟩ := hN v hv c hc hvc
    rw [hJ 83 c (kc83 hc)]
    refine ⟨n1, fun i hi => ?_⟩
    rw [hJ 81 _ (kc80 (by omega) (by omega)), hJ 82 _ (kc80 (by omega) (by omega)), hJ 84 _ (kc84 (by omega))]
    exact n2 i hi
  · rw [hJ 74 4 (kc74 (by omega))]; exact hr
  · rw [hJ 74 4 (kc74 (by omega))]; exact hr2
theorem WJ_in (h : WJ S 1 nv nc tc r I J L) (hI : ∀ c k, c < 21 ∨ (45 ≤ c ∧ c < 57) → I' c k = I c k) (hJ : ∀ c k, KC nc c k → J' c k = J c k) (h75 : ∀ c k, c = 75 ∨ c = 76 → J' c k = J c k) (hM : kM S tc J' L') : WJ S 1 nv nc tc r I' J' L' := by
  obtain ⟨h1, h2, h3, h4, h5, h6⟩ := h
  exact ⟨kR_cgI (kR_in h1 hJ) (fun c k x => hI c k (by omega)), fun q hq => TxtP_cg (h2 q hq) (fun c k x => hI c k (by omega)) (fun c k x => h75 c k x), h3, hM, h5, (hJ 74 4 (kc74 (by omega))).trans h6⟩
/-- all but the query, and what reading changes -/
def RW (J J' : WI) : Prop := ∀ c k, c ≠ 79 → ¬ (c = 74 ∧ ((19 ≤ k ∧ k ≤ 33) ∨ (46 ≤ k ∧ k ≤ 48))) → c ≠ 88 → c ≠ 89 → ¬ (96 ≤ c ∧ c ≤ 99) → J' c k = J c k
theorem RW_tr {J2 : WI} (h : RW J J') (h2 : RW J' J2) : RW J J2 := fun c k a b d e f => (h2 c k a b d e f).trans (h c k a b d e f)
/-- kept, thought, given back -/
theorem back_J {Q : WI} (h : kR 1 nv nc tc I J) (hQ : RW (v_234 J) Q) : (∀ c k, KC nc c k → v_235 Q c k = J c k) ∧ (∀ c k, ¬ (79 ≤ c ∧ c ≤ 83) → c ≠ 86 → v_235 Q c k = Q c k) := by
  obtain ⟨hA, hQ', hC, hB, hP', hV, hN, hr, r, hr1, hr2⟩ := h
  have h4 := hC.1
  obtain ⟨k1, k2, k3, k4⟩ := v234_pt (J := J)
  obtain ⟨u1, u2, u3, u4⟩ := v235_pt (J := Q)
  have F : ∀ q j, q < 90 → q ≠ 79 → q ≠ 80 → q ≠ 81 → q ≠ 82 → q ≠ 83 → q ≠ 86 → q ≠ 88 → q ≠ 89 → ¬ (q = 74 ∧ ((19 ≤ j ∧ j ≤ 33) ∨ (46 ≤ j ∧ j ≤ 48))) → v_235 Q q j = J q j := fun q j a0 a1 a2 a3 a4 a5 a6 a7 a8 a9 => by
    rw [u1 q j a1 a2 a3 a4 a5 a6, hQ q j a1 a9 a7 a8 (by omega), k1 q j (Or.inl a0)]
  have G : ∀ q j, 90 ≤ q → q ≤ 95 → Q q j = v_234 J q j := fun q j a1 a2 => hQ q j (by omega) (by omega) (by omega) (by omega) (by omega)
  have R : ∀ j, j < 12 → v_235 Q 80 j = J 80 j ∧ v_235 Q 81 j = J 81 j ∧ v_235 Q 82 j = J 82 j ∧ v_235 Q 86 j = J 86 j := fun j hj => by
    obtain ⟨a1, a2, a3, a4⟩ := u2 j hj
    obtain ⟨c1, c2, c3, c4⟩ := k2 j hj
    rw [a1, a2, a3, a4, G 90 j (by omega) (by omega), G 91 j (by omega) (by omega), G 92 j (by omega) (by omega), G 94 j (by omega) (by omega)]
    exact ⟨c1, c2, c3, c4⟩
  refine ⟨fun c k hk => ?_, fun c k a1 a2 => u1 c k (by omega) (by omega) (by omega) (by omega) (by omega) a2⟩
  rcases hk with ⟨rfl, hk⟩ | ⟨rfl, hk⟩ | ⟨rfl, hk⟩ | ⟨hc, hk⟩ | ⟨rfl, hk⟩ | ⟨rfl, hk⟩ | ⟨hc, hk⟩
  · exact F 74 k (by omega) (by omega) (by omega) (by omega) (by omega) (by omega) (by omega) (by omega) (by omega) (by omega)
  · exact F 78 k (by omega) (by omega) (by omega) (by omega) (by omega) (by omega) (by omega) (by omega) (by omega) (by omega)
  · rw [u4 k hk, G 95 k (by omega) (by omega), k4 k hk]
  · rcases hc with rfl | rfl | rfl
    · exact (R k hk).1
    · exact (R k hk).2.1
    · exact (R k hk).2.2.1
  · rw [u3 k (by omega), G 93 k (by omega) (by omega), k3 k (by omega)]
    rcases hB k hk with ⟨z, -⟩ | ⟨z, -⟩ <;> rw [z] <;> decide
  · exact F 84 k (by omega) (by omega) (by omega) (by omega) (by omega) (by omega) (by omega) (by omega) (by omega) (by omega)
  · rcases hc with rfl | rfl | rfl
    · exact F 85 k (by omega) (by omega) (by omega) (by omega) (by omega) (by omega) (by omega) (by omega) (by omega) (by omega)
    · exact (R k hk).2.2.2
    · exact F 87 k (by omega) (by omega) (by omega) (by omega) (by omega) (by omega) (by omega) (by omega) (by omega) (by omega)
/-- kept: the weighed shelf stands as before -/
theorem TH_keep (h : TH S b nv nc tc r m I J L) : TH S b nv nc tc r m I (v_234 J) L := by
  have ry : RY J (v_234 J) := fun c k a1 a2 a3 a4 => v234_pt.1 c k (by omega)
  obtain ⟨Ig, w, -⟩ := h.1
  exact TH_J h ry (kM_cg w.2.2.2.1 (fun j => v234_pt.1 89 j (by omega)))
/-- the query at a vector's place -/
theorem v257_lp (h18 : J 74 18 = nI nv) {v : Nat} (hv : v < 12) (h12 : nv ≤ 12) : ∀ k, k ≤ 3 → gl_257_2 J (nI v) k ∧ (∀ q j, q ≠ 79 → lp_257_2 J (nI v) k q j = J q j) ∧ (∀ j, k ≤ j → lp_257_2 J (nI v) k 79 j = J 79 j) ∧ ∀ j, j < k → lp_257_2 J (nI v) k 79 j = if v < nv then J 84 (3 * v + j) else 0 := by
  intro k
  induction k with
  | zero => exact fun _ => ⟨fun i hi => absurd hi (Nat.not_lt_zero _), fun _ _ _ => rfl, fun _ _ => rfl, fun j hj => absurd hj (Nat.not_lt_zero _)⟩
  | succ k ih =>
    intro hk
    obtain ⟨g, e1, e2, e3⟩ := ih (by omega)
    have ek : (nI k).toNatClampNeg = k := cl (by omega)
    have k3 : 3 * nI v + nI k = nI (3 * v + k) := by rw [n30, nI_add]
    have e18 : lp_257_2 J (nI v) k 74 18 = nI nv := (e1 74 18 (by omega)).trans h18
    have le : nI nv ≤ nI v ↔ nv ≤ v := by
      rw [Int32.le_iff_toInt_le, nI_toInt (by omega), nI_toInt (by omega)]; omega
    have es : lp_257_2 J (nI v) (k + 1) = up2 (lp_257_2 J (nI v) k) 79 k (if v < nv then J 84 (3 * v + k) else 0) := by
      rw [lp_257_2, bxd, bxd, e18, k3, ek, cl (by omega), e1 84 _ (by omega)]
      by_cases y : v < nv
      · rw [if_neg (fun w => by have := le.mp w; omega), if_pos y]
      · rw [if_pos (le.mpr (by omega)), if_neg y]
    refine ⟨fun i hi => ?_, fun q j hq => ?_, fun j hj => ?_, fun j hj => ?_⟩
    · by_cases y : i = k
      · subst y
        rw [bxd, bxd, k3]
        exact ⟨fun _ => vin (by omega) (by omega), vin (by omega) (by omega)⟩
      · exact g i (by omega)
    · rw [es, up2_nk (by omega)]; exact e1 q j hq
    · rw [es, up2_nk (by omega)]; exact e2 j (by omega)
    · rw [es]
      by_cases y : j = k
      · subst y; rw [up2_pt]
      · rw [up2_nk (by omega)]; exact e3 j (by omega)
theorem TH_stand (hb : b ≤ 21) (h : TH S b nv nc tc r m I J L) {v : Nat} (hv : v < 12) : g_78 I b (nI v) ∧ g_257 J (nI v) ∧ TH S b nv nc tc r m (v_78 I b (nI v)) (v_257 J (nI v)) L ∧ (∀ c k, ¬ (c = b + 3 ∧ k < 3) → v_78 I b (nI v) c k = I c k) ∧ RW J (v_257 J (nI v)) := by
  obtain ⟨kA0, kQ0, kC0, kB0, kP0, kV0, kN0⟩ := TH_k h
  have h12 := kV0.1
  have c3' : (3 : Int32).toNatClampNeg = 3 := rfl
  obtain ⟨g, e1, e2, e3⟩ := v257_lp (J := J) kV0.2.2.1 hv h12 3 (Nat.le_refl _)
  have e257 : v_257 J (nI v) = lp_257_2 J (nI v) 3 := by unfold v_257; rw [c3', bxd]
  have g257 : g_257 J (nI v) := by unfold g_257; rw [c3']; exact g
  have e0 : (3 * nI v).toNatClampNeg = 3 * v := by rw [n30, cl (by omega)]
  have e31 : (3 * nI v + 1).toNatClampNeg = 3 * v + 1 := by rw [n31, cl (by omega)]
  have e32 : (3 * nI v + 2).toNatClampNeg = 3 * v + 2 := by rw [n32, cl (by omega)]
  have e78 : v_78 I b (nI v) = v_70 I b (if v < nv then I (b + 7) (3 * v) else 0) (if v < nv then I (b + 7) (3 * v + 1) else 0) (if v < nv then I (b + 7) (3 * v + 2) else 0) := by
    unfold v_78
    rw [kV0.2.1, bxd, bxd, e0, e31, e32]
    by_cases y : v < nv
    · rcases v107_cases (nI v) 0 (nI nv - 1) with ⟨z, -⟩ | ⟨-, z⟩
      · rw [z, if_neg d10, if_pos y, if_pos y, if_pos y]
      · exfalso
        apply z
        have t0 : (0 : Int32).toInt = 0 := by decide
        rw [show (1 : Int32) = nI 1 from rfl, pk_sub_toInt (by omega) (by omega), nI_toInt (by omega), t0]
        omega
    · rcases vnum (nv := nv) (by omega) (nI v) with ⟨-, u, hu, e⟩ | z
      · have := (nI_eq (a := v) (b := u) (by omega) (by omega)).mp e
        omega
      · rw [z, if_pos rfl, if_neg y, if_neg y, if_neg y]
  have fI : ∀ c k, ¬ (c = b + 3 ∧ k < 3) → v_78 I b (nI v) c k = I c k := fun c k x => by
    rw [e78]
    unfold v_70
    rw [up2_nk (by omega), up2_nk (by omega), up2_nk (by omega)]
  have hp : ∀ i, i < 3 → (if v < nv then I (b + 7) (3 * v + i) else 0 : Int32) = (if v < nv then J 84 (3 * v + i) else 0) ∧ bt (-999) 999 (if v < nv then J 84 (3 * v + i) else 0 : Int32) := fun i hi => by
    have p := kP0 (3 * v + i) (by omega)
    by_cases y : v < nv
    · rw [if_pos y, if_pos y]; exact p
    · rw [if_neg y, if_neg y]; exact ⟨rfl, by decide, by decide⟩
  refine ⟨?_, g257, ?_, fI, fun c k x1 x2 x3 x4 x5 => by rw [e257]; exact e1 c k x1⟩
  · unfold g_78
    exact fun _ => ⟨by rw [n30]; exact vin (by omega) (by omega), by rw [n31]; exact vin (by omega) (by omega), by rw [n32]; exact vin (by omega) (by omega)⟩
  · refine TH_q hb h fI (fun c k x => ?_) (fun i hi => ?_)
    · rw [e257]
      by_cases y : c = 79
      · subst y; exact e2 k (by omega)
      · exact e1 c k y
    · rw [e257, e3 i hi]
      obtain ⟨p1, p2⟩ := hp i hi
      refine ⟨?_, p2⟩
      rw [← p1, e78]
      unfold v_70
      match i, hi with
      | 0, _ => rw [up2_nk (by omega), up2_nk (by omega), up2_pt, Nat.add_zero (3 * v)]
      | 1, _ => rw [up2_nk (by omega), up2_pt]
      | 2, _ => rw [up2_pt]
end
