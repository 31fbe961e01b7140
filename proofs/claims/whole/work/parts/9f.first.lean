section
variable {S : Nat → List Int32 × List Int32} {b nv nc tc r m : Nat} {I J I' J' : WI} {L L' : WL} {F : WF}
/-! a shelf weighed, in thought or not; the first of all that fit -/
def TH (S : Nat → List Int32 × List Int32) (b nv nc tc r m : Nat) (I J : WI) (L : WL) : Prop := (∃ Ig, WJ S b nv nc tc r Ig J L ∧ ∀ c k, ¬ (c = b ∧ k = 2) → I c k = Ig c k) ∧ m < 2 ^ nv ∧ v_21 I b = nI m ∧ (∀ v, v < nv → (m.testBit v = true ↔ FT S r J v)) ∧ ∀ v, v < nv → I 37 v = PU S r J v
theorem TH_of (h : WJ S b nv nc tc r I J L) (h1 : m < 2 ^ nv) (h2 : v_21 I b = nI m) (h3 : ∀ v, v < nv → (m.testBit v = true ↔ FT S r J v)) (h4 : ∀ v, v < nv → I 37 v = PU S r J v) : TH S b nv nc tc r m I J L := ⟨⟨I, h, fun _ _ _ => rfl⟩, h1, h2, h3, h4⟩
/-- the shelf's own -/
theorem TH_k (h : TH S b nv nc tc r m I J L) : kA b I J ∧ kQ b I J ∧ kC b nc I J ∧ kB b nc I J ∧ kP b I J ∧ kV b nv nc I J ∧ kN nv nc J := by
  obtain ⟨⟨Ig, ⟨⟨k1, k2, k3, k4, k5, k6, k7, -⟩, -⟩, hI⟩, -⟩ := h
  exact ⟨kA_cg k1 (fun c j _ => hI _ _ (by omega)) (fun _ _ => rfl), kQ_cg k2 (fun j _ => hI _ _ (by omega)) (fun _ _ => rfl), kC_cg k3 (fun c j _ => hI _ _ (by omega)) (fun _ _ _ => rfl), kB_cg k3.1 k4 (fun c j _ => hI _ _ (by omega)) (fun _ _ _ => rfl), kP_cg k5 (fun j _ => hI _ _ (by omega)) (fun _ _ => rfl), kV_cg k6 (fun c j _ => hI _ _ (by omega)) (fun _ _ _ => rfl), k7⟩
theorem TH_J (h : TH S b nv nc tc r m I J L) (hR : RY J J') (hM : kM S tc J' L') : TH S b nv nc tc r m I J' L' := by
  obtain ⟨⟨Ig, w, hI⟩, h1, h2, h3, h4⟩ := h
  have e : ∀ v, enR J' v = enR J v := fun v => by
    unfold enR
    have f : ∀ c k, 84 ≤ c → c ≤ 86 → J' c k = J c k := fun c k a1 a2 => hR c k (by omega) (by omega) (by omega) (by omega)
    rw [f 84 _ (by omega) (by omega), f 84 _ (by omega) (by omega), f 84 _ (by omega) (by omega), f 85 _ (by omega) (by omega), f 86 _ (by omega) (by omega)]
  refine ⟨⟨Ig, WJ_cy w hR hM, hI⟩, h1, h2, fun v hv => ?_, fun v hv => ?_⟩
  · rw [h3 v hv]
    unfold FT
    rw [e v, hR 87 v (by omega) (by omega) (by omega) (by omega)]
  · rw [h4 v hv]
    unfold PU
    rw [e v]
theorem TH_I (hb : b ≤ 21) (h : TH S b nv nc tc r m I J L) (hI : ∀ c k, ¬ (35 ≤ c ∧ c ≤ 41) ∨ c = 37 ∨ (c = 35 ∧ k = 2) → c < 57 → I' c k = I c k) : TH S b nv nc tc r m I' J L := by
  obtain ⟨⟨Ig, ⟨w1, w2, w3, w4, w5, w6⟩, g⟩, h1, h2, h3, h4⟩ := h
  refine ⟨⟨fun c k => if c = b ∧ k = 2 then Ig c k else I' c k, ⟨kR_cgI w1 (fun c k x => ?_), fun q hq => TxtP_cg (w2 q hq) (fun c k x => ?_) (fun _ _ _ => rfl), w3, w4, w5, w6⟩, fun c k x => (if_neg x).symm⟩, h1, ?_, h3, fun v hv => ?_⟩
  · by_cases y : c = b ∧ k = 2
    · rw [if_pos y]
    · rw [if_neg y, hI c k (Or.inl (by omega)) (by omega), g c k y]
  · rw [if_neg (by omega), hI c k (Or.inl (by omega)) (by omega), g c k (by omega)]
  · unfold v_21 at h2 ⊢
    rw [hI 35 2 (by omega) (by omega), hI b 12 (by omega) (by omega)]
    exact h2
  · rw [hI 37 v (by omega) (by omega)]; exact h4 v hv
/-- none ahead -/
theorem ctr0 {P : Nat → Bool} {g : Nat → Int} {v : Nat} : ∀ n, (∀ u, u < n → P u = true → aB g u v = false) → ctr P g v n = 0 := by
  intro n
  induction n with
  | zero => exact fun _ => rfl
  | succ n ih =>
    intro h
    rw [ctr_s, ih (fun u hu => h u (by omega)), if_neg (fun w => by have := h n (by omega) w.1; rw [w.2] at this; exact absurd this (by decide))]
theorem st23 {x : Int32} {j : Nat} {A : Int32 × Int32} (h : lp_23_14 I b x (-1) 0 j = A) : lp_23_14 I b x (-1) 0 (j + 1) = (if (v_111 x (nI j)) = 0 then A else (if A.1 = (-1) then ((nI j), (v_22 I b (nI j))) else (if A.2 ≤ (v_22 I b (nI j)) then A else ((nI j), (v_22 I b (nI j)))))) := by
  rw [lp_23_14, h, bxd, bxd]
theorem first_lp (h12 : nv ≤ 12) (hm : m < 4096) : ∀ k, k ≤ nv → gl_23_14 I b (nI m) (-1) 0 k ∧ ((lp_23_14 I b (nI m) (-1) 0 k = (-1, 0) ∧ ∀ v, v < k → m.testBit v = false) ∨
    ∃ f, f < k ∧ m.testBit f = true ∧ lp_23_14 I b (nI m) (-1) 0 k = (nI f, v_22 I b (nI f)) ∧ ∀ u, u < k → m.testBit u = true → aB (fun v => (v_22 I b (nI v)).toInt) u f = false) := by
  intro k
  induction k with
  | zero => exact fun _ => ⟨fun i hi => absurd hi (Nat.not_lt_zero _), Or.inl ⟨rfl, fun v hv => absurd hv (Nat.not_lt_zero _)⟩⟩
  | succ j ih =>
    intro hj
    obtain ⟨g, R⟩ := ih (by omega)
    have v0 : v_111 (nI m) (nI j) = 0 ↔ m.testBit j = false := v111_0 hm (by omega)
    obtain ⟨A, hA⟩ : ∃ A, lp_23_14 I b (nI m) (-1) 0 j = A := ⟨_, rfl⟩
    have s1 := st23 hA
    rw [hA] at R
    refine ⟨fun i hi => ?_, ?_⟩
    · by_cases y : i = j
      · subst y
        rw [bxd]
        exact fun _ => g22 (by omega)
      · exact g i (by omega)
    · by_cases z : m.testBit j = true
      · rw [if_neg (fun w => by rw [v0.mp w] at z; exact absurd z (by decide))] at s1
        rcases R with ⟨p1, p2⟩ | ⟨f, f1, f2, p1, p2⟩
        · rw [p1, if_pos rfl] at s1
          refine Or.inr ⟨j, by omega, z, s1, fun u hu hz => ?_⟩
          by_cases y : u = j
          · subst y; exact aB_self
          · rw [p2 u (by omega)] at hz; exact absurd hz (by decide)
        · rw [p1, if_neg (nIm1 (by omega))] at s1
          by_cases y : v_22 I b (nI f) ≤ v_22 I b (nI j)
          · rw [if_pos y] at s1
            rw [Int32.le_iff_toInt_le] at y
            refine Or.inr ⟨f, by omega, f2, s1, fun u hu hz => ?_⟩
            by_cases x : u = j
            · subst x; rw [aB_no]; omega
            · exact p2 u (by omega) hz
          · rw [if_neg y] at s1
            rw [Int32.le_iff_toInt_le] at y
            refine Or.inr ⟨j, by omega, z, s1, fun u hu hz => ?_⟩
            by_cases x : u = j
            · subst x; exact aB_self
            · have := aB_no.mp (p2 u (by omega) hz)
              rw [aB_no]
              omega
      · have z0 := bNo z
        rw [if_pos (v0.mpr z0)] at s1
        rcases R with ⟨p1, p2⟩ | ⟨f, f1, f2, p1, p2⟩
        · refine Or.inl ⟨s1.trans p1, fun v hv => ?_⟩
          by_cases y : v = j
          · subst y; exact z0
          · exact p2 v (by omega)
        · refine Or.inr ⟨f, by omega, f2, s1.trans p1, fun u hu hz => ?_⟩
          by_cases y : u = j
          · subst y; exact absurd hz z
          · exact p2 u (by omega) hz
/-- the first, of both -/
theorem firstB (hb : b ≤ 21) (h : TH S b nv nc tc r m I J L) : g_23 I b ∧ g_255 J L ∧ ∃ (J1 : WI) (L1 : WL), v_255 J L = (v_23 I b, J1, L1) ∧ RX J J1 ∧ kM S tc J1 L1 ∧ (v_23 I b = -1 ∨ ∃ f, f < nv ∧ v_23 I b = nI f) := by
  obtain ⟨kA0, kQ0, kC0, kB0, kP0, kV0, kN0⟩ := TH_k h
  have h12 := kV0.1
  obtain ⟨⟨Ig, w, hI⟩, h1, h2, h3, h4⟩ := h
  have m12 := p12 h1 h12
  obtain ⟨rg, J1, L1, r1, r2, r3, r4⟩ := readAll w (fun v hv => (hI 37 v (by omega)).symm.trans (h4 v hv)) nv (Nat.le_refl _)
  have e18 : (J 74 18).toNatClampNeg = nv := by rw [kV0.2.2.1, cl (by omega)]
  have e8 : (I b 8).toNatClampNeg = nv := by rw [kV0.2.1, cl (by omega)]
  have e238 : v_238 J L = (J1, L1) := by unfold v_238; rw [e18, bxd, r1]
  have g238 : g_238 J L := by unfold g_238; rw [e18]; exact rg
  obtain ⟨g23, R⟩ := first_lp (I := I) (b := b) h12 m12 nv (Nat.le_refl _)
  have j18 : J1 74 18 = nI nv := (r2 74 18 (by omega) (by omega) (by omega) (by omega)).trans kV0.2.2.1
  obtain ⟨G, Q⟩ := ranked (J := J1) (P := fun v => m.testBit v) (ro := 0) (m := 0) j18 h12 (fun v hv => by
    obtain ⟨a1, a2, -⟩ := r4 v hv
    show m.testBit v = true ↔ _
    rw [h3 v hv, ← a2]
    rcases a1 with a | a
    · rw [a]; exact ⟨fun z => absurd z.symm d10, fun z => absurd rfl z.1⟩
    · rw [a]; exact ⟨fun _ => ⟨d10, Or.inl rfl⟩, fun _ => rfl⟩) (by omega)
  have n0 : nI 0 = 0 := rfl
  rw [n0] at G Q
  have e96 : ∀ v, v < nv → (v_22 I b (nI v)).toInt = fg J1 v := fun v hv => by
    unfold fg
    obtain ⟨⟨k1, k2, -, -, k5, -⟩, -⟩ := w
    rw [(r4 v hv).2.2.1, v22_dQ k1 k2 k5 (by omega), v22_dQ kA0 kQ0 kP0 (by omega), hI 37 v (by omega)]
  have e21 : v_23 I b = (lp_23_14 I b (nI m) (-1) 0 nv).1 := by
    unfold v_23
    rw [h2, e8, bxd]
  have fin : v_241 J1 0 0 = v_23 I b ∧ (v_23 I b = -1 ∨ ∃ f, f < nv ∧ v_23 I b = nI f) := by
    rw [e21]
    rcases R with ⟨p1, p2⟩ | ⟨f, f1, f2, p1, p2⟩
    · rw [p1]
      refine ⟨?_, Or.inl rfl⟩
      rcases Q with ⟨v, v1, v2, -⟩ | ⟨-, q⟩
      · have := p2 v v1
        rw [show m.testBit v = true from v2] at this
        exact absurd this (by decide)
      · exact q
    · rw [p1]
      refine ⟨?_, Or.inr ⟨f, f1, rfl⟩⟩
      have c0 : ctr (fun v => m.testBit v) (fg J1) f nv = 0 := ctr0 nv (fun u hu hz => by
        have := p2 u hu hz
        rw [aB_no] at this ⊢
        simp only [e96 u hu, e96 f f1] at this
        exact this)
      rcases Q with ⟨v, v1, v2, v3, -, v5⟩ | ⟨q, -⟩
      · rw [v5, ctr_un (P := fun v => m.testBit v) (g := fg J1) v1 f1 v2 f2 (v3.trans c0.symm)]
      · have := ctr_sz (P := fun v => m.testBit v) (g := fg J1) (v := f) f2 nv f1
        omega
  refine ⟨?_, ?_, J1, L1, ?_, r2, r3, fin.2⟩
  · unfold g_23
    rw [h2, e8]
    exact g23
  · unfold g_255
    rw [e238, bxd]
    exact ⟨g238, G⟩
  · unfold v_255
    rw [e238, bxd]
    exact Prod.ext fin.1 rfl
end
