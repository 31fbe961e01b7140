section
variable {S : Nat → List Int32 × List Int32} {nv nc tc r m : Nat} {I J I' J' : WI} {L L' : WL} {F : WF}
/-! costs, lot -/
/-- a reading for 1, in thought -/
theorem read1 (h : TH S 21 nv nc tc r m I J L) : g_35 I F 1 21 ∧ g_237 J L 1 ∧ ∃ (I' : WI) (F' : WF) (J' : WI) (L' : WL) (q : Nat), v_35 I F 1 21 = (I', F') ∧ v_237 J L 1 = (J', L') ∧ TH S 21 nv nc tc r m I' J' L' ∧ (∀ c k, c < 38 → I' c k = I c k) ∧ (∀ c k, 42 ≤ c → I' c k = I c k) ∧ RW J J' ∧ q ≤ 12 ∧ I' 38 4 = nI q ∧ J' 74 46 = nI q := by
  have h0 := h
  obtain ⟨⟨Ig, w, hI⟩, h1, h2, h3, h4⟩ := h
  obtain ⟨g1, g2, I', F', J', L', e1, e2, e3, e4, e5, e6, e7, e8, e9, e10, q, q1, q2⟩ := readB (F := F) (b := 21) (k := 1) (by omega) w hI h1 h2 h3 h4 (by omega) (by omega)
  refine ⟨g1, g2, I', F', J', L', q, e1, e2, TH_J (TH_I (by omega) h0 (fun c k x y => e3 c k (by omega) (by omega) (by omega))) e4 e5, fun c k x => e3 c k (by omega) (by omega) (by omega), fun c k x => e3 c k (by omega) (by omega) (by omega), ?_, q1, e7.trans q2, q2⟩
  have w238 : ∀ c k, 90 ≤ c → c ≤ 95 → J' c k = J c k := fun c k x y => by
    have := frI_v_237 (I := J) (L := L) (x1 := 1) (c := c) (k := k) (by omega) (by omega) (by omega) (by omega) (by omega) (by omega) (by omega)
    rw [show nI 1 = (1 : Int32) from rfl] at e2
    rw [e2] at this
    exact this
  intro c k x1 x2 x3 x4 x5
  by_cases y : 90 ≤ c ∧ c ≤ 95
  · exact w238 c k y.1 y.2
  · exact e4 c k x2 x3 x4 (by omega)
theorem st140 {I0 : WI} {k : Nat} {p : Int32 × WI × WF} (h : lp_140_57 I0 F 0 k = p) : lp_140_57 I0 F 0 (k + 1) = if (v_61 p.2.1 1 (nI k)) = 0 then p else (p.1 + ((v_35 (v_78 p.2.1 21 (nI k)) p.2.2 1 21).1 38 4), (v_35 (v_78 p.2.1 21 (nI k)) p.2.2 1 21).1, (v_35 (v_78 p.2.1 21 (nI k)) p.2.2 1 21).2) := by
  rw [lp_140_57, h, bxd, bxd, bxd, bxd]
theorem st256 {J0 : WI} {L0 : WL} {k : Nat} {p : Int64 × Int64 × WI × WL} (h : lp_256_26 J0 L0 0 0 k = p) : lp_256_26 J0 L0 0 0 (k + 1) = if (v_180 p.2.2.1 (nI k)) = 0 then p else (p.1 + (Int32.toInt64 ((v_237 (v_257 p.2.2.1 (nI k)) p.2.2.2 1).1 74 46)), p.2.1 + 1, (v_237 (v_257 p.2.2.1 (nI k)) p.2.2.2 1).1, (v_237 (v_257 p.2.2.1 (nI k)) p.2.2.2 1).2) := by
  have e : lp_256_26 J0 L0 0 0 (k + 1) = st_256_26 J0 L0 0 0 k p := by rw [← h]; rfl
  rw [e]
  unfold st_256_26
  rw [bxd, bxd, bxd]
theorem nL_add {a b : Nat} (h : a + b < 2 ^ 31) : nL a + nL b = nL (a + b) := by
  apply nL_eq h
  rw [Int64.toInt_add, nL_toInt (by omega), nL_toInt (by omega)]
  rw [Int.bmod_eq_of_le (by omega) (by omega)]
  omega
theorem costs_lp {I0 J0 : WI} {M : Nat} (hM : M < 2 ^ nv) (hM1 : I0 1 12 = nI M) (hMJ : ∀ v, v < nv → (M.testBit v = true ↔ J0 87 v = 0)) (h8 : I0 1 8 = nI nv) (h : TH S 21 nv nc tc r m I0 J0 L) : ∀ k, k ≤ nv → gl_140_57 I0 F 0 k ∧ gl_256_26 J0 L 0 0 k ∧
    ∃ (a : Nat) (I' : WI) (F' : WF) (J' : WI) (L' : WL), lp_140_57 I0 F 0 k = (nI a, I', F') ∧ lp_256_26 J0 L 0 0 k = (nL a, nL (pc M k), J', L') ∧ a ≤ 12 * k ∧ TH S 21 nv nc tc r m I' J' L' ∧ (∀ c k, c < 21 → I' c k = I0 c k) ∧ RW J0 J' := by
  have h12 : nv ≤ 12 := (TH_k h).2.2.2.2.2.1.1
  have hC4 : nc ≤ 4 := (TH_k h).2.2.1.1
  have M12 := p12 hM h12
  intro k
  induction k with
  | zero => exact fun _ => ⟨⟨fun i hi => absurd hi (Nat.not_lt_zero _), rfl⟩, ⟨fun i hi => absurd hi (Nat.not_lt_zero _), rfl⟩, 0, I0, F, J0, L, rfl, rfl, by omega, h, fun _ _ _ => rfl, fun _ _ _ _ _ _ _ => rfl⟩
  | succ k ih =>
    intro hk
    obtain ⟨⟨g1, g1'⟩, ⟨g2, g2'⟩, a, I1, F1, J1, L1, e1, e2, ha, th, fI, rw1⟩ := ih (by omega)
    have s1 := st140 e1
    have s2 := st256 e2
    have epc : pc M (k + 1) = pc M k + if M.testBit k then 1 else 0 := rfl
    have e61 : v_61 I1 1 (nI k) = if M.testBit k then 1 else 0 := by
      unfold v_61
      rw [fI 1 12 (by omega), hM1]
      exact v111_eq M12 (by omega)
    have kV1 := (TH_k th).2.2.2.2.2.1
    have ht := there_eq kV1 hC4 (show k < nv by omega)
    have j87 : J1 87 k = J0 87 k := rw1 87 k (by omega) (by omega) (by omega) (by omega) (by omega)
    have e18 : J1 74 18 = J0 74 18 := rw1 74 18 (by omega) (by omega) (by omega) (by omega) (by omega)
    have hmk := hMJ k (by omega)
    have i8 : I1 1 8 = I0 1 8 := fI 1 8 (by omega)
    by_cases z : M.testBit k = true
    · rw [if_pos z] at e61 epc
      have n180 : ¬ v_180 J1 (nI k) = 0 := by
        rcases ht.2 with ⟨t1, -⟩ | ⟨-, t2⟩
        · rw [← ht.1, t1]; exact d10
        · rw [j87, hmk.mp z] at t2; exact absurd t2.symm d10
      obtain ⟨q1, q2, th2, fI2, rw2⟩ := TH_stand (by omega) th (show k < 12 by omega)
      obtain ⟨r1, r2, I3, F3, J3, L3, q, r3, r4, r5, r6, r7, r8, r9, r10, r11⟩ := read1 (F := F1) th2
      rw [show (nI a, I1, F1).2.1 = I1 from rfl, e61, if_neg d10, show (nI a, I1, F1).2.2 = F1 from rfl, r3] at s1
      rw [show (nL a, nL (pc M k), J1, L1).2.2.1 = J1 from rfl, if_neg n180, show (nL a, nL (pc M k), J1, L1).2.2.2 = L1 from rfl, r4] at s2
      have f1 : nI a + I3 38 4 = nI (a + q) := by rw [r10, nI_add]
      have f2 : nL a + Int32.toInt64 (J3 74 46) = nL (a + q) := by rw [r11]; exact nL_add (by omega)
      have f3 : nL (pc M k) + 1 = nL (pc M (k + 1)) := by
        have := pc_le' M k
        rw [epc]; exact nL_add (b := 1) (by omega)
      have s1' : lp_140_57 I0 F 0 (k + 1) = (nI (a + q), I3, F3) := by rw [s1, ← f1]
      have s2' : lp_256_26 J0 L 0 0 (k + 1) = (nL (a + q), nL (pc M (k + 1)), J3, L3) := by rw [s2, ← f2, ← f3]
      have fI3 : ∀ c j, c < 21 → I3 c j = I0 c j := fun c j x => by rw [r6 c j (by omega), fI2 c j (by omega), fI c j x]
      have rw3 : RW J0 J3 := RW_tr rw1 (RW_tr rw2 r8)
      refine ⟨⟨fun i hi => ?_, ?_⟩, ⟨fun i hi => ?_, ?_⟩, a + q, I3, F3, J3, L3, s1', s2', by omega, r5, fI3, rw3⟩
      · by_cases y : i = k
        · subst y
          rw [bxd, e1]
          refine ⟨i8, fun _ => ⟨q1, ?_⟩⟩
          rw [bxd]
          exact r1
        · exact g1 i (by omega)
      · rw [bxd, s1']; exact fI3 1 8 (by omega)
      · by_cases y : i = k
        · subst y
          rw [bxd, e2]
          refine ⟨e18, g180 (by omega), fun _ => ⟨q2, ?_⟩⟩
          rw [bxd]
          exact r2
        · exact g2 i (by omega)
      · rw [bxd, s2']; exact rw3 74 18 (by omega) (by omega) (by omega) (by omega) (by omega)
    · rw [if_neg z] at e61 epc
      have z180 : v_180 J1 (nI k) = 0 := by
        rcases ht.2 with ⟨-, t2, -⟩ | ⟨t1, -⟩
        · rw [j87] at t2; exact absurd (hmk.mpr t2) z
        · rw [← ht.1]; exact t1
      rw [show (nI a, I1, F1).2.1 = I1 from rfl, e61, if_pos rfl] at s1
      rw [show (nL a, nL (pc M k), J1, L1).2.2.1 = J1 from rfl, if_pos z180] at s2
      refine ⟨⟨fun i hi => ?_, ?_⟩, ⟨fun i hi => ?_, ?_⟩, a, I1, F1, J1, L1, s1, by rw [s2, epc, Nat.add_zero (pc M k)], by omega, th, fI, rw1⟩
      · by_cases y : i = k
        · subst y
          rw [bxd, e1]
          exact ⟨i8, fun w => absurd e61 w⟩
        · exact g1 i (by omega)
      · rw [bxd, s1]; exact i8
      · by_cases y : i = k
        · subst y
          rw [bxd, e2]
          exact ⟨e18, g180 (by omega), fun w => absurd z180 w⟩
        · exact g2 i (by omega)
      · rw [bxd, s2]; exact e18
/-- given back: the reference's part -/
theorem WJ_back (h : WJ S 1 nv nc tc r I J L) {Q : WI} {L' : WL} (hQ : RW (v_234 J) Q) (hM : kM S tc Q L') : WJ S 1 nv nc tc r I (v_235 Q) L' := by
  obtain ⟨b1, b2⟩ := back_J h.1 hQ
  refine WJ_in h (fun _ _ _ => rfl) b1 (fun c k x => ?_) (kM_cg hM (fun j => b2 89 j (by omega) (by omega)))
  rw [b2 c k (by omega) (by omega), hQ c k (by omega) (by omega) (by omega) (by omega) (by omega)]
  exact v234_pt.1 c k (by omega)
theorem op_costs (h : WJ S 1 nv nc tc r I J L) (h9 : I 0 9 = nI tc) (x : Int32) : g_140 I F x ∧ g_256 J L x ∧ (v_140 I F x).1 = (v_256 J L x).1 ∧ WJ S 1 nv nc tc r I (v_256 J L x).2.1 (v_256 J L x).2.2 := by
  have k1 : v_170 (Int32.toInt64 x) 0 1 = v_107 x 0 1 := v170_107 x 0 1
  obtain ⟨hA, hQ, hC, hB, hP, hV, hN, -⟩ := h.1
  have h12 := hV.1
  unfold g_140 g_256 v_140 v_256
  rw [k1]
  by_cases y : v_107 x 0 1 = 0
  · rw [if_pos y, if_neg (nn y)]
    exact ⟨fun w => absurd y w, fun w => absurd y w, rfl, h⟩
  rw [if_neg y, if_pos y]
  obtain ⟨-, h8, h18, -, -, -, M, hM, hMI, hMb⟩ := hV
  have hMb' : ∀ v, v < nv → (M.testBit v = true ↔ J 87 v = 0) := fun v hv => by rw [hMb v hv, decide_eq_true_iff]
  obtain ⟨A, m, hA', a1, a2, a3, a4, th1, th21, fr, wA⟩ := TH_w h h9
  obtain ⟨l1, l2⟩ := v76_pt (I := A) (b := 21) (r := 1) (by omega)
  obtain ⟨I0, hI0⟩ : ∃ I0, I0 = v_76 A 21 1 := ⟨_, rfl⟩
  rw [← hI0] at th21 l1 l2
  have i0 : ∀ c k, c < 21 → I0 c k = I c k := fun c k z => by rw [l2 c k (by omega), fr c k (by omega) (by omega) (by omega)]
  have th := TH_keep th21
  have j234 : ∀ c k, c < 90 → v_234 J c k = J c k := fun c k z => v234_pt.1 c k (Or.inl z)
  obtain ⟨G1, G2, a, I', F', J', L', e1, e2, ha, th', fI, rw'⟩ := costs_lp (F := F) hM ((i0 1 12 (by omega)).trans hMI) (fun v hv => by rw [j234 87 v (by omega)]; exact hMb' v hv) ((i0 1 8 (by omega)).trans h8) th nv (Nat.le_refl _)
  have c8 : (I0 1 8).toNatClampNeg = nv := by rw [i0 1 8 (by omega), h8, cl (by omega)]
  have c18 : (v_234 J 74 18).toNatClampNeg = nv := by rw [j234 74 18 (by omega), h18, cl (by omega)]
  have hM' : kM S tc J' L' := by
    obtain ⟨⟨Ig, w, -⟩, -⟩ := th'
    exact w.2.2.2.1
  have wB := WJ_back h rw' hM'
  have hpc := pc_le' M nv
  have e12 : v_286 (I' 1 12) = nI (pc M nv) := by rw [fI 1 12 (by omega), i0 1 12 (by omega), hMI, pop hM h12]
  have gk := g_keep (J := J)
  have gk' := g_keep (J := J')
  have d0 : I 1 12 = 0 ↔ pc M nv = 0 := by
    rw [hMI]
    have m12 := p12 hM h12
    constructor
    · intro w
      have : M = 0 := (nI_eq (a := M) (b := 0) (by omega) (by omega)).mp w
      rw [this]
      have : ∀ n, pc 0 n = 0 := by
        intro n
        induction n with
        | zero => rfl
        | succ n ih =>
          have e : pc 0 (n + 1) = pc 0 n + if (0 : Nat).testBit n then 1 else 0 := rfl
          rw [e, ih, Nat.zero_testBit]; rfl
      exact this nv
    · intro w
      have : M = 0 := by
        apply Nat.eq_of_testBit_eq
        intro i
        rw [Nat.zero_testBit]
        by_cases z : i < nv
        · refine bNo (fun q => ?_)
          have := ctr_sz (P := fun v => M.testBit v) (g := fun _ => 0) (v := i) q nv z
          rw [szr_pc, w] at this
          omega
        · exact tb_hi hM (by omega)
      rw [this]; rfl
  dsimp only [bx]
  rw [c18, e2]
  dsimp only
  by_cases y0 : I 1 12 = 0
  · have pz := d0.mp y0
    rw [if_neg (nn y0), if_neg (fun w => w (show lg_cmp (nL (pc M nv)) 0 = 0 by rw [pz]; decide))]
    refine ⟨fun _ w => absurd y0 w, fun _ => ⟨gk.1, G2, gk'.2, fun w => absurd (show lg_cmp (nL (pc M nv)) 0 = 0 by rw [pz]; decide) w⟩, rfl, wB⟩
  · have pz : ¬ pc M nv = 0 := fun w => y0 (d0.mpr w)
    have ng : ¬ lg_cmp (nL (pc M nv)) 0 = 0 := fun w => pz ((lg_0 (by omega)).mp w)
    obtain ⟨p1, p2, p3⟩ := part_eq (a := a) (b := pc M nv) (by omega) (by omega) (by omega) x
    rw [if_pos y0, if_pos ng, a1, ← hA', ← hI0, c8, e1]
    dsimp only
    rw [e12]
    refine ⟨fun _ _ => ⟨a2, a3, a4, G1, p1⟩, fun _ => ⟨gk.1, G2, gk'.2, fun _ => p2⟩, p3, wB⟩
end
