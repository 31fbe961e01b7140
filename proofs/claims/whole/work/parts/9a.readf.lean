section
variable {I J : WI} {F : WF} {b nv nc k m t : Nat}
/-! the whole reading -/
/-- over: the vector's cell was opened -/
def ovr (nc : Nat) (J : WI) (v : Nat) : Prop := ∃ c, c < nc ∧ J 86 v = nI c ∧ J 99 c = 1
theorem tb16 {t : Nat} (t16 : t < 16) {j : Nat} (h : 4 ≤ j) : t.testBit j = false := tb_hi (n := 4) t16 h
theorem sz0 (hz : szr (fun c => t.testBit c) 4 = 0) (t16 : t < 16) : t = 0 := by
  apply Nat.eq_of_testBit_eq
  intro i
  rw [Nat.zero_testBit]
  by_cases y : i < 4
  · refine bNo (fun w => ?_)
    have := ctr_sz (P := fun c => t.testBit c) (g := fun _ => 0) (v := i) w 4 y
    omega
  · exact tb16 t16 (by omega)
/-- a cell opened: the cell's reading, of both -/
theorem open1 (hb : b ≤ 21) (hk1 : 1 ≤ k) (hk : k ≤ 5) (h : BF b nv nc m I J) {c : Nat} (hc : c < nc) (hri : RI k nv I J) (hsk : SK (ovr nc J) k nv m J) (h98 : ∀ v, v < nv → ∀ c, c < nc → J 86 v = nI c → J 99 c = 0 → J 98 v = 0) (h99 : J 99 c = 0) {I1 J1 : WI} (hI1 : I1 = up2 I 38 6 (I 38 6 + 1)) (hJ1 : J1 = up2 (up2 J 99 c 1) 74 48 (J 74 48 + 1)) :
    g_39 I1 (nI c) (nI k) b ∧ gl_237_81 J1 (nI k) (nI c) nv ∧ RF I J (v_39 I1 (nI c) (nI k) b) (lp_237_81 J1 (nI k) (nI c) nv) ∧ RI k nv (v_39 I1 (nI c) (nI k) b) (lp_237_81 J1 (nI k) (nI c) nv) ∧ SK (ovr nc (lp_237_81 J1 (nI k) (nI c) nv)) k nv m (lp_237_81 J1 (nI k) (nI c) nv) ∧
      (∀ d, lp_237_81 J1 (nI k) (nI c) nv 99 d = if d = c then 1 else J 99 d) ∧ (∀ v, v < nv → ∀ d, d < nc → J 86 v = nI d → d ≠ c → lp_237_81 J1 (nI k) (nI c) nv 98 v = J 98 v) := by
  have h4 : nc ≤ 4 := h.1.2.2.1.1
  have fI : ∀ a d, ¬ (a = 38 ∧ d = 6) → I1 a d = I a d := fun a d hh => by rw [hI1, up2_nk hh]
  have fJ : ∀ a d, ¬ (a = 99 ∧ d = c) → ¬ (a = 74 ∧ d = 48) → J1 a d = J a d := fun a d x1 x2 => by rw [hJ1, up2_nk x2, up2_nk x1]
  have rf : RF I J I1 J1 := ⟨fun a d x1 x2 x3 => fI a d (by omega), fun a d x1 x2 x3 => fJ a d (by omega) (by omega)⟩
  have bf := BF_cg hb h rf
  obtain ⟨kA1, kQ1, kC1, kB1, kP1, kV1, kN1⟩ := bf.1
  have h12 := kV1.1
  have i6 : I1 38 6 = I 38 6 + 1 := by rw [hI1, up2_pt]
  have j48 : J1 74 48 = J 74 48 + 1 := by rw [hJ1, up2_pt]
  have j99 : ∀ d, J1 99 d = if d = c then 1 else J 99 d := fun d => by
    by_cases y : d = c
    · subst y; rw [if_pos rfl, hJ1, up2_nk (by omega), up2_pt]
    · rw [if_neg y, fJ _ _ (by omega) (by omega)]
  have eg : ∀ v, fg J1 v = fg J v := fun v => by unfold fg; rw [fJ 96 v (by omega) (by omega)]
  have pe : ∀ v, pR J1 v = pR J v := fun v => pR_cg (fJ _ _ (by omega) (by omega)) (fJ _ _ (by omega) (by omega))
  have e86 : ∀ v, J1 86 v = J 86 v := fun v => fJ _ _ (by omega) (by omega)
  have ri : RI k nv I1 J1 := by
    obtain ⟨r1, r2, r3, r4, r5⟩ := hri
    refine ⟨HL_cg r1 (fI _ _ (by omega)) (fun a d hh => fI _ _ (by omega)) (fun v _ => fJ _ _ (by omega) (by omega)) (fun v _ => pe v), ?_, ?_, ?_, ?_⟩
    · rw [fI 38 4 (by omega), fJ 74 46 (by omega) (by omega), r2]
    · rw [fI 38 5 (by omega), fJ 74 47 (by omega) (by omega), r3]
    · rw [i6, j48, r4]
    · rw [fJ 74 46 (by omega) (by omega), r5, szr_ext (P := r8 J1) (Q := r8 J) nv (fun v _ => r8_cg (fJ _ _ (by omega) (by omega)))]
  have sk : SK (ovr nc J) k nv m J1 := fun v hv hd hm => by
    rw [pe v, ctr_ext (g' := fg J) (Q := pR J) (eg v) nv (fun i _ => pe i) (fun i _ => eg i)]
    exact hsk v hv hd hm
  -- the cell's own that are there
  obtain ⟨h12', h8, h18, h85, -, -, M, hM, hMI, hMb⟩ := kV1
  obtain ⟨mm, m1, m2, m3⟩ := mask (I := I1) (b := b) (c := c) nv h12
  have e66 : v_66 I1 b (nI c) = nI mm := by
    unfold v_66
    rw [h8, cl (by omega), m2, bxd]
  have g66 : g_66 I1 b (nI c) := by
    unfold g_66
    rw [h8, cl (by omega)]
    intro i hi
    rw [bxd]
    exact vin (by omega) (by omega)
  have ql : mm &&& M < 4096 := p12 (Nat.and_lt_two_pow _ hM) h12
  have qb : ∀ v, v < nv → ((mm &&& M).testBit v = true ↔ J1 86 v = nI c ∧ J1 87 v = 0) := fun v hv => by
    rw [Nat.testBit_and, Bool.and_eq_true, m3 v hv, (h85 v (by omega)).2.2, hMb v hv, decide_eq_true_iff, decide_eq_true_iff]
  have e39 : v_39 I1 (nI c) (nI k) b = lp_39_23 I1 (nI k) b (nI (mm &&& M)) (nI m) nv := by
    unfold v_39
    rw [e66, hMI, ← nI_and, bf.2.2.1, h8, cl (by omega), bxd]
  obtain ⟨q1, q2, q3, q4, q5, q6, q7, q8⟩ := cell_lp hb hk1 hk bf hc ql qb ri sk (fun v hv hvc => by
    rw [fJ 98 v (by omega) (by omega)]
    exact h98 v hv c hc (by rw [← e86]; exact hvc) h99) nv (Nat.le_refl _)
  rw [e39]
  refine ⟨?_, q2, RF_tr rf q3, q4, ?_, fun d => (q7 d).trans (j99 d), fun v hv d hd hvd hdc => ?_⟩
  · unfold g_39
    rw [e66, hMI, ← nI_and, bf.2.2.1, h8, cl (by omega)]
    exact ⟨g66, q1⟩
  · intro v hv hd hm
    refine q5 v hv ?_ hm
    obtain ⟨d, d1, d2, d3⟩ := hd
    have d2' : J 86 v = nI d := by
      have := q3.2 86 v (by omega) (by omega) (by omega)
      rw [this, e86] at d2
      exact d2
    rw [q7 d, j99 d] at d3
    by_cases y : d = c
    · subst y
      exact Or.inr ⟨hv, (e86 v).trans d2'⟩
    · rw [if_neg y] at d3
      exact Or.inl ⟨d, d1, d2', d3⟩
  · have ne : ¬ J1 86 v = nI c := fun w => by
      rw [e86, hvd] at w
      exact hdc ((nI_eq (by omega) (by omega)).mp w)
    rw [q6 v (Or.inr ne), fJ 98 v (by omega) (by omega)]
/-- what a reading comes to -/
def RE (k nv m : Nat) (I J : WI) : Prop := RI k nv I J ∧ ∀ v, v < nv → m.testBit v = true → pR J v = true ∨ k ≤ ctr (pR J) (fg J) v nv
theorem read_go (hb : b ≤ 21) (hk1 : 1 ≤ k) (hk : k ≤ 5) : ∀ d f n t (I J : WI), d < f → n + d ≤ 4 → szr (fun c => t.testBit c) 4 = d → t < 16 → BF b nv nc m I J → (∀ c, c < nc → (t.testBit c = true ↔ J 83 c = 1 ∧ J 99 c = 0)) → (∀ c, nc ≤ c → t.testBit c = false) → (∀ c, c < nc → J 99 c = 0 ∨ J 99 c = 1) → (∀ c, c < nc → t.testBit c = true → F 39 c = v_225 J (nI c)) →
    RI k nv I J → SK (ovr nc J) k nv m J → (∀ v, v < nv → ∀ c, c < nc → J 86 v = nI c → J 99 c = 0 → J 98 v = 0) →
    gl_35_30 F (nI k) b f (nI t) (nI n) I ∧ g_239 J ∧ gl_237_44 (nI k) f (v_239 J) J ∧ ∃ I', lp_35_30 F (nI k) b f (nI t) (nI n) I = (I', F) ∧ RF I J I' (lp_237_44 (nI k) f (v_239 J) J) ∧ RE k nv m I' (lp_237_44 (nI k) f (v_239 J) J) := by
  intro d
  induction d with
  | zero =>
    intro f n t I J hf hn hd t16 h ht htn h99 hF hri hsk h98
    obtain ⟨f', rfl⟩ : ∃ f', f = f' + 1 := ⟨f - 1, by omega⟩
    have t0 : t = 0 := sz0 hd t16
    subst t0
    obtain ⟨g1, g2, pk⟩ := pick h t16 ht htn hF
    have e239 : v_239 J = -1 := by
      rcases pk with ⟨p, -⟩ | ⟨c, c1, c2, -⟩
      · exact p
      · rw [Nat.zero_testBit] at c2; exact absurd c2 (by decide)
    have r35 : lp_35_30 F (nI k) b (f' + 1) (nI 0) (nI n) I = (I, F) := by
      rw [lp_35_30, if_pos (show nI 0 = 0 from rfl)]
      split <;> rfl
    have r37 : lp_237_44 (nI k) (f' + 1) (-1) J = J := by rw [lp_237_44, if_pos rfl]
    rw [e239]
    refine ⟨?_, g2, ?_, I, r35, ?_, ?_⟩
    · rw [gl_35_30]
      exact fun _ w => absurd rfl w
    · rw [gl_237_44]
      exact fun w => absurd rfl w
    · rw [r37]; exact RF_rf
    · rw [r37]
      refine ⟨hri, fun v hv hm => hsk v hv ?_ hm⟩
      obtain ⟨⟨kA1, kQ1, kC1, kB1, kP1, kV1, kN1⟩, n1, n2, n3⟩ := h
      have u := (n3 v hv).2.2.1 hm
      rcases kV1.2.2.2.2.1 v hv with ⟨-, a⟩ | ⟨c, c1, c2⟩
      · rw [u] at a; exact absurd a.symm d10
      · refine ⟨c, c1, c2, ?_⟩
        have e1 := (kN1 v hv c c1 c2).1
        rcases h99 c c1 with a | a
        · have := (ht c c1).mpr ⟨e1, a⟩
          rw [Nat.zero_testBit] at this; exact absurd this (by decide)
        · exact a
  | succ d ih =>
    intro f n t I J hf hn hd t16 h ht htn h99 hF hri hsk h98
    obtain ⟨f', rfl⟩ : ∃ f', f = f' + 1 := ⟨f - 1, by omega⟩
    have h4 : nc ≤ 4 := h.1.2.2.1.1
    have h12 : nv ≤ 12 := h.1.2.2.2.2.2.1.1
    have h18 := h.1.2.2.2.2.2.1.2.2.1
    obtain ⟨g1, g2, pk⟩ := pick h t16 ht htn hF
    rcases pk with ⟨-, t0⟩ | ⟨c, c1, c2, e239, e37, cmin⟩
    · subst t0
      exfalso
      have : szr (fun c => (0 : Nat).testBit c) 4 = 0 := by decide
      omega
    obtain ⟨q1, q2⟩ := (ht c c1).mp c2
    have ec : (nI c).toNatClampNeg = c := cl (by omega)
    have n4 : ¬ 4 ≤ nI n := by
      have t4 : (4 : Int32).toInt = 4 := by decide
      rw [Int32.le_iff_toInt_le, nI_toInt (by omega), t4]; omega
    have nt : ¬ nI t = 0 := by
      intro w
      have e : t = 0 := (nI_eq (a := t) (b := 0) (by omega) (by omega)).mp w
      rw [e, Nat.zero_testBit] at c2; exact absurd c2 (by decide)
    obtain ⟨l1, l2, l3, l4, l5⟩ := lowcB h c1 q1
    obtain ⟨y1, y2, y3, y4⟩ := beyond (P := pR J) (f := v_225 J (nI c)) h18 h12 hk1 hk (fun v _ => pR_iff) hri.1
    have eF : F 39 c = v_225 J (nI c) := hF c c1 c2
    have gv : vp_in (nI c) 4 := vin (by omega) (by omega)
    rw [e239]
    rcases y4 with y4 | ⟨y4, w, w1, w2, w3, w4⟩
    · -- opened
      obtain ⟨I1, hI1⟩ : ∃ I1, I1 = up2 I 38 6 (I 38 6 + 1) := ⟨_, rfl⟩
      obtain ⟨J1, hJ1⟩ : ∃ J1, J1 = up2 (up2 J 99 c 1) 74 48 (J 74 48 + 1) := ⟨_, rfl⟩
      obtain ⟨o1, o2, o3, o4, o5, o6, o7⟩ := open1 hb hk1 hk h c1 hri hsk h98 q2 hI1 hJ1
      obtain ⟨I2, hI2⟩ : ∃ I2, I2 = v_39 I1 (nI c) (nI k) b := ⟨_, rfl⟩
      obtain ⟨J2, hJ2⟩ : ∃ J2, J2 = lp_237_81 J1 (nI k) (nI c) nv := ⟨_, rfl⟩
      rw [← hI2] at o3 o4
      rw [← hJ2] at o3 o4 o5 o6 o7
      have j18 : (J1 74 18).toNatClampNeg = nv := by rw [hJ1, up2_nk (by omega), up2_nk (by omega), h18, cl (by omega)]
      have bf2 := BF_cg hb h o3
      obtain ⟨t', ht'⟩ : ∃ t', t' = t &&& (4095 ^^^ 2 ^ c) := ⟨_, rfl⟩
      have tb' : ∀ j, t'.testBit j = (t.testBit j && !(decide (c = j))) := fun j => by
        by_cases y : j < 12
        · rw [ht']; exact clr_tb y
        · rw [ht', Nat.testBit_and, tb16 t16 (by omega), Bool.false_and, Bool.false_and]
      have t16' : t' < 16 := by
        rw [ht']; exact Nat.lt_of_le_of_lt Nat.and_le_left t16
      have eclr : nI t &&& ((1 <<< (nI c &&& 31)) ^^^ (-1)) = nI t' := by rw [ht']; exact bit_clr (by omega) (by omega)
      have e83 : ∀ c, J2 83 c = J 83 c := fun c => o3.2 _ _ (by omega) (by omega) (by omega)
      have e86 : ∀ c, J2 86 c = J 86 c := fun c => o3.2 _ _ (by omega) (by omega) (by omega)
      have tc : ∀ j, t'.testBit j = true ↔ t.testBit j = true ∧ j ≠ c := fun j => by
        rw [tb', Bool.and_eq_true, Bool.not_eq_true', decide_eq_false_iff_not]
        exact ⟨fun w => ⟨w.1, fun e => w.2 e.symm⟩, fun w => ⟨w.1, fun e => w.2 e.symm⟩⟩
      have hd' : szr (fun c => t'.testBit c) 4 = d := by
        have pc : t'.testBit c = false := bNo (fun w => ((tc c).mp w).2 rfl)
        have e1 := szr_inr (P := fun c => t'.testBit c) (v := c) pc 4
        have e2 : szr (inr (fun c => t'.testBit c) c) 4 = szr (fun c => t.testBit c) 4 := szr_ext 4 (fun j _ => by
          by_cases y : j = c
          · subst y; rw [inr_v, c2]
          · rw [inr_o y, tb', decide_eq_false (fun e => y e.symm), Bool.not_false, Bool.and_true])
        rw [if_pos (by omega)] at e1
        omega
      obtain ⟨G1, G2, G3, I', R1, R2, R3⟩ := ih f' (n + 1) t' I2 J2 (by omega) (by omega) hd' t16' bf2 (fun j hj => by
          rw [tc, ht j hj, e83, o6]
          by_cases y : j = c
          · subst y; rw [if_pos rfl]; exact ⟨fun w => absurd rfl w.2, fun w => absurd w.2 d10⟩
          · rw [if_neg y]; exact ⟨fun w => w.1, fun w => ⟨w, y⟩⟩) (fun j hj => bNo (fun w => by exact absurd (((tc j).mp w).1.symm.trans (htn j hj)) (by decide))) (fun j hj => by
          rw [o6]
          by_cases y : j = c
          · rw [if_pos y]; exact Or.inr rfl
          · rw [if_neg y]; exact h99 j hj) (fun j hj hz => by
          have z1 := ((tc j).mp hz).1
          have z2 := ((ht j hj).mp z1).1
          have a1 := (lowcB h hj z2).2.2.1
          obtain ⟨⟨kA2, kQ2, kC2, kB2, kP2, kV2, kN2⟩, -⟩ := BF_cg hb h (I := I) (J := J2) ⟨fun _ _ _ _ _ => rfl, o3.2⟩
          have a2 := (lowc kA2 kQ2 kC2 kB2 kP2 kV2 kN2 hj ((e83 j).trans z2)).2.2.1
          rw [hF j hj z1, ← a1, a2]) o4 o5 (fun v hv j hj hvj hj0 => by
          rw [o6] at hj0
          rw [e86] at hvj
          by_cases y : j = c
          · subst y; rw [if_pos rfl] at hj0; exact absurd hj0 d10
          · rw [if_neg y] at hj0
            rw [o7 v hv j hj hvj y]
            exact h98 v hv j hj hvj hj0)
      refine ⟨?_, g2, ?_, I', ?_, ?_, ?_⟩
      · rw [gl_35_30, e37, ec, eF, ← hI1, ← hI2]
        refine fun _ _ => ⟨g1, gv, y1, fun _ => ⟨o1, ?_⟩⟩
        rw [bxd, eclr, nI_1]
        exact G1
      · rw [gl_237_44, ec, nar1, ← hJ1, j18, ← hJ2]
        refine fun _ => ⟨l2, y2, fun _ => ⟨gv, o2, ?_⟩⟩
        rw [bxd]
        exact ⟨G2, G3⟩
      · rw [lp_35_30, if_neg n4, if_neg nt, e37, ec, eF, y3, y4, if_pos rfl, ← hI1, ← hI2, bxd, eclr, nI_1]
        exact R1
      · rw [lp_237_44, if_neg (nIm1 (by omega)), y4, if_neg d00, ec, nar1, ← hJ1, j18, ← hJ2, bxd]
        exact RF_tr o3 R2
      · rw [lp_237_44, if_neg (nIm1 (by omega)), y4, if_neg d00, ec, nar1, ← hJ1, j18, ← hJ2, bxd]
        exact R3
    · -- all ends
      have r35 : lp_35_30 F (nI k) b (f' + 1) (nI t) (nI n) I = (I, F) := by
        rw [lp_35_30, if_neg n4, if_neg nt, e37, ec, eF, y3, y4, if_neg d10]
      have r37 : lp_237_44 (nI k) (f' + 1) (nI c) J = J := by
        rw [lp_237_44, if_neg (nIm1 (by omega)), y4, if_pos d10]
      rw [r37]
      refine ⟨?_, g2, ?_, I, r35, RF_rf, hri, fun v hv hm => ?_⟩
      · rw [gl_35_30, e37, ec, eF]
        exact fun _ _ => ⟨g1, gv, y1, fun q => by rw [y3, y4] at q; exact absurd q d10⟩
      · rw [gl_237_44]
        exact fun _ => ⟨l2, y2, fun q => absurd (fun z => by rw [y4] at z; exact d10 z) q⟩
      · obtain ⟨⟨kA1, kQ1, kC1, kB1, kP1, kV1, kN1⟩, n1, n2, n3⟩ := id h
        have u := (n3 v hv).2.2.1 hm
        rcases kV1.2.2.2.2.1 v hv with ⟨-, a⟩ | ⟨c', c1', c2'⟩
        · rw [u] at a; exact absurd a.symm d10
        · have e1 := (kN1 v hv c' c1' c2').1
          rcases h99 c' c1' with a | a
          · right
            have hz := (ht c' c1').mpr ⟨e1, a⟩
            have mn := cmin c' c1' hz
            have lt : fg J w < fg J v := by
              refine Int.lt_of_not_ge fun hge => ?_
              have := (lowcB h c1' e1).2.2.2.2 v hv c2' (J 96 w) (Int.le_trans (far_dQ h hv).1 hge) (far_dQ h w1).2
              have := w4 l4
              omega
            have := ctr_lt (P := pR J) (aB_iff.mpr (Or.inl lt)) w2 nv w1
            omega
          · exact hsk v hv ⟨c', c1', c2', a⟩ hm
end
