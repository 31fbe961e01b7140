section
variable {I J : WI} {F : WF} {b nv nc k m t : Nat}
/-! the cell that is next: the same of both -/
theorem clr_tb {m v j : Nat} (hj : j < 12) : (m &&& (4095 ^^^ 2 ^ v)).testBit j = (m.testBit j && !(decide (v = j))) := by
  rw [Nat.testBit_and, Nat.testBit_xor, show 4095 = 2 ^ 12 - 1 from rfl, Nat.testBit_two_pow_sub_one, Nat.testBit_two_pow, decide_eq_true hj, Bool.true_xor]
theorem lowcB (h : BF b nv nc m I J) {c : Nat} (hc : c < nc) (h1 : J 83 c = 1) : g_68 I b (nI c) ∧ g_225 J (nI c) ∧ v_68 I b (nI c) = v_225 J (nI c) ∧ vf_n32 (v_225 J (nI c)) ∧
    ∀ v, v < nv → J 86 v = nI c → ∀ n : Int32, (dQ J v).toInt ≤ n.toInt → n.toInt ≤ 107784300 → FP.Core.fkey (v_225 J (nI c)) ≤ FP.Core.fkey (v_190 n) := by
  obtain ⟨⟨h1', h2, h3, h4, h5, h6, h7⟩, -⟩ := h
  exact lowc h1' h2 h3 h4 h5 h6 h7 hc h1
theorem st37 {x : Int32} {j : Nat} {A : Int32 × Int32} (hj : j < 100) (h : lp_37_7 F x 0 0 j = A) : lp_37_7 F x 0 0 (j + 1) = (if (v_111 x (nI j)) = 0 then A else (if A.2 = 0 then ((nI j), 1) else (if 0 ≤ (Op.cmpValue (FP.fcmp (F 39 j) (F 39 A.1.toNatClampNeg)) .g) then A else ((nI j), 1)))) := by
  have ej : (nI j).toNatClampNeg = j := cl (by omega)
  rw [lp_37_7, h, bxd, bxd, ej]
theorem st239 {j : Nat} {A : Int32} (hj : j < 100) (h : lp_239_4 J (-1) j = A) : lp_239_4 J (-1) (j + 1) = (if (J 83 j) = 0 then A else (if ¬ (J 99 j) = 0 then A else (if A = (-1) then (nI j) else (if 0 ≤ (Op.cmpValue (FP.fcmp (v_225 J (nI j)) (v_225 J A)) .g) then A else (nI j))))) := by
  have ej : (nI j).toNatClampNeg = j := cl (by omega)
  rw [lp_239_4, h, bxd, bxd, ej]
/-- what holds of the choice so far -/
def PK (F : WF) (J : WI) (t k : Nat) : Prop := (lp_239_4 J (-1) k = -1 ∧ lp_37_7 F (nI t) 0 0 k = (0, 0) ∧ ∀ c, c < k → t.testBit c = false) ∨
  ∃ c, c < k ∧ t.testBit c = true ∧ lp_239_4 J (-1) k = nI c ∧ lp_37_7 F (nI t) 0 0 k = (nI c, 1) ∧ ∀ d, d < k → t.testBit d = true → FP.Core.fkey (v_225 J (nI c)) ≤ FP.Core.fkey (v_225 J (nI d))
theorem pick_lp (h : BF b nv nc m I J) (t16 : t < 16) (ht : ∀ c, c < nc → (t.testBit c = true ↔ J 83 c = 1 ∧ J 99 c = 0)) (hF : ∀ c, c < nc → t.testBit c = true → F 39 c = v_225 J (nI c)) :
    ∀ k, k ≤ nc → gl_37_7 F (nI t) 0 0 k ∧ gl_239_4 J (-1) k ∧ PK F J t k := by
  have h4 : nc ≤ 4 := h.1.2.2.1.1
  have hB := h.1.2.2.2.1
  intro k
  induction k with
  | zero =>
    intro _
    exact ⟨fun i hi => absurd hi (Nat.not_lt_zero _), fun i hi => absurd hi (Nat.not_lt_zero _), Or.inl ⟨rfl, rfl, fun c hc => absurd hc (Nat.not_lt_zero _)⟩⟩
  | succ j ih =>
    intro hj
    obtain ⟨g1, g2, pk⟩ := ih (by omega)
    have htj := ht j (by omega)
    have b3 : J 83 j = 0 ∨ J 83 j = 1 := by
      rcases hB j (by omega) with ⟨a, -⟩ | ⟨a, -⟩
      · exact Or.inl a
      · exact Or.inr a
    have ej : (nI j).toNatClampNeg = j := cl (by omega)
    have v0 : v_111 (nI t) (nI j) = 0 ↔ t.testBit j = false := v111_0 (by omega) (by omega)
    refine ⟨fun i hi => ?_, fun i hi => ?_, ?_⟩
    · by_cases y : i = j
      · subst y
        rw [bxd]
        intro w w2
        rcases pk with ⟨-, q, -⟩ | ⟨c, c1, -, -, q, -⟩
        · rw [q] at w2; exact absurd rfl w2
        · rw [q]
          exact ⟨vin (by omega) (by omega), vin (by omega) (by omega)⟩
      · exact g1 i (by omega)
    · by_cases y : i = j
      · subst y
        rw [bxd, ej]
        refine ⟨vin (by omega) (by omega), fun w => ⟨vin (by omega) (by omega), fun w2 w3 => ?_⟩⟩
        have e1 : J 83 i = 1 := by
          rcases b3 with q | q
          · exact absurd q w
          · exact q
        refine ⟨(lowcB h (by omega) e1).2.1, ?_⟩
        rcases pk with ⟨q, -, -⟩ | ⟨c, c1, c2, q, -, -⟩
        · exact absurd q w3
        · rw [q]
          exact (lowcB h (by omega) ((ht c (by omega)).mp c2).1).2.1
      · exact g2 i (by omega)
    · obtain ⟨A, hA⟩ : ∃ A, lp_37_7 F (nI t) 0 0 j = A := ⟨_, rfl⟩
      obtain ⟨B, hB'⟩ : ∃ B, lp_239_4 J (-1) j = B := ⟨_, rfl⟩
      have s1 := st37 (show j < 100 by omega) hA
      have s2 := st239 (show j < 100 by omega) hB'
      unfold PK at pk ⊢
      rw [hA, hB'] at pk
      by_cases z : t.testBit j = true
      · obtain ⟨z1, z2⟩ := htj.mp z
        rw [if_neg (fun w => by rw [v0.mp w] at z; exact absurd z (by decide))] at s1
        rw [if_neg (by rw [z1]; decide), if_neg (nn z2)] at s2
        rcases pk with ⟨p1, p2, p3⟩ | ⟨c, c1, c2, p1, p2, p3⟩
        · rw [p2, if_pos rfl] at s1
          rw [p1, if_pos rfl] at s2
          refine Or.inr ⟨j, by omega, z, s2, s1, fun d hd hz => ?_⟩
          by_cases y : d = j
          · subst y; exact Int.le_refl _
          · rw [p3 d (by omega)] at hz; exact absurd hz (by decide)
        · have nj := (lowcB h (show j < nc by omega) z1).2.2.2.1
          have nc' := (lowcB h (show c < nc by omega) ((ht c (by omega)).mp c2).1).2.2.2.1
          have ec : (nI c).toNatClampNeg = c := cl (by omega)
          rw [p2, if_neg d10, ec, hF j (by omega) z, hF c (by omega) c2] at s1
          rw [p1, if_neg (nIm1 (by omega))] at s2
          have cg := cmpG0 nj nc'
          by_cases y : (0 : Int32) ≤ Op.cmpValue (FP.fcmp (v_225 J (nI j)) (v_225 J (nI c))) .g
          · rw [if_pos y] at s1 s2
            refine Or.inr ⟨c, by omega, c2, s2, s1, fun d hd hz => ?_⟩
            by_cases x : d = j
            · subst x; exact cg.mp y
            · exact p3 d (by omega) hz
          · rw [if_neg y] at s1 s2
            rw [cg] at y
            refine Or.inr ⟨j, by omega, z, s2, s1, fun d hd hz => ?_⟩
            by_cases x : d = j
            · subst x; exact Int.le_refl _
            · have := p3 d (by omega) hz
              omega
      · have z0 := bNo z
        rw [if_pos (v0.mpr z0)] at s1
        have s2' : lp_239_4 J (-1) (j + 1) = B := by
          rw [s2]
          rcases b3 with q | q
          · rw [if_pos q]
          · rw [if_neg (by rw [q]; decide), if_pos (fun w => z (htj.mpr ⟨q, w⟩))]
        rw [s1, s2']
        rcases pk with ⟨p1, p2, p3⟩ | ⟨c, c1, c2, p1, p2, p3⟩
        · refine Or.inl ⟨p1, p2, fun c hc => ?_⟩
          by_cases y : c = j
          · subst y; exact z0
          · exact p3 c (by omega)
        · refine Or.inr ⟨c, by omega, c2, p1, p2, fun d hd hz => ?_⟩
          by_cases y : d = j
          · subst y; exact absurd hz z
          · exact p3 d (by omega) hz
theorem pick (h : BF b nv nc m I J) (t16 : t < 16) (ht : ∀ c, c < nc → (t.testBit c = true ↔ J 83 c = 1 ∧ J 99 c = 0)) (htn : ∀ c, nc ≤ c → t.testBit c = false) (hF : ∀ c, c < nc → t.testBit c = true → F 39 c = v_225 J (nI c)) :
    g_37 F (nI t) ∧ g_239 J ∧ ((v_239 J = -1 ∧ t = 0) ∨ ∃ c, c < nc ∧ t.testBit c = true ∧ v_239 J = nI c ∧ v_37 F (nI t) = nI c ∧ ∀ d, d < nc → t.testBit d = true → FP.Core.fkey (v_225 J (nI c)) ≤ FP.Core.fkey (v_225 J (nI d))) := by
  have h4 : nc ≤ 4 := h.1.2.2.1.1
  have e13 : (J 74 13).toNatClampNeg = nc := by rw [h.1.2.2.1.2.2.1, cl (by omega)]
  have c4 : (4 : Int32).toNatClampNeg = 4 := rfl
  obtain ⟨g1, g2, pk⟩ := pick_lp h t16 ht hF nc (Nat.le_refl _)
  have stay : ∀ d, nc + d ≤ 4 → gl_37_7 F (nI t) 0 0 (nc + d) ∧ lp_37_7 F (nI t) 0 0 (nc + d) = lp_37_7 F (nI t) 0 0 nc := by
    intro d
    induction d with
    | zero => exact fun _ => ⟨g1, rfl⟩
    | succ d ih =>
      intro hd
      obtain ⟨i1, i2⟩ := ih (by omega)
      have v0 : v_111 (nI t) (nI (nc + d)) = 0 := (v111_0 (by omega) (by omega)).mpr (htn _ (by omega))
      refine ⟨fun i hi => ?_, ?_⟩
      · by_cases y : i = nc + d
        · subst y
          rw [bxd]
          exact fun w => absurd v0 w
        · exact i1 i (by omega)
      · have s1 := st37 (F := F) (x := nI t) (show nc + d < 100 by omega) i2
        rw [if_pos v0] at s1
        exact s1
  obtain ⟨y1, y2⟩ := stay (4 - nc) (by omega)
  rw [show nc + (4 - nc) = 4 by omega] at y1 y2
  refine ⟨?_, ?_, ?_⟩
  · unfold g_37
    rw [c4]; exact y1
  · unfold g_239
    rw [e13]; exact g2
  · have e239 : v_239 J = lp_239_4 J (-1) nc := by unfold v_239; rw [e13, bxd]
    have e37 : v_37 F (nI t) = (lp_37_7 F (nI t) 0 0 nc).1 := by unfold v_37; rw [c4, bxd, y2]
    rw [e239, e37]
    rcases pk with ⟨p1, p2, p3⟩ | ⟨c, c1, c2, p1, p2, p3⟩
    · refine Or.inl ⟨p1, ?_⟩
      apply Nat.eq_of_testBit_eq
      intro i
      rw [Nat.zero_testBit]
      by_cases y : i < nc
      · exact p3 i y
      · exact htn i (by omega)
    · exact Or.inr ⟨c, c1, c2, p1, by rw [p2], p3⟩
end
