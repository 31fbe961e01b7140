section
variable {S : Nat → List Int32 × List Int32} {nv nc tc r : Nat} {I J : WI} {L : WL} {F G : WF}
/-! count -/
theorem there_lp {M : Nat} (hV : kV 1 nv nc I J) (h4 : nc ≤ 4) (hM : ∀ v, v < nv → M.testBit v = decide (J 87 v = 0)) : ∀ k, k ≤ nv → gl_270_24 J 0 k ∧ lp_270_24 J 0 k = nI (pc M k) := by
  have h12 := hV.1
  intro k
  induction k with
  | zero => exact fun _ => ⟨fun i hi => absurd hi (Nat.not_lt_zero _), rfl⟩
  | succ k ih =>
    intro hk
    obtain ⟨g, e⟩ := ih (by omega)
    have ht := there_eq hV h4 (show k < nv by omega)
    have hm := hM k (by omega)
    have epc : pc M (k + 1) = pc M k + if M.testBit k then 1 else 0 := rfl
    refine ⟨fun i hi => ?_, ?_⟩
    · rw [bxd]; exact g180 (by omega)
    · rw [lp_270_24, e, bxd, bxd, epc]
      rcases ht.2 with ⟨t1, t2, -⟩ | ⟨t1, t2⟩
      · rw [t2, decide_eq_true rfl] at hm
        rw [← ht.1, t1, if_neg d10, if_pos hm, show (1 : Int32) = nI 1 from rfl, nI_add]
      · rw [t2, decide_eq_false (by decide)] at hm
        rw [← ht.1, t1, if_pos rfl, hm, if_neg (show ¬ false = true by decide), show (0 : Int32) = nI 0 from rfl, nI_add]
def cntS (S : Nat → List Int32 × List Int32) (tc : Nat) (I J : WI) (L : WL) (x : Int32) : Prop := g_155 I x ∧ g_270 J L x ∧ (v_155 I x).1 = (v_270 J L x).1 ∧ RO J (v_270 J L x).2.1 ∧ kM S tc (v_270 J L x).2.1 (v_270 J L x).2.2
theorem op_count (h : WJ S 1 nv nc tc r I J L) (h9 : I 0 9 = nI tc) (h3 : J 74 3 = nI tc) (hT : qT I J) (x : Int32) : cntS S tc I J L x := by
  have h' := h
  obtain ⟨⟨hA, hQ, hC, hB, hP, hV, hN, hr, -⟩, -, -, hM, -⟩ := h
  have hV' := hV
  obtain ⟨h12, h8, h18, -, -, -, M, M1, M2, M3⟩ := hV'
  have h4 := hC.1
  have c18 : (J 74 18).toNatClampNeg = nv := by rw [h18, cl (by omega)]
  obtain ⟨tg, te⟩ := there_lp hV h4 M3 nv (Nat.le_refl _)
  obtain ⟨g120, m, A, e120, m1, m2, m3, wA, -⟩ := weigh1 h' h9
  obtain ⟨cg, J', L', c1, c2, c3⟩ := count_lp h' m2 nv (Nat.le_refl _)
  have e228 : v_228 J L = (nI (pc m nv), J', L') := by unfold v_228; rw [c18, bxd, c1]
  have g228 : g_228 J L := by unfold g_228; rw [c18]; exact cg
  have gC : g_155 I x := by
    unfold g_155
    exact ⟨fun _ => trivial, fun _ => ⟨fun _ => trivial, fun _ => ⟨fun _ => trivial, fun _ => ⟨fun _ => trivial, fun _ => ⟨fun _ => trivial, fun _ => ⟨fun _ => trivial, fun _ => ⟨fun _ => g120, fun _ => trivial⟩⟩⟩⟩⟩⟩⟩
  have gR : g_270 J L x := by
    unfold g_270
    rw [c18]
    exact fun _ => ⟨fun _ _ _ _ _ _ _ => g228, fun _ => tg⟩
  have k1 : v_170 (Int32.toInt64 x) 0 7 = v_107 x 0 7 := v170_107 x 0 7
  refine ⟨gC, gR, ?_⟩
  rcases vnum (nv := 8) (by omega) x with ⟨y, w, hw, hx⟩ | y
  rotate_left
  · rw [show nI 8 - 1 = 7 by decide] at y
    have nx : ∀ a : Int32, v_107 a 0 7 = 1 → ¬ x = a := fun a ha e => by rw [← e, y] at ha; exact absurd ha.symm d10
    unfold v_155 v_270
    rw [k1, y, if_neg d00, if_neg (nx 0 (by decide)), if_neg (nx 1 (by decide)), if_neg (nx 2 (by decide)), if_neg (nx 3 (by decide)), if_neg (nx 4 (by decide)), if_neg (nx 5 (by decide)), if_neg (nx 6 (by decide)), if_neg (nx 7 (by decide))]
    exact ⟨rfl, RO_rf, hM⟩
  rw [show nI 8 - 1 = 7 by decide] at y
  unfold v_155 v_270
  rw [k1, y, if_pos d10]
  match w, hw, hx with
  | 0, _, hx =>
    have hx : x = 0 := hx
    subst hx
    rw [if_pos (rfl : (0 : Int32) = 0), if_pos (show ¬ (0 : Int32) = 2 by decide), if_neg d00]
    exact ⟨h8.trans h18.symm, RO_rf, hM⟩
  | 1, _, hx =>
    have hx : x = 1 := hx
    subst hx
    rw [if_neg d10, if_pos (rfl : (1 : Int32) = 1), if_pos (show ¬ (1 : Int32) = 2 by decide), if_pos d10, if_neg (show ¬ ¬ (1 : Int32) = 1 by decide)]
    exact ⟨hC.2.1.trans hC.2.2.1.symm, RO_rf, hM⟩
  | 2, _, hx =>
    have hx : x = 2 := hx
    subst hx
    rw [if_neg (show ¬ (2 : Int32) = 0 by decide), if_neg (show ¬ (2 : Int32) = 1 by decide), if_pos (rfl : (2 : Int32) = 2), if_neg (show ¬ ¬ (2 : Int32) = 2 by decide), c18, te, M2, pop M1 h12]
    exact ⟨rfl, RO_rf, hM⟩
  | 3, _, hx =>
    have hx : x = 3 := hx
    subst hx
    rw [if_neg (show ¬ (3 : Int32) = 0 by decide), if_neg (show ¬ (3 : Int32) = 1 by decide), if_neg (show ¬ (3 : Int32) = 2 by decide), if_pos (rfl : (3 : Int32) = 3), if_pos (show ¬ (3 : Int32) = 2 by decide), if_pos (show ¬ (3 : Int32) = 0 by decide), if_pos (show ¬ (3 : Int32) = 1 by decide), if_neg (show ¬ ¬ (3 : Int32) = 3 by decide)]
    exact ⟨h9.trans h3.symm, RO_rf, hM⟩
  | 4, _, hx =>
    have hx : x = 4 := hx
    subst hx
    obtain ⟨n, -, t1, t2, -⟩ := hT
    rw [if_neg (show ¬ (4 : Int32) = 0 by decide), if_neg (show ¬ (4 : Int32) = 1 by decide), if_neg (show ¬ (4 : Int32) = 2 by decide), if_neg (show ¬ (4 : Int32) = 3 by decide), if_pos (rfl : (4 : Int32) = 4), if_pos (show ¬ (4 : Int32) = 2 by decide), if_pos (show ¬ (4 : Int32) = 0 by decide), if_pos (show ¬ (4 : Int32) = 1 by decide), if_pos (show ¬ (4 : Int32) = 3 by decide), if_neg (show ¬ ¬ (4 : Int32) = 4 by decide)]
    exact ⟨t1.trans t2.symm, RO_rf, hM⟩
  | 5, _, hx =>
    have hx : x = 5 := hx
    subst hx
    rw [if_neg (show ¬ (5 : Int32) = 0 by decide), if_neg (show ¬ (5 : Int32) = 1 by decide), if_neg (show ¬ (5 : Int32) = 2 by decide), if_neg (show ¬ (5 : Int32) = 3 by decide), if_neg (show ¬ (5 : Int32) = 4 by decide), if_pos (rfl : (5 : Int32) = 5), if_pos (show ¬ (5 : Int32) = 2 by decide), if_pos (show ¬ (5 : Int32) = 0 by decide), if_pos (show ¬ (5 : Int32) = 1 by decide), if_pos (show ¬ (5 : Int32) = 3 by decide), if_pos (show ¬ (5 : Int32) = 4 by decide), if_neg (show ¬ ¬ (5 : Int32) = 5 by decide)]
    exact ⟨hr, RO_rf, hM⟩
  | 6, _, hx =>
    have hx : x = 6 := hx
    subst hx
    rw [if_neg (show ¬ (6 : Int32) = 0 by decide), if_neg (show ¬ (6 : Int32) = 1 by decide), if_neg (show ¬ (6 : Int32) = 2 by decide), if_neg (show ¬ (6 : Int32) = 3 by decide), if_neg (show ¬ (6 : Int32) = 4 by decide), if_neg (show ¬ (6 : Int32) = 5 by decide), if_pos (rfl : (6 : Int32) = 6), if_pos (show ¬ (6 : Int32) = 2 by decide), if_pos (show ¬ (6 : Int32) = 0 by decide), if_pos (show ¬ (6 : Int32) = 1 by decide), if_pos (show ¬ (6 : Int32) = 3 by decide), if_pos (show ¬ (6 : Int32) = 4 by decide), if_pos (show ¬ (6 : Int32) = 5 by decide), if_neg (show ¬ ¬ (6 : Int32) = 6 by decide), e120, e228]
    dsimp only [bx]
    exact ⟨pop m1 h12, c2, c3⟩
  | 7, _, hx =>
    have hx : x = 7 := hx
    subst hx
    rw [if_neg (show ¬ (7 : Int32) = 0 by decide), if_neg (show ¬ (7 : Int32) = 1 by decide), if_neg (show ¬ (7 : Int32) = 2 by decide), if_neg (show ¬ (7 : Int32) = 3 by decide), if_neg (show ¬ (7 : Int32) = 4 by decide), if_neg (show ¬ (7 : Int32) = 5 by decide), if_neg (show ¬ (7 : Int32) = 6 by decide), if_pos (rfl : (7 : Int32) = 7), if_pos (show ¬ (7 : Int32) = 2 by decide), if_pos (show ¬ (7 : Int32) = 0 by decide), if_pos (show ¬ (7 : Int32) = 1 by decide), if_pos (show ¬ (7 : Int32) = 3 by decide), if_pos (show ¬ (7 : Int32) = 4 by decide), if_pos (show ¬ (7 : Int32) = 5 by decide), if_pos (show ¬ (7 : Int32) = 6 by decide)]
    exact ⟨hA.1.2.2.2.1, RO_rf, hM⟩
end
