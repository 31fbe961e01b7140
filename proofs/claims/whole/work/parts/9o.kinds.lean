section
variable {S : Nat → List Int32 × List Int32} {nv nc tc r m s n : Nat} {I J I0 J0 : WI} {L : WL} {F G : WF}
/-! by which kinds, by which weights -/
theorem TQ_set {b : Nat} {k c i : Nat} {x : Int32} (hb : b ≤ 21) (h : TQ S b nv nc tc r m I J L) (hx : (k = 3 → bt 0 5 x) ∧ (k = 4 → bt 1 9 x)) (hk : (k = 3 ∧ c = b + 1 ∧ i = 0) ∨ (k = 4 ∧ c = b + 2 ∧ i = 0)) : TQ S b nv nc tc r m (up2 I c i x) (up2 J 78 k x) L := by
  obtain ⟨⟨Ig, ⟨w1, w2, w3, w4, w5, w6⟩, g⟩, h1, h2, h3, h4⟩ := h
  have e : ∀ v, enR (up2 J 78 k x) v = enR J v := fun v => by
    unfold enR
    rw [up2_nk (by omega), up2_nk (by omega), up2_nk (by omega), up2_nk (by omega), up2_nk (by omega)]
  have ks := (kR_set (k := k) (c := c) (i := i) (x := x) w1 ⟨fun z => by omega, fun z => by omega, fun z => by omega, hx.1, fun z => hx.2 (by omega)⟩ (by omega)).2
  refine ⟨⟨up2 Ig c i x, ⟨ks, fun q hq => TxtP_cg (w2 q hq) (fun c' k' y => up2_nk (by omega)) (fun c' k' y => up2_nk (by omega)), w3, kM_cg w4 (fun j => up2_nk (by omega)), w5, (up2_nk (by omega)).trans w6⟩, fun c' k' y z => ?_⟩, h1, ?_, fun v hv => ?_, fun v hv => ?_⟩
  · by_cases q : c' = c ∧ k' = i
    · obtain ⟨rfl, rfl⟩ := q
      rw [up2_pt, up2_pt]
    · rw [up2_nk q, up2_nk q, g c' k' y z]
  · unfold v_21 at h2 ⊢
    rw [up2_nk (by omega), up2_nk (by omega)]
    exact h2
  · rw [h3 v hv]
    unfold FT
    rw [e v, up2_nk (by omega)]
  · rw [up2_nk (by omega), h4 v hv]
    unfold PU
    rw [e v]
theorem RB_M {J1 J2 J3 : WI} {c k : Nat} {x : Int32} (hc : c = 78 ∨ (c = 74 ∧ k = 4) ∨ c = 87) (h : RB nc J1 J2) (h1 : J1 = up2 J c k x) (h3 : J3 = up2 J2 c k (J c k)) : RB nc J J3 := by
  refine ⟨fun c' k' y => ?_, fun c' k' y1 y2 y3 y4 => ?_⟩
  · by_cases q : c' = c ∧ k' = k
    · obtain ⟨rfl, rfl⟩ := q
      rw [h3, up2_pt]
    · rw [h3, up2_nk q, h.1 c' k' y, h1, up2_nk q]
  · by_cases q : c' = c ∧ k' = k
    · obtain ⟨rfl, rfl⟩ := q
      rw [h3, up2_pt]
    · rw [h3, up2_nk q, h.2 c' k' y1 y2 y3 y4, h1, up2_nk q]
theorem p1n (k : Nat) : 1 + nI k = nI (k + 1) := by rw [show (1 : Int32) = nI 1 from rfl, nI_add, Nat.add_comm]

theorem st261_1 {x1 a3 : Int32} {k : Nat} {p : Int32 × WI × WL} : st_261_113s J0 G L x1 1 0 a3 k p = ((p.1 ||| ((if ¬ (v_263 (up2 p.2.1 78 3 (0 + nI k)) G p.2.2 x1).1 = -1 then 0 else 1) <<< ((0 + nI k) &&& 31))), up2 (v_263 (up2 p.2.1 78 3 (0 + nI k)) G p.2.2 x1).2.1 78 3 (p.2.1 78 3), (v_263 (up2 p.2.1 78 3 (0 + nI k)) G p.2.2 x1).2.2) := by
  unfold st_261_113s v_265
  dsimp only [bx]
  rw [if_neg (show ¬ ¬ (1 : Int32) = 1 by decide), if_neg (show ¬ ¬ (1 : Int32) = 1 by decide), if_neg (show ¬ ¬ (1 : Int32) = 1 by decide), if_pos (show ¬ (1 : Int32) = 4 by decide), if_pos (show ¬ (1 : Int32) = 4 by decide), if_neg d10]
  generalize v_263 (up2 p.2.1 78 3 (0 + nI k)) G p.2.2 x1 = Q
  by_cases y : Q.1 = -1
  · rw [if_neg (nn y), if_neg (nn y)]
  · rw [if_pos y, if_pos y]
theorem lp261_1 {x1 a3 : Int32} {k : Nat} {p : Int32 × WI × WL} (h : lp_261_113s J0 G L x1 1 0 a3 k = p) : lp_261_113s J0 G L x1 1 0 a3 (k + 1) = ((p.1 ||| ((if ¬ (v_263 (up2 p.2.1 78 3 (0 + nI k)) G p.2.2 x1).1 = -1 then 0 else 1) <<< ((0 + nI k) &&& 31))), up2 (v_263 (up2 p.2.1 78 3 (0 + nI k)) G p.2.2 x1).2.1 78 3 (p.2.1 78 3), (v_263 (up2 p.2.1 78 3 (0 + nI k)) G p.2.2 x1).2.2) := by
  have e : lp_261_113s J0 G L x1 1 0 a3 (k + 1) = st_261_113s J0 G L x1 1 0 a3 k p := by rw [← h]; rfl
  rw [e, st261_1]
theorem kinds_lp (hs : s < 4) (hn : n ≤ 12) (h : TQ S 21 nv nc tc r m I0 J0 L) (hp : kHp s n I0 J0 F G) {x4 : Int32} (hx4 : x4.toInt < 2147483647) : ∀ k, k ≤ 6 → gl_148_4 I0 F (58 + 4 * s) 0 k ∧ gl_261_113s J0 G L (nI s) 1 x4 0 0 k ∧
    ∃ (M : Int32) (I' J' : WI) (L' : WL), lp_148_4 I0 F (58 + 4 * s) 0 k = (M, I') ∧ lp_261_113s J0 G L (nI s) 1 0 0 k = (M, J', L') ∧ (∀ c k, ¬ (c = 24 ∧ k < 3) → ¬ (c = 22 ∧ k = 0) → I' c k = I0 c k) ∧ RB nc J0 J' ∧ kM S tc J' L' := by
  intro k
  induction k with
  | zero => exact fun _ => ⟨fun i hi => absurd hi (Nat.not_lt_zero _), ⟨hx4, fun i hi => absurd hi (Nat.not_lt_zero _)⟩, 0, I0, J0, L, rfl, rfl, fun _ _ _ _ => rfl, ⟨fun _ _ _ => rfl, fun _ _ _ _ _ _ => rfl⟩, TQ_M h⟩
  | succ k ih =>
    intro hk
    obtain ⟨g1, ⟨-, g2⟩, M, I1, J1, L1, e1, e2, fI, rb, km⟩ := ih (by omega)
    have ev : 0 + nI k = nI k := Int32.zero_add _
    obtain ⟨I2, hI2⟩ : ∃ I2, I2 = up2 I1 22 0 (nI k) := ⟨_, rfl⟩
    obtain ⟨J2, hJ2⟩ : ∃ J2, J2 = up2 J1 78 3 (nI k) := ⟨_, rfl⟩
    have tn := nI_toInt (n := k) (by omega)
    have tq0 : TQ S 21 nv nc tc r m (up2 I0 22 0 (nI k)) (up2 J0 78 3 (nI k)) L := TQ_set (by omega) h ⟨fun z => by first | (exact ⟨by omega, by omega⟩) | omega, fun z => by first | (exact ⟨by omega, by omega⟩) | omega⟩ (by omega)
    have rb2 : RB nc (up2 J0 78 3 (nI k)) J2 := by
      refine ⟨fun c' k' y => ?_, fun c' k' y1 y2 y3 y4 => ?_⟩
      · by_cases q : c' = 78 ∧ k' = 3
        · obtain ⟨rfl, rfl⟩ := q
          rw [hJ2, up2_pt, up2_pt]
        · rw [hJ2, up2_nk q, up2_nk q, rb.1 c' k' y]
      · by_cases q : c' = 78 ∧ k' = 3
        · obtain ⟨rfl, rfl⟩ := q
          rw [hJ2, up2_pt, up2_pt]
        · rw [hJ2, up2_nk q, up2_nk q, rb.2 c' k' y1 y2 y3 y4]
    have km2 : kM S tc J2 L1 := kM_cg km (fun j => by rw [hJ2, up2_nk (by omega)])
    have tq : TQ S 21 nv nc tc r m I2 J2 L1 := TQ_B (TQ_I (by omega) tq0 (fun c k' y1 y2 y3 => by
      by_cases q : c = 22 ∧ k' = 0
      · obtain ⟨rfl, rfl⟩ := q
        rw [hI2, up2_pt, up2_pt]
      · rw [hI2, up2_nk q, up2_nk q, fI c k' (by omega) q])) rb2 km2
    have hp2 : kHp s n I2 J2 F G := kHp_cg hs hp (fun c k' y1 y2 => by rw [hI2, up2_nk (by omega), fI c k' (by omega) (by omega)]) (fun c k' y1 y2 => by rw [hJ2, up2_nk (by omega), rb.2 c k' (by omega) (by omega) (by omega) (by omega)])
    obtain ⟨q1, q2, y, I3, J3, L3, q3, q4, q5, q6, q7⟩ := fo hs hn tq hp2
    have s2 := lp261_1 e2
    dsimp only at s2
    rw [ev, ← hJ2, q4] at s2
    dsimp only at s2
    have s1 : lp_148_4 I0 F (58 + 4 * s) 0 (k + 1) = ((if ¬ y = -1 then M else M ||| (1 <<< ((nI k) &&& 31))), I3) := by
      rw [lp_148_4, e1]
      dsimp only [bx]
      rw [← hI2, q3]
    rw [orc M (by omega)] at s1
    obtain ⟨J4, hJ4⟩ : ∃ J4, J4 = up2 J3 78 3 (J1 78 3) := ⟨_, rfl⟩
    rw [← hJ4] at s2
    have rb4 : RB nc J0 J4 := RB_tr rb (RB_M (Or.inl rfl) q6 hJ2 hJ4)
    refine ⟨fun i hi => ?_, ⟨hx4, fun i hi => ?_⟩, _, I3, J4, L3, s1, s2, fun c k' y1 y2 => by rw [q5 c k' y1, hI2, up2_nk y2, fI c k' y1 y2], rb4, kM_cg q7 (fun j => by rw [hJ4, up2_nk (by omega)])⟩
    · by_cases z : i = k
      · subst z
        rw [bxd, e1]
        dsimp only
        skip
        rw [← hI2]
        exact q1
      · exact g1 i (by omega)
    · by_cases z : i = k
      · subst z
        rw [bxd, e2]
        dsimp only [bx]
        have e7 : v_265 J1 1 (0 + nI i) (if ¬ (1 : Int32) = 4 then 0 + nI i else 1) = J2 := by
          rw [if_pos (show ¬ (1 : Int32) = 4 by decide), hJ2, ev]
          unfold v_265
          rw [if_neg (show ¬ ¬ (1 : Int32) = 1 by decide)]
        rw [e7]
        exact ⟨fun w => absurd rfl w, fun w => absurd (show ¬ (1 : Int32) = 4 by decide) w, fun w => absurd rfl w, fun _ => q2, fun w => absurd rfl w⟩
      · exact g2 i (by omega)

theorem st261_3 {x1 a3 : Int32} {k : Nat} {p : Int32 × WI × WL} : st_261_113s J0 G L x1 3 1 a3 k p = ((p.1 ||| ((if ¬ (v_263 (up2 p.2.1 78 4 (1 + nI k)) G p.2.2 x1).1 = -1 then 0 else 1) <<< ((1 + nI k) &&& 31))), up2 (v_263 (up2 p.2.1 78 4 (1 + nI k)) G p.2.2 x1).2.1 78 4 (p.2.1 78 4), (v_263 (up2 p.2.1 78 4 (1 + nI k)) G p.2.2 x1).2.2) := by
  unfold st_261_113s v_265
  dsimp only [bx]
  rw [if_pos (show ¬ (3 : Int32) = 1 by decide), if_pos (show ¬ (3 : Int32) = 2 by decide), if_neg (show ¬ ¬ (3 : Int32) = 3 by decide), if_pos (show ¬ (3 : Int32) = 1 by decide), if_pos (show ¬ (3 : Int32) = 2 by decide), if_neg (show ¬ ¬ (3 : Int32) = 3 by decide), if_pos (show ¬ (3 : Int32) = 4 by decide), if_pos (show ¬ (3 : Int32) = 4 by decide), if_neg d10]
  generalize v_263 (up2 p.2.1 78 4 (1 + nI k)) G p.2.2 x1 = Q
  by_cases y : Q.1 = -1
  · rw [if_neg (nn y), if_neg (nn y)]; rfl
  · rw [if_pos y, if_pos y]; rfl
theorem lp261_3 {x1 a3 : Int32} {k : Nat} {p : Int32 × WI × WL} (h : lp_261_113s J0 G L x1 3 1 a3 k = p) : lp_261_113s J0 G L x1 3 1 a3 (k + 1) = ((p.1 ||| ((if ¬ (v_263 (up2 p.2.1 78 4 (1 + nI k)) G p.2.2 x1).1 = -1 then 0 else 1) <<< ((1 + nI k) &&& 31))), up2 (v_263 (up2 p.2.1 78 4 (1 + nI k)) G p.2.2 x1).2.1 78 4 (p.2.1 78 4), (v_263 (up2 p.2.1 78 4 (1 + nI k)) G p.2.2 x1).2.2) := by
  have e : lp_261_113s J0 G L x1 3 1 a3 (k + 1) = st_261_113s J0 G L x1 3 1 a3 k p := by rw [← h]; rfl
  rw [e, st261_3]
theorem weights_lp (hs : s < 4) (hn : n ≤ 12) (h : TQ S 21 nv nc tc r m I0 J0 L) (hp : kHp s n I0 J0 F G) {x4 : Int32} (hx4 : x4.toInt < 2147483647) : ∀ k, k ≤ 9 → gl_150_4s I0 F (58 + 4 * s) 1 0 k ∧ gl_261_113s J0 G L (nI s) 3 x4 1 0 k ∧
    ∃ (M : Int32) (I' J' : WI) (L' : WL), lp_150_4s I0 F (58 + 4 * s) 1 0 k = (M, I') ∧ lp_261_113s J0 G L (nI s) 3 1 0 k = (M, J', L') ∧ (∀ c k, ¬ (c = 24 ∧ k < 3) → ¬ (c = 23 ∧ k = 0) → I' c k = I0 c k) ∧ RB nc J0 J' ∧ kM S tc J' L' := by
  intro k
  induction k with
  | zero => exact fun _ => ⟨fun i hi => absurd hi (Nat.not_lt_zero _), ⟨hx4, fun i hi => absurd hi (Nat.not_lt_zero _)⟩, 0, I0, J0, L, rfl, rfl, fun _ _ _ _ => rfl, ⟨fun _ _ _ => rfl, fun _ _ _ _ _ _ => rfl⟩, TQ_M h⟩
  | succ k ih =>
    intro hk
    obtain ⟨g1, ⟨-, g2⟩, M, I1, J1, L1, e1, e2, fI, rb, km⟩ := ih (by omega)
    have ev : 1 + nI k = nI (k + 1) := p1n k
    obtain ⟨I2, hI2⟩ : ∃ I2, I2 = up2 I1 23 0 (nI (k + 1)) := ⟨_, rfl⟩
    obtain ⟨J2, hJ2⟩ : ∃ J2, J2 = up2 J1 78 4 (nI (k + 1)) := ⟨_, rfl⟩
    have tn := nI_toInt (n := k + 1) (by omega)
    have tq0 : TQ S 21 nv nc tc r m (up2 I0 23 0 (nI (k + 1))) (up2 J0 78 4 (nI (k + 1))) L := TQ_set (by omega) h ⟨fun z => by first | (exact ⟨by omega, by omega⟩) | omega, fun z => by first | (exact ⟨by omega, by omega⟩) | omega⟩ (by omega)
    have rb2 : RB nc (up2 J0 78 4 (nI (k + 1))) J2 := by
      refine ⟨fun c' k' y => ?_, fun c' k' y1 y2 y3 y4 => ?_⟩
      · by_cases q : c' = 78 ∧ k' = 4
        · obtain ⟨rfl, rfl⟩ := q
          rw [hJ2, up2_pt, up2_pt]
        · rw [hJ2, up2_nk q, up2_nk q, rb.1 c' k' y]
      · by_cases q : c' = 78 ∧ k' = 4
        · obtain ⟨rfl, rfl⟩ := q
          rw [hJ2, up2_pt, up2_pt]
        · rw [hJ2, up2_nk q, up2_nk q, rb.2 c' k' y1 y2 y3 y4]
    have km2 : kM S tc J2 L1 := kM_cg km (fun j => by rw [hJ2, up2_nk (by omega)])
    have tq : TQ S 21 nv nc tc r m I2 J2 L1 := TQ_B (TQ_I (by omega) tq0 (fun c k' y1 y2 y3 => by
      by_cases q : c = 23 ∧ k' = 0
      · obtain ⟨rfl, rfl⟩ := q
        rw [hI2, up2_pt, up2_pt]
      · rw [hI2, up2_nk q, up2_nk q, fI c k' (by omega) q])) rb2 km2
    have hp2 : kHp s n I2 J2 F G := kHp_cg hs hp (fun c k' y1 y2 => by rw [hI2, up2_nk (by omega), fI c k' (by omega) (by omega)]) (fun c k' y1 y2 => by rw [hJ2, up2_nk (by omega), rb.2 c k' (by omega) (by omega) (by omega) (by omega)])
    obtain ⟨q1, q2, y, I3, J3, L3, q3, q4, q5, q6, q7⟩ := fo hs hn tq hp2
    have s2 := lp261_3 e2
    dsimp only at s2
    rw [ev, ← hJ2, q4] at s2
    dsimp only at s2
    have s1 : lp_150_4s I0 F (58 + 4 * s) 1 0 (k + 1) = ((if ¬ y = -1 then M else M ||| (1 <<< ((nI (k + 1)) &&& 31))), I3) := by
      rw [lp_150_4s, e1]
      dsimp only [bx]
      rw [ev, ← hI2, q3]
    rw [orc M (by omega)] at s1
    obtain ⟨J4, hJ4⟩ : ∃ J4, J4 = up2 J3 78 4 (J1 78 4) := ⟨_, rfl⟩
    rw [← hJ4] at s2
    have rb4 : RB nc J0 J4 := RB_tr rb (RB_M (Or.inl rfl) q6 hJ2 hJ4)
    refine ⟨fun i hi => ?_, ⟨hx4, fun i hi => ?_⟩, _, I3, J4, L3, s1, s2, fun c k' y1 y2 => by rw [q5 c k' y1, hI2, up2_nk y2, fI c k' y1 y2], rb4, kM_cg q7 (fun j => by rw [hJ4, up2_nk (by omega)])⟩
    · by_cases z : i = k
      · subst z
        rw [bxd, e1]
        dsimp only
        rw [ev]
        rw [← hI2]
        exact q1
      · exact g1 i (by omega)
    · by_cases z : i = k
      · subst z
        rw [bxd, e2]
        dsimp only [bx]
        have e7 : v_265 J1 3 (1 + nI i) (if ¬ (3 : Int32) = 4 then 1 + nI i else 1) = J2 := by
          rw [if_pos (show ¬ (3 : Int32) = 4 by decide), hJ2, ev]
          unfold v_265
          rw [if_pos (show ¬ (3 : Int32) = 1 by decide), if_pos (show ¬ (3 : Int32) = 2 by decide), if_neg (show ¬ ¬ (3 : Int32) = 3 by decide)]
        rw [e7]
        exact ⟨fun _ _ w => absurd rfl w, fun w => absurd (show ¬ (3 : Int32) = 4 by decide) w, fun _ _ w => absurd rfl w, fun _ => q2, fun _ _ w => absurd rfl w⟩
      · exact g2 i (by omega)
end
