section
variable {S : Nat → List Int32 × List Int32} {b nv nc tc r m s n : Nat} {I J I0 J0 Ig J' : WI} {L L' : WL} {F G : WF}
/-! by which texts -/
theorem WJ_Jb (h : WJ S b nv nc tc r I J L) (hJ : ∀ c k, KC nc c k → J' c k = J c k) (h75 : ∀ c k, c = 75 ∨ c = 76 → J' c k = J c k) (hM : kM S tc J' L') : WJ S b nv nc tc r I J' L' := by
  obtain ⟨h1, h2, h3, h4, h5, h6⟩ := h
  exact ⟨kR_in h1 hJ, fun q hq => TxtP_cg (h2 q hq) (fun _ _ _ => rfl) (fun c k x => h75 c k x), h3, hM, h5, (hJ 74 4 (kc74 (by omega))).trans h6⟩
theorem WJ_rule {i : Nat} (hb : b ≤ 21) (h : WJ S b nv nc tc r I J L) (hi : i < tc) : WJ S b nv nc tc i (up2 I b 2 (nI i)) (up2 J 74 4 (nI i)) L := by
  obtain ⟨⟨k1, k2, k3, k4, k5, k6, k7, k8, q, q1, q2⟩, w2, w3, w4, w5, w6⟩ := h
  refine ⟨⟨kA_cg k1 (fun c k x => up2_nk (by omega)) (fun k _ => up2_nk (by omega)), kQ_cg k2 (fun k x => up2_nk (by omega)) (fun k _ => up2_nk (by omega)), kC_cg k3 (fun c k x => up2_nk (by omega)) (fun c k x => up2_nk (by omega)), kB_cg k3.1 k4 (fun c k x => up2_nk (by omega)) (fun c k x => up2_nk (by omega)), kP_cg k5 (fun k x => up2_nk (by omega)) (fun k x => up2_nk (by omega)), kV_cg k6 (fun c k x => up2_nk (by omega)) (fun c k x => up2_nk (by omega)), kN_cg k6.1 k3.1 k7 (fun c k x => up2_nk (by omega)), ?_, i, hi, up2_pt⟩, fun t ht => TxtP_cg (w2 t ht) (fun c k x => up2_nk (by omega)) (fun c k x => up2_nk (by omega)), w3, kM_cg w4 (fun j => up2_nk (by omega)), hi, up2_pt⟩
  rw [up2_pt, up2_pt]
/-- weighed anew by another text -/
theorem TQ_weigh (hb : b ≤ 21) (w : WJ S b nv nc tc r Ig J L) (hI : ∀ c k, c < 57 → ¬ (35 ≤ c ∧ c ≤ 37) → ¬ (c = b ∧ k = 2) → ¬ (c = b + 3 ∧ k < 3) → I c k = Ig c k) : g_12 I b (45 + 2 * r) ∧ ∃ m, TQ S b nv nc tc r m (v_12 I b (45 + 2 * r)) J L := by
  have w0 := w
  obtain ⟨⟨k1, k2, k3, k4, kp0, kv0, k7, k8, q, q1, q2⟩, hT, ht, hM, hr, h4⟩ := w
  have kp : kP b I J := kP_cg kp0 (fun j _ => hI _ _ (by omega) (by omega) (by omega) (by omega)) (fun _ _ => rfl)
  have kv : kV b nv nc I J := kV_cg kv0 (fun c j _ => hI _ _ (by omega) (by omega) (by omega) (by omega)) (fun _ _ _ => rfl)
  have h12 := kv.1
  have ts : ∀ x, x < nv → (∀ R, runL (enR J x) (S r).1 R = rv (S r).1 (enR J x) :: R) ∧ (∀ R, runL (enR J x) (S r).2 R = rv (S r).2 (enR J x) :: R) := fun x hx => by
    obtain ⟨-, t1, t2, -⟩ := tellS (I := Ig) (J := nmI J (nI x)) (r := r) (by omega) (TxtP_cg (hT r hr) (fun _ _ _ => rfl) (fun c k h => nm_fr (by omega))) (nm_ok (show x < 12 by omega)) L 0
    exact ⟨t1, t2⟩
  obtain ⟨-, b1, b2, b3, b4⟩ := TxtP_cg (I' := I) (J' := J) (hT r hr) (fun c k x => hI c k (by omega) (by omega) (by omega) (by omega)) (fun _ _ _ => rfl)
  obtain ⟨g, m, m1, m2, m3⟩ := weighS (r2 := 45 + 2 * r) (r1 := b) (en := enR J) (p := fun x => rv (S r).1 (enR J x)) (q := fun x => rv (S r).2 (enR J x)) (by omega) hb h12 b1 b2 b3 b4 kv.2.1 (fun x hx z z1 z2 => by
    have e3 : (3 * nI x).toNatClampNeg = 3 * x := by rw [n30, cl (by omega)]
    have e31 : (3 * nI x + 1).toNatClampNeg = 3 * x + 1 := by rw [n31, cl (by omega)]
    have e32 : (3 * nI x + 2).toNatClampNeg = 3 * x + 2 := by rw [n32, cl (by omega)]
    have ev : (nI x).toNatClampNeg = x := cl (by omega)
    unfold v_15 enR enF
    rw [e3, e31, e32, ev, (kp _ (by omega)).1, (kp _ (by omega)).1, (kp _ (by omega)).1, (kv.2.2.2.1 x (by omega)).1, (kv.2.2.2.1 x (by omega)).2.2]) (fun x hx => (ts x hx).1) (fun x hx => (ts x hx).2)
  refine ⟨g, ?_⟩
  obtain ⟨m', n1, n2, n3⟩ := kv.2.2.2.2.2.2
  have fr : ∀ c k, c ≠ 35 → c ≠ 36 → c ≠ 37 → v_12 I b (45 + 2 * r) c k = I c k := fun c k x y z => frI_v_12 (by omega) y z
  obtain ⟨u1, u2, u3, u4, u5, u6⟩ := w0
  refine ⟨m &&& m', ⟨fun c k => if (c = b ∧ k = 2) ∨ (c = b + 3 ∧ k < 3) then Ig c k else v_12 I b (45 + 2 * r) c k, ⟨kR_cgI u1 (fun c k x => ?_), fun q hq => TxtP_cg (u2 q hq) (fun c k x => ?_) (fun _ _ _ => rfl), u3, u4, u5, u6⟩, fun c k x y => (if_neg (by omega)).symm⟩, Nat.and_lt_two_pow _ n1, ?_, fun v hv => ?_, fun v hv => ?_⟩
  · by_cases y : (c = b ∧ k = 2) ∨ (c = b + 3 ∧ k < 3)
    · rw [if_pos y]
    · rw [if_neg y, fr c k (by omega) (by omega) (by omega), hI c k (by omega) (by omega) (by omega) (by omega)]
  · rw [if_neg (by omega), fr c k (by omega) (by omega) (by omega), hI c k (by omega) (by omega) (by omega) (by omega)]
  · unfold v_21
    rw [m2, fr b 12 (by omega) (by omega) (by omega), n2, nI_and]
  · rw [Nat.testBit_and, Bool.and_eq_true, (m3 v hv).1, n3 v hv, decide_eq_true_iff]
    exact ⟨fun w => ⟨w.2, w.1⟩, fun w => ⟨w.2, w.1⟩⟩
  · exact (m3 v hv).2
theorem lp261_2 {x1 a3 : Int32} {k : Nat} {p : Int32 × WI × WL} (h : lp_261_113s J0 G L x1 2 0 a3 k = p) : lp_261_113s J0 G L x1 2 0 a3 (k + 1) = ((p.1 ||| ((if ¬ (v_263 (up2 p.2.1 74 4 (0 + nI k)) G p.2.2 x1).1 = -1 then 0 else 1) <<< ((0 + nI k) &&& 31))), up2 (v_263 (up2 p.2.1 74 4 (0 + nI k)) G p.2.2 x1).2.1 74 4 (p.2.1 74 4), (v_263 (up2 p.2.1 74 4 (0 + nI k)) G p.2.2 x1).2.2) := by
  have e : lp_261_113s J0 G L x1 2 0 a3 (k + 1) = st_261_113s J0 G L x1 2 0 a3 k p := by rw [← h]; rfl
  rw [e]
  unfold st_261_113s v_265
  dsimp only [bx]
  rw [if_pos (show ¬ (2 : Int32) = 1 by decide), if_neg (show ¬ ¬ (2 : Int32) = 2 by decide), if_pos (show ¬ (2 : Int32) = 1 by decide), if_neg (show ¬ ¬ (2 : Int32) = 2 by decide), if_pos (show ¬ (2 : Int32) = 4 by decide), if_pos (show ¬ (2 : Int32) = 4 by decide), if_neg d10]
  generalize v_263 (up2 p.2.1 74 4 (0 + nI k)) G p.2.2 x1 = Q
  by_cases y : Q.1 = -1
  · rw [if_neg (nn y), if_neg (nn y)]; rfl
  · rw [if_pos y, if_pos y]; rfl
theorem texts_lp (hs : s < 4) (hn : n ≤ 12) (w : WJ S 21 nv nc tc r Ig J0 L) (hI : ∀ c k, c < 57 → ¬ (35 ≤ c ∧ c ≤ 37) → ¬ (c = 21 ∧ k = 2) → ¬ (c = 24 ∧ k < 3) → I0 c k = Ig c k) (hp : kHp s n I0 J0 F G) {x4 : Int32} (hx4 : x4.toInt < 2147483647) : ∀ k, k ≤ tc → gl_149_4 I0 F (58 + 4 * s) 0 k ∧ gl_261_113s J0 G L (nI s) 2 x4 0 0 k ∧
    ∃ (M : Int32) (I' J' : WI) (L' : WL), lp_149_4 I0 F (58 + 4 * s) 0 k = (M, I') ∧ lp_261_113s J0 G L (nI s) 2 0 0 k = (M, J', L') ∧ (∀ c k, ¬ (c = 24 ∧ k < 3) → ¬ (35 ≤ c ∧ c ≤ 37) → I' c k = I0 c k) ∧ RB nc J0 J' ∧ kM S tc J' L' := by
  have h6 := w.2.2.1
  intro k
  induction k with
  | zero => exact fun _ => ⟨⟨fun i hi => absurd hi (Nat.not_lt_zero _), rfl⟩, ⟨hx4, fun i hi => absurd hi (Nat.not_lt_zero _)⟩, 0, I0, J0, L, rfl, rfl, fun _ _ _ _ => rfl, ⟨fun _ _ _ => rfl, fun _ _ _ _ _ _ => rfl⟩, w.2.2.2.1⟩
  | succ k ih =>
    intro hk
    obtain ⟨⟨g1, g1'⟩, ⟨-, g2⟩, M, I1, J1, L1, e1, e2, fI, rb, km⟩ := ih (by omega)
    have ev : 0 + nI k = nI k := Int32.zero_add _
    have ek : (nI k).toNatClampNeg = k := cl (by omega)
    obtain ⟨J2, hJ2⟩ : ∃ J2, J2 = up2 J1 74 4 (nI k) := ⟨_, rfl⟩
    have km2 : kM S tc J2 L1 := kM_cg km (fun j => by rw [hJ2, up2_nk (by omega)])
    have w2 : WJ S 21 nv nc tc k (up2 Ig 21 2 (nI k)) J2 L1 := WJ_Jb (WJ_rule (by omega) w (show k < tc by omega)) (fun c' k' y => by
        by_cases q : c' = 74 ∧ k' = 4
        · obtain ⟨rfl, rfl⟩ := q
          rw [hJ2, up2_pt, up2_pt]
        · rw [hJ2, up2_nk q, up2_nk q, rb.1 c' k' y]) (fun c' k' y => by rw [hJ2, up2_nk (by omega), up2_nk (by omega), rb.2 c' k' (by omega) (by omega) (by omega) (by omega)]) km2
    obtain ⟨g12, m, tq⟩ := TQ_weigh (I := I1) (by omega) w2 (fun c k' y1 y2 y3 y4 => by
      rw [up2_nk y3, fI c k' (by omega) (by omega), hI c k' y1 y2 y3 (by omega)])
    obtain ⟨I2, hI2⟩ : ∃ I2, I2 = v_12 I1 21 (45 + 2 * k) := ⟨_, rfl⟩
    rw [← hI2] at tq
    have fr : ∀ c k', c ≠ 35 → c ≠ 36 → c ≠ 37 → I2 c k' = I1 c k' := fun c k' x y z => by rw [hI2]; exact frI_v_12 (by omega) y z
    have hp2 : kHp s n I2 J2 F G := kHp_cg hs hp (fun c k' y1 y2 => by rw [fr c k' (by omega) (by omega) (by omega), fI c k' (by omega) (by omega)]) (fun c k' y1 y2 => by rw [hJ2, up2_nk (by omega), rb.2 c k' (by omega) (by omega) (by omega) (by omega)])
    obtain ⟨q1, q2, y, I3, J3, L3, q3, q4, q5, q6, q7⟩ := fo hs hn tq hp2
    have s2 := lp261_2 e2
    dsimp only at s2
    rw [ev, ← hJ2, q4] at s2
    dsimp only at s2
    have s1 : lp_149_4 I0 F (58 + 4 * s) 0 (k + 1) = ((if ¬ y = -1 then M else M ||| (1 <<< ((nI k) &&& 31))), I3) := by
      rw [lp_149_4, e1]
      dsimp only [bx]
      rw [ek, ← hI2, q3]
    rw [orc M (by omega)] at s1
    obtain ⟨J4, hJ4⟩ : ∃ J4, J4 = up2 J3 74 4 (J1 74 4) := ⟨_, rfl⟩
    rw [← hJ4] at s2
    have rb4 : RB nc J0 J4 := RB_tr rb (RB_M (Or.inr (Or.inl ⟨rfl, rfl⟩)) q6 hJ2 hJ4)
    have fI3 : ∀ c k', ¬ (c = 24 ∧ k' < 3) → ¬ (35 ≤ c ∧ c ≤ 37) → I3 c k' = I0 c k' := fun c k' y1 y2 => by rw [q5 c k' y1, fr c k' (by omega) (by omega) (by omega), fI c k' y1 y2]
    have e09 : I1 0 9 = I0 0 9 := fI 0 9 (by omega) (by omega)
    refine ⟨⟨fun i hi => ?_, ?_⟩, ⟨hx4, fun i hi => ?_⟩, _, I3, J4, L3, s1, s2, fI3, rb4, kM_cg q7 (fun j => by rw [hJ4, up2_nk (by omega)])⟩
    · by_cases z : i = k
      · subst z
        rw [bxd, e1]
        dsimp only [bx]
        rw [ek, ← hI2]
        exact ⟨e09, vin (by omega) (by omega), g12, q1⟩
      · exact g1 i (by omega)
    · rw [bxd, s1]
      exact fI3 0 9 (by omega) (by omega)
    · by_cases z : i = k
      · subst z
        rw [bxd, e2]
        dsimp only [bx]
        have e7 : v_265 J1 2 (0 + nI i) (if ¬ (2 : Int32) = 4 then 0 + nI i else 1) = J2 := by
          rw [if_pos (show ¬ (2 : Int32) = 4 by decide), hJ2, ev]
          unfold v_265
          rw [if_pos (show ¬ (2 : Int32) = 1 by decide), if_neg (show ¬ ¬ (2 : Int32) = 2 by decide)]
        rw [e7]
        exact ⟨fun _ w => absurd rfl w, fun w => absurd (show ¬ (2 : Int32) = 4 by decide) w, fun _ w => absurd rfl w, fun _ => q2, fun _ w => absurd rfl w⟩
      · exact g2 i (by omega)
end
