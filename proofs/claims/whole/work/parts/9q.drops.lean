section
variable {S : Nat → List Int32 × List Int32} {b nv nc tc r m s n : Nat} {I J I0 J0 Ig J' : WI} {L L' : WL} {F G : WF}
/-! by which drops -/
theorem TQ_drop (h : TQ S 21 nv nc tc r m I J L) {v M : Nat} (hv : v < nv) (hM : M < 2 ^ nv) (hI : I 21 12 = nI M) (hb : ∀ u, u < nv → M.testBit u = decide (J 87 u = 0)) : TQ S 21 nv nc tc r (m &&& (4095 ^^^ 2 ^ v)) (up2 I 21 12 (nI (M &&& (4095 ^^^ 2 ^ v)))) (up2 J 87 v 1) L := by
  have h12 : nv ≤ 12 := (TQ_k h).2.2.2.2.1.1
  obtain ⟨⟨Ig, ⟨⟨k1, k2, k3, k4, k5, k6, k7, k8, q, q1, q2⟩, w2, w3, w4, w5, w6⟩, g⟩, h1, h2, h3, h4⟩ := h
  have e : ∀ u, enR (up2 J 87 v 1) u = enR J u := fun u => by
    unfold enR
    rw [up2_nk (by omega), up2_nk (by omega), up2_nk (by omega), up2_nk (by omega), up2_nk (by omega)]
  have m12 := p12 h1 h12
  have M12 := p12 hM h12
  refine ⟨⟨up2 Ig 21 12 (nI (M &&& (4095 ^^^ 2 ^ v))), ⟨⟨kA_cg k1 (fun c k x => up2_nk (by omega)) (fun k _ => up2_nk (by omega)), kQ_cg k2 (fun k x => up2_nk (by omega)) (fun k _ => up2_nk (by omega)), kC_cg k3 (fun c k x => up2_nk (by omega)) (fun c k x => up2_nk (by omega)), kB_cg k3.1 k4 (fun c k x => up2_nk (by omega)) (fun c k x => up2_nk (by omega)), kP_cg k5 (fun k x => up2_nk (by omega)) (fun k x => up2_nk (by omega)), ?_, kN_cg k6.1 k3.1 k7 (fun c k x => up2_nk (by omega)), (up2_nk (by omega)).trans (k8.trans (up2_nk (by omega)).symm), q, q1, (up2_nk (by omega)).trans q2⟩, fun t ht => TxtP_cg (w2 t ht) (fun c k x => up2_nk (by omega)) (fun c k x => up2_nk (by omega)), w3, kM_cg w4 (fun j => up2_nk (by omega)), w5, (up2_nk (by omega)).trans w6⟩, fun c k x y => ?_⟩, Nat.lt_of_le_of_lt Nat.and_le_left h1, ?_, fun u hu => ?_, fun u hu => ?_⟩
  · obtain ⟨a1, a2, a3, a4, a5, a6, -⟩ := k6
    refine ⟨a1, (up2_nk (by omega)).trans a2, (up2_nk (by omega)).trans a3, fun u hu => ?_, fun u hu => ?_, fun u hu => ?_, M &&& (4095 ^^^ 2 ^ v), Nat.lt_of_le_of_lt Nat.and_le_left hM, up2_pt, fun u hu => ?_⟩
    · rw [up2_nk (by omega), up2_nk (by omega), up2_nk (by omega), up2_nk (by omega)]
      exact a4 u hu
    · rw [up2_nk (c' := 86) (by omega)]
      by_cases z : u = v
      · subst z
        rw [up2_pt]
        rcases a5 u hu with ⟨y, -⟩ | y
        · exact Or.inl ⟨y, rfl⟩
        · exact Or.inr y
      · rw [up2_nk (by omega)]
        exact a5 u hu
    · by_cases z : u = v
      · subst z; rw [up2_pt]; exact Or.inr rfl
      · rw [up2_nk (by omega)]; exact a6 u hu
    · rw [clr_tb (by omega), hb u hu]
      by_cases z : u = v
      · subst z
        rw [up2_pt, decide_eq_true rfl]
        cases decide (J 87 u = 0) <;> rfl
      · rw [up2_nk (by omega), decide_eq_false (show ¬ v = u from fun y => z y.symm), Bool.not_false, Bool.and_true]
  · by_cases z : c = 21 ∧ k = 12
    · obtain ⟨rfl, rfl⟩ := z
      rw [up2_pt, up2_pt]
    · rw [up2_nk z, up2_nk z]; exact g c k x y
  · unfold v_21 at h2 ⊢
    rw [up2_nk (by omega), up2_pt]
    rw [hI] at h2
    rw [nI_and, ← Int32.and_assoc, h2, ← nI_and]
  · rw [clr_tb (by omega), Bool.and_eq_true, h3 u hu]
    unfold FT
    rw [e u]
    by_cases z : u = v
    · subst z
      rw [up2_pt, decide_eq_true rfl]
      exact ⟨fun y => absurd y.2 (by decide), fun y => absurd y.1 d10⟩
    · rw [up2_nk (by omega), decide_eq_false (show ¬ v = u from fun y => z y.symm)]
      exact ⟨fun y => y.1, fun y => ⟨y, rfl⟩⟩
  · rw [up2_nk (by omega), h4 u hu]
    unfold PU
    rw [e u]
theorem st151 {r1 : Nat} {k : Nat} {p : Int32 × WI} (h : lp_151_4 I0 F r1 0 k = p) : lp_151_4 I0 F r1 0 (k + 1) = if v_61 p.2 1 (nI k) = 0 then p else ((if ¬ (v_147 (v_56 p.2 21 (nI k) 0) F r1).1 = -1 then p.1 else p.1 ||| (1 <<< ((nI k) &&& 31))), v_56 (v_147 (v_56 p.2 21 (nI k) 0) F r1).2 21 (nI k) 1) := by
  rw [lp_151_4, h]
  dsimp only [bx]
theorem lp261_4 {x1 a3 : Int32} {k : Nat} {p : Int32 × WI × WL} (hk : k < 12) (h : lp_261_113s J0 G L x1 4 0 a3 k = p) : lp_261_113s J0 G L x1 4 0 a3 (k + 1) =
    if v_180 p.2.1 (nI k) = 0 then (p.1 ||| ((0 : Int32) <<< ((nI k) &&& 31)), up2 (up2 p.2.1 87 k 1) 87 k (p.2.1 87 k), p.2.2) else ((p.1 ||| ((if ¬ (v_263 (up2 p.2.1 87 k 1) G p.2.2 x1).1 = -1 then 0 else 1) <<< ((nI k) &&& 31))), up2 (v_263 (up2 p.2.1 87 k 1) G p.2.2 x1).2.1 87 k (p.2.1 87 k), (v_263 (up2 p.2.1 87 k 1) G p.2.2 x1).2.2) := by
  have e : lp_261_113s J0 G L x1 4 0 a3 (k + 1) = st_261_113s J0 G L x1 4 0 a3 k p := by rw [← h]; rfl
  have ek : (nI k).toNatClampNeg = k := cl (by omega)
  rw [e]
  unfold st_261_113s v_265
  dsimp only [bx]
  rw [Int32.zero_add, ek, if_pos (show ¬ (4 : Int32) = 1 by decide), if_pos (show ¬ (4 : Int32) = 2 by decide), if_pos (show ¬ (4 : Int32) = 3 by decide), if_pos (show ¬ (4 : Int32) = 1 by decide), if_pos (show ¬ (4 : Int32) = 2 by decide), if_pos (show ¬ (4 : Int32) = 3 by decide), if_neg (show ¬ ¬ (4 : Int32) = 4 by decide), if_neg (show ¬ ¬ (4 : Int32) = 4 by decide)]
  by_cases z : v_180 p.2.1 (nI k) = 0
  · rw [if_pos z, if_pos z, if_pos (rfl : (0 : Int32) = 0)]
    rfl
  · rw [if_neg z, if_neg z, if_neg d10]
    generalize v_263 (up2 p.2.1 87 k 1) G p.2.2 x1 = Q
    by_cases y : Q.1 = -1
    · rw [if_neg (nn y), if_neg (nn y)]; rfl
    · rw [if_pos y, if_pos y]; rfl
theorem drops_lp (hs : s < 4) (hn : n ≤ 12) (h : TQ S 21 nv nc tc r m I0 J0 L) (hp : kHp s n I0 J0 F G) {M1 : Nat} (hM1 : M1 < 2 ^ nv) (hI1 : I0 1 12 = nI M1) (hI21 : I0 21 12 = nI M1) (hMb : ∀ v, v < nv → M1.testBit v = decide (J0 87 v = 0)) {x4 : Int32} (hx4 : x4.toInt < 2147483647) : ∀ k, k ≤ nv → gl_151_4 I0 F (58 + 4 * s) 0 k ∧ gl_261_113s J0 G L (nI s) 4 x4 0 0 k ∧
    ∃ (M : Int32) (I' J' : WI) (L' : WL), lp_151_4 I0 F (58 + 4 * s) 0 k = (M, I') ∧ lp_261_113s J0 G L (nI s) 4 0 0 k = (M, J', L') ∧ (∀ c k, ¬ (c = 24 ∧ k < 3) → I' c k = I0 c k) ∧ RB nc J0 J' ∧ kM S tc J' L' := by
  have h12 : nv ≤ 12 := (TQ_k h).2.2.2.2.1.1
  have h4 : nc ≤ 4 := (TQ_k h).2.1.1
  have M12 := p12 hM1 h12
  intro k
  induction k with
  | zero => exact fun _ => ⟨⟨fun i hi => absurd hi (Nat.not_lt_zero _), rfl⟩, ⟨hx4, fun i hi => absurd hi (Nat.not_lt_zero _)⟩, 0, I0, J0, L, rfl, rfl, fun _ _ _ => rfl, ⟨fun _ _ _ => rfl, fun _ _ _ _ _ _ => rfl⟩, TQ_M h⟩
  | succ k ih =>
    intro hk
    obtain ⟨⟨g1, g1'⟩, ⟨-, g2⟩, M, I1, J1, L1, e1, e2, fI, rb, km⟩ := ih (by omega)
    have ek : (nI k).toNatClampNeg = k := cl (by omega)
    have ev : 0 + nI k = nI k := Int32.zero_add _
    have s1 := st151 e1
    have s2 := lp261_4 (show k < 12 by omega) e2
    dsimp only at s1 s2
    have e61 : v_61 I1 1 (nI k) = if M1.testBit k then 1 else 0 := by
      unfold v_61
      rw [fI 1 12 (by omega), hI1]
      exact v111_eq M12 (by omega)
    have tq1 : TQ S 21 nv nc tc r m I1 J1 L1 := TQ_B (TQ_I (by omega) h (fun c k' y1 y2 y3 => fI c k' y3)) rb km
    have kV1 := (TQ_k tq1).2.2.2.2.1
    have ht := there_eq kV1 h4 (show k < nv by omega)
    have j87 : ∀ v, v < nv → J1 87 v = J0 87 v := fun v hv => rb.1 87 v (kc85 (by omega) (by omega))
    have hmk := hMb k (by omega)
    have i8 : I1 1 8 = I0 1 8 := fI 1 8 (by omega)
    have hp1 : kHp s n I1 J1 F G := kHp_cg hs hp (fun c k' y1 y2 => fI c k' (by omega)) (fun c k' y1 y2 => rb.2 c k' (by omega) (by omega) (by omega) (by omega))
    have gbase : ∀ K : Prop, (¬ v_180 J1 (nI k) = 0 → K) → (¬ (4 : Int32) = 1 → ¬ (4 : Int32) = 2 → ¬ (4 : Int32) = 3 → vp_in (nI k) 12) := fun _ _ _ _ _ => vin (by omega) (by omega)
    have e7 : v_265 J1 4 (0 + nI k) (if ¬ (4 : Int32) = 4 then 0 + nI k else 1) = up2 J1 87 k 1 := by
      rw [if_neg (show ¬ ¬ (4 : Int32) = 4 by decide), ev]
      unfold v_265
      rw [if_pos (show ¬ (4 : Int32) = 1 by decide), if_pos (show ¬ (4 : Int32) = 2 by decide), if_pos (show ¬ (4 : Int32) = 3 by decide), ek]
    by_cases z : M1.testBit k = true
    · rw [if_pos z] at e61
      rw [z] at hmk
      have j0 : J1 87 k = 0 := (j87 k (by omega)).trans (of_decide_eq_true hmk.symm)
      have n180 : ¬ v_180 J1 (nI k) = 0 := by
        rcases ht.2 with ⟨t1, -⟩ | ⟨-, t2⟩
        · rw [← ht.1, t1]; exact d10
        · rw [j0] at t2; exact absurd t2.symm d10
      have i21 : I1 21 12 = nI M1 := (fI 21 12 (by omega)).trans hI21
      have tq := TQ_drop tq1 (show k < nv by omega) hM1 i21 (fun u hu => by rw [j87 u hu]; exact hMb u hu)
      have e56 : v_56 I1 21 (nI k) 0 = up2 I1 21 12 (nI (M1 &&& (4095 ^^^ 2 ^ k))) := by
        unfold v_56
        rw [if_pos rfl, bxd, i21, bit_clr M12 (by omega)]
      obtain ⟨I2, hI2⟩ : ∃ I2, I2 = up2 I1 21 12 (nI (M1 &&& (4095 ^^^ 2 ^ k))) := ⟨_, rfl⟩
      obtain ⟨J2, hJ2⟩ : ∃ J2, J2 = up2 J1 87 k 1 := ⟨_, rfl⟩
      rw [← hI2, ← hJ2] at tq
      have hp2 : kHp s n I2 J2 F G := kHp_cg hs hp1 (fun c k' y1 y2 => by rw [hI2, up2_nk (by omega)]) (fun c k' y1 y2 => by rw [hJ2, up2_nk (by omega)])
      obtain ⟨q1, q2, y, I3, J3, L3, q3, q4, q5, q6, q7⟩ := fo hs hn tq hp2
      rw [e61, if_neg d10, e56, ← hI2, q3] at s1
      rw [if_neg n180, ← hJ2, q4] at s2
      dsimp only at s1 s2
      have c56 : v_56 I3 21 (nI k) 1 = up2 I3 21 12 (nI M1) := by
        have i3 : I3 21 12 = nI (M1 &&& (4095 ^^^ 2 ^ k)) := by rw [q5 21 12 (by omega), hI2, up2_pt]
        have lt : M1 &&& (4095 ^^^ 2 ^ k) < 4096 := Nat.lt_of_le_of_lt Nat.and_le_left M12
        have e : (M1 &&& (4095 ^^^ 2 ^ k)) ||| 2 ^ k = M1 := by
          apply Nat.eq_of_testBit_eq
          intro i
          rw [Nat.testBit_or, Nat.testBit_two_pow]
          by_cases y : i < 12
          · rw [clr_tb y]
            by_cases u : k = i
            · subst u; rw [decide_eq_true rfl, z]; rfl
            · rw [decide_eq_false u]
              cases M1.testBit i <;> rfl
          · rw [Nat.testBit_and, tb_hi hM1 (by omega), Bool.false_and, Bool.false_or, decide_eq_false (by omega)]
        unfold v_56
        rw [if_neg d10, bxd, i3, bit_or lt (by omega), e]
      rw [c56, orc M (by omega)] at s1
      obtain ⟨I4, hI4⟩ : ∃ I4, I4 = up2 I3 21 12 (nI M1) := ⟨_, rfl⟩
      rw [← hI4] at s1
      obtain ⟨J4, hJ4⟩ : ∃ J4, J4 = up2 J3 87 k (J1 87 k) := ⟨_, rfl⟩
      rw [← hJ4] at s2
      have rb4 : RB nc J0 J4 := RB_tr rb (RB_M (Or.inr (Or.inr rfl)) q6 hJ2 hJ4)
      have fI4 : ∀ c k', ¬ (c = 24 ∧ k' < 3) → I4 c k' = I0 c k' := fun c k' y1 => by
        by_cases q : c = 21 ∧ k' = 12
        · obtain ⟨rfl, rfl⟩ := q
          rw [hI4, up2_pt, hI21]
        · rw [hI4, up2_nk q, q5 c k' y1, hI2, up2_nk q, fI c k' y1]
      refine ⟨⟨fun i hi => ?_, ?_⟩, ⟨hx4, fun i hi => ?_⟩, _, I4, J4, L3, s1, s2, fI4, rb4, kM_cg q7 (fun j => by rw [hJ4, up2_nk (by omega)])⟩
      · by_cases u : i = k
        · subst u
          rw [bxd, e1]
          dsimp only [bx]
          rw [e56, ← hI2]
          exact ⟨i8, fun _ => q1⟩
        · exact g1 i (by omega)
      · rw [bxd, s1]; exact fI4 1 8 (by omega)
      · by_cases u : i = k
        · subst u
          rw [bxd, e2]
          dsimp only [bx]
          rw [e7, ← hJ2, ev]
          exact ⟨fun _ _ _ => vin (by omega) (by omega), fun _ => g180 (by omega), fun _ _ _ => vin (by omega) (by omega), fun _ => q2, fun _ _ _ => vin (by omega) (by omega)⟩
        · exact g2 i (by omega)
    · rw [if_neg z] at e61
      have z180 : v_180 J1 (nI k) = 0 := by
        rcases ht.2 with ⟨-, t2, -⟩ | ⟨t1, -⟩
        · rw [j87 k (by omega)] at t2
          rw [t2, decide_eq_true rfl] at hmk
          exact absurd hmk z
        · rw [← ht.1]; exact t1
      rw [e61, if_pos rfl] at s1
      have eJ : up2 (up2 J1 87 k 1) 87 k (J1 87 k) = J1 := by
        funext c j
        by_cases q : c = 87 ∧ j = k
        · obtain ⟨rfl, rfl⟩ := q; rw [up2_pt]
        · rw [up2_nk q, up2_nk q]
      rw [if_pos z180, sh0 (by omega), or0, eJ] at s2
      refine ⟨⟨fun i hi => ?_, ?_⟩, ⟨hx4, fun i hi => ?_⟩, M, I1, J1, L1, s1, s2, fI, rb, km⟩
      · by_cases u : i = k
        · subst u
          rw [bxd, e1]
          exact ⟨i8, fun w => absurd e61 w⟩
        · exact g1 i (by omega)
      · rw [bxd, s1]; exact i8
      · by_cases u : i = k
        · subst u
          rw [bxd, e2]
          dsimp only [bx]
          rw [ev, if_neg (show ¬ ¬ (4 : Int32) = 4 by decide), if_pos z180]
          exact ⟨fun _ _ _ => vin (by omega) (by omega), fun _ => g180 (by omega), fun _ _ _ => vin (by omega) (by omega), fun w => absurd rfl w, fun _ _ _ => vin (by omega) (by omega)⟩
        · exact g2 i (by omega)
end
