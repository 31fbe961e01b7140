section
variable {b nv nc : Nat} {I J I' J' : WI}
/-! each piece rests on its own cells alone -/
theorem kA_cg (h : kA b I J) (hI : ∀ c k, (c = b ∧ k = 1) ∨ (c = b + 1 ∧ k < 3) ∨ c = b + 2 → I' c k = I c k) (hJ : ∀ k, k < 7 → J' 78 k = J 78 k) : kA b I' J' := by
  obtain ⟨⟨a1, a2, a3, a4, a5⟩, c1, c2, c3, c4, c5⟩ := h
  refine ⟨⟨?_, ?_, ?_, ?_, fun i hi => ?_⟩, ?_, ?_, ?_, ?_, fun i hi => ?_⟩
  · rw [hI _ _ (by omega), hJ _ (by omega)]; exact a1
  · rw [hI _ _ (by omega), hJ _ (by omega)]; exact a2
  · rw [hI _ _ (by omega), hJ _ (by omega)]; exact a3
  · rw [hI _ _ (by omega), hJ _ (by omega)]; exact a4
  · rw [hI _ _ (by omega), hJ _ (by omega)]; exact a5 i hi
  · rw [hJ _ (by omega)]; exact c1
  · rw [hJ _ (by omega)]; exact c2
  · rw [hJ _ (by omega)]; exact c3
  · rw [hJ _ (by omega)]; exact c4
  · rw [hJ _ (by omega)]; exact c5 i hi
theorem kQ_cg (h : kQ b I J) (hI : ∀ k, k < 3 → I' (b + 3) k = I (b + 3) k) (hJ : ∀ k, k < 3 → J' 79 k = J 79 k) : kQ b I' J' := by
  intro i hi
  rw [hI i hi, hJ i hi]
  exact h i hi
theorem kC_cg (h : kC b nc I J) (hI : ∀ c k, (c = b ∧ k = 4) ∨ (c = b + 4 ∧ k < 12) → I' c k = I c k) (hJ : ∀ c k, (c = 74 ∧ k = 13) ∨ (c = 80 ∧ k < 12) → J' c k = J c k) : kC b nc I' J' := by
  obtain ⟨h1, h2, h3, h4⟩ := h
  refine ⟨h1, ?_, ?_, fun i hi => ?_⟩
  · rw [hI _ _ (by omega)]; exact h2
  · rw [hJ _ _ (by omega)]; exact h3
  · rw [hI _ _ (by omega), hJ _ _ (by omega)]; exact h4 i hi
theorem kB_cg (h4 : nc ≤ 4) (h : kB b nc I J) (hI : ∀ c k, (c = b + 5 ∨ c = b + 6) ∧ k < 12 → I' c k = I c k) (hJ : ∀ c k, (c = 81 ∨ c = 82 ∨ c = 83) ∧ k < 12 → J' c k = J c k) : kB b nc I' J' := by
  intro c hc
  rw [hJ 83 c (by omega)]
  rcases h c hc with ⟨h0, hb⟩ | ⟨h1, hb⟩
  · left
    refine ⟨h0, fun i hi => ?_⟩
    rw [hI _ _ (by omega), hI _ _ (by omega)]
    exact hb i hi
  · right
    refine ⟨h1, fun i hi => ?_⟩
    rw [hI _ _ (by omega), hI _ _ (by omega), hJ _ _ (by omega), hJ _ _ (by omega)]
    exact hb i hi
theorem kP_cg (h : kP b I J) (hI : ∀ k, k < 36 → I' (b + 7) k = I (b + 7) k) (hJ : ∀ k, k < 36 → J' 84 k = J 84 k) : kP b I' J' := by
  intro i hi
  rw [hI i hi, hJ i hi]
  exact h i hi
theorem kV_cg (h : kV b nv nc I J) (hI : ∀ c k, (c = b ∧ (k = 8 ∨ k = 12)) ∨ ((c = b + 8 ∨ c = b + 9) ∧ k < 12) → I' c k = I c k) (hJ : ∀ c k, (c = 74 ∧ k = 18) ∨ ((c = 85 ∨ c = 86 ∨ c = 87) ∧ k < 12) → J' c k = J c k) : kV b nv nc I' J' := by
  obtain ⟨h1, h2, h3, h4, h5, h6, m, h7, h8, h9⟩ := h
  refine ⟨h1, ?_, ?_, fun v hv => ?_, fun v hv => ?_, fun v hv => ?_, m, h7, ?_, fun v hv => ?_⟩
  · rw [hI _ _ (by omega)]; exact h2
  · rw [hJ _ _ (by omega)]; exact h3
  · rw [hI _ _ (by omega), hI _ _ (by omega), hJ _ _ (by omega), hJ _ _ (by omega)]; exact h4 v hv
  · rw [hJ _ _ (by omega), hJ _ _ (by omega)]; exact h5 v hv
  · rw [hJ _ _ (by omega)]; exact h6 v hv
  · rw [hI _ _ (by omega)]; exact h8
  · rw [hJ _ _ (by omega)]; exact h9 v hv
theorem kN_cg (h12 : nv ≤ 12) (h4 : nc ≤ 4) (h : kN nv nc J) (hJ : ∀ c k, ((c = 81 ∨ c = 82 ∨ c = 83 ∨ c = 86) ∧ k < 12) ∨ (c = 84 ∧ k < 36) → J' c k = J c k) : kN nv nc J' := by
  intro v hv c hc hvc
  rw [hJ 86 v (by omega)] at hvc
  rw [hJ 83 c (by omega)]
  refine ⟨(h v hv c hc hvc).1, fun i hi => ?_⟩
  rw [hJ _ _ (by omega), hJ _ _ (by omega), hJ _ _ (by omega)]
  exact (h v hv c hc hvc).2 i hi
/-- the whole shelf; its rule is one of tc texts -/
def kR (b nv nc tc : Nat) (I J : WI) : Prop := kA b I J ∧ kQ b I J ∧ kC b nc I J ∧ kB b nc I J ∧ kP b I J ∧ kV b nv nc I J ∧ kN nv nc J ∧ I b 2 = J 74 4 ∧ ∃ r, r < tc ∧ J 74 4 = nI r
theorem kR_cgJ {tc : Nat} (h : kR b nv nc tc I J) (hJ : ∀ c k, ((c = 74 ∧ (k = 4 ∨ k = 13 ∨ k = 18)) ∨ (78 ≤ c ∧ c ≤ 87)) → J' c k = J c k) : kR b nv nc tc I J' := by
  obtain ⟨h1, h2, h3, h4, h5, h6, h7, h8, r, h9, h10⟩ := h
  refine ⟨kA_cg h1 (fun _ _ _ => rfl) (fun k _ => hJ _ _ (by omega)), kQ_cg h2 (fun _ _ => rfl) (fun k _ => hJ _ _ (by omega)), kC_cg h3 (fun _ _ _ => rfl) (fun c k _ => hJ _ _ (by omega)), kB_cg h3.1 h4 (fun _ _ _ => rfl) (fun c k _ => hJ _ _ (by omega)), kP_cg h5 (fun _ _ => rfl) (fun k _ => hJ _ _ (by omega)), kV_cg h6 (fun _ _ _ => rfl) (fun c k _ => hJ _ _ (by omega)), kN_cg h6.1 h3.1 h7 (fun c k _ => hJ _ _ (by omega)), ?_, r, h9, ?_⟩
  · rw [hJ _ _ (by omega)]; exact h8
  · rw [hJ _ _ (by omega)]; exact h10
theorem kR_cgI {tc : Nat} (h : kR b nv nc tc I J) (hI : ∀ c k, (b ≤ c ∧ c < b + 10) → I' c k = I c k) : kR b nv nc tc I' J := by
  obtain ⟨h1, h2, h3, h4, h5, h6, h7, h8, r, h9, h10⟩ := h
  refine ⟨kA_cg h1 (fun c k _ => hI _ _ (by omega)) (fun _ _ => rfl), kQ_cg h2 (fun k _ => hI _ _ (by omega)) (fun _ _ => rfl), kC_cg h3 (fun c k _ => hI _ _ (by omega)) (fun _ _ _ => rfl), kB_cg h3.1 h4 (fun c k _ => hI _ _ (by omega)) (fun _ _ _ => rfl), kP_cg h5 (fun k _ => hI _ _ (by omega)) (fun _ _ => rfl), kV_cg h6 (fun c k _ => hI _ _ (by omega)) (fun _ _ _ => rfl), h7, ?_, r, h9, h10⟩
  rw [hI _ _ (by omega)]; exact h8
/-! a vector put where it belongs -/
def pl3 (A : WI) (q v : Nat) (x y z : Int32) : WI := up2 (up2 (up2 A q (3 * v) x) q (3 * v + 1) y) q (3 * v + 2) z
theorem pl3_ne {A : WI} {q v c k : Nat} {x y z : Int32} (h : c ≠ q) : pl3 A q v x y z c k = A c k := by
  unfold pl3
  rw [up2_nk (by omega), up2_nk (by omega), up2_nk (by omega)]
theorem pl3_at {A : WI} {q v k : Nat} {x y z : Int32} : pl3 A q v x y z q k = if k = 3 * v + 2 then z else if k = 3 * v + 1 then y else if k = 3 * v then x else A q k := by
  simp [pl3, up2]
theorem pl3_kP {v : Nat} {x y z : Int32} (hx : bt (-999) 999 x ∧ bt (-999) 999 y ∧ bt (-999) 999 z) (hP : kP b I J) : kP b (pl3 I (b + 7) v x y z) (pl3 J 84 v x y z) := by
  intro i hi
  rw [pl3_at, pl3_at]
  have h := hP i hi
  split
  · exact ⟨rfl, hx.2.2⟩
  · split
    · exact ⟨rfl, hx.2.1⟩
    · split
      · exact ⟨rfl, hx.1⟩
      · exact h
theorem nI_2 (a : Nat) : nI a + 2 = nI (a + 2) := nI_add a 2
theorem v57_eq {v : Nat} {x y z : Int32} (hv : v < 12) : v_57 I b (nI v) x y z = v_60 (pl3 I (b + 7) v x y z) b (nI v) (v_58 (pl3 I (b + 7) v x y z) b (nI v)) := by
  unfold v_57 pl3
  simp only [bx, n30, nI_1, nI_2, cl (show 3 * v < 2 ^ 31 by omega), cl (show 3 * v + 1 < 2 ^ 31 by omega), cl (show 3 * v + 2 < 2 ^ 31 by omega)]
theorem v175_eq {v : Nat} {x y z : Int32} (hv : v < 12) : v_175 J (nI v) x y z = v_177 (pl3 J 84 v x y z) (nI v) (v_176 (pl3 J 84 v x y z) (nI v)) := by
  unfold v_175 pl3
  simp only [bx, n30, nI_1, nI_2, cl (show 3 * v < 2 ^ 31 by omega), cl (show 3 * v + 1 < 2 ^ 31 by omega), cl (show 3 * v + 2 < 2 ^ 31 by omega)]
def kN1 (nv nc v : Nat) (J : WI) : Prop := ∀ w, w < nv → w ≠ v → ∀ c, c < nc → J 86 w = nI c → J 83 c = 1 ∧ ∀ i, i < 3 → (J 81 (3 * c + i)).toInt ≤ (J 84 (3 * w + i)).toInt ∧ (J 84 (3 * w + i)).toInt ≤ (J 82 (3 * c + i)).toInt
theorem put_rel {v : Nat} {x y z : Int32} (hv : v < 12) (hn : 0 < nc) (hx : bt (-999) 999 x ∧ bt (-999) 999 y ∧ bt (-999) 999 z) (hC : kC b nc I J) (hB : kB b nc I J) (hP : kP b I J) :
    ∃ c, c < nc ∧ g_57 I b (nI v) x y z ∧ g_175 J (nI v) x y z ∧ kB b nc (v_57 I b (nI v) x y z) (v_175 J (nI v) x y z) ∧ kP b (v_57 I b (nI v) x y z) (v_175 J (nI v) x y z) ∧
      (∀ k, v_57 I b (nI v) x y z (b + 9) k = if k = v then nI c else I (b + 9) k) ∧ (∀ k, v_175 J (nI v) x y z 86 k = if k = v then nI c else J 86 k) ∧
      (kN1 nv nc v J → v < nv → nv ≤ 12 → kN nv nc (v_175 J (nI v) x y z)) := by
  have h4 := hC.1
  have hP1 := pl3_kP (v := v) hx hP
  have hC1 : kC b nc (pl3 I (b + 7) v x y z) (pl3 J 84 v x y z) := kC_cg hC (fun c k h => pl3_ne (by omega)) (fun c k h => pl3_ne (by omega))
  have hB1 : kB b nc (pl3 I (b + 7) v x y z) (pl3 J 84 v x y z) := kB_cg h4 hB (fun c k h => pl3_ne (by omega)) (fun c k h => pl3_ne (by omega))
  obtain ⟨c, hc, hcv⟩ := near_in hC1 (v := v) hn
  have hne := near_eq hC1 hP1 hv
  have hg := g_near hC1 hv
  rw [hcv] at hne
  refine ⟨c, hc, ?_, ?_, ?_, ?_, ?_, ?_, ?_⟩
  · unfold g_57
    have hc2 := g_come (I := pl3 I (b + 7) v x y z) (J := J) (b := b) (c := c) hv (by omega)
    have e : v_58 (pl3 I (b + 7) v x y z) b (nI v) = nI c := hne
    unfold pl3 at e hc2 hg
    simp only [n30, nI_1, nI_2, cl (show 3 * v < 2 ^ 31 by omega), cl (show 3 * v + 1 < 2 ^ 31 by omega), cl (show 3 * v + 2 < 2 ^ 31 by omega)]
    rw [e]
    exact ⟨vin (by omega) (by omega), vin (by omega) (by omega), vin (by omega) (by omega), hg.1, hc2.1⟩
  · unfold g_175
    have hc2 := g_come (I := I) (J := pl3 J 84 v x y z) (b := b) (c := c) hv (by omega)
    unfold pl3 at hcv hc2 hg
    simp only [n30, nI_1, nI_2, cl (show 3 * v < 2 ^ 31 by omega), cl (show 3 * v + 1 < 2 ^ 31 by omega), cl (show 3 * v + 2 < 2 ^ 31 by omega)]
    rw [hcv]
    exact ⟨vin (by omega) (by omega), vin (by omega) (by omega), vin (by omega) (by omega), hg.2, hc2.2⟩
  · rw [v57_eq hv, v175_eq hv, hne, hcv]
    exact come_kB hv hc h4 hB1 hP1
  · rw [v57_eq hv, v175_eq hv, hne, hcv]
    refine kP_cg hP1 (fun k hk => ?_) (fun k hk => ?_)
    · rw [v60_pt hv (by omega), if_neg (by omega), if_neg (by omega), if_neg (by omega)]
    · rw [v177_pt hv (by omega), if_neg (by omega), if_neg (by omega), if_neg (by omega), if_neg (by omega)]
  · intro k
    rw [v57_eq hv, hne, v60_pt hv (by omega), if_neg (show ¬ (b + 9 = b + 5 ∧ 3 * c ≤ k ∧ k < 3 * c + 3) by omega), if_neg (show ¬ (b + 9 = b + 6 ∧ 3 * c ≤ k ∧ k < 3 * c + 3) by omega), pl3_ne (by omega)]
    simp
  · intro k
    rw [v175_eq hv, hcv, v177_pt hv (by omega), if_neg (show ¬ (86 = 83 ∧ k = c) by omega), if_neg (show ¬ (86 = 81 ∧ 3 * c ≤ k ∧ k < 3 * c + 3) by omega), if_neg (show ¬ (86 = 82 ∧ 3 * c ≤ k ∧ k < 3 * c + 3) by omega), pl3_ne (by omega)]
    simp
  · intro hN hvn h12
    rw [v175_eq hv, hcv]
    refine come_kN hvn h12 hc h4 (fun w hw hwv c' hc' hwc => ?_)
    rw [pl3_ne (by omega)] at hwc
    obtain ⟨h1, hb⟩ := hN w hw hwv c' hc' hwc
    refine ⟨by rw [pl3_ne (by omega)]; exact h1, fun i hi => ?_⟩
    rw [pl3_ne (c := 81) (by omega), pl3_ne (c := 82) (by omega), pl3_at, if_neg (by omega), if_neg (by omega), if_neg (by omega)]
    exact hb i hi
end
