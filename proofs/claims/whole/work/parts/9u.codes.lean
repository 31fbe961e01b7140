section
variable {S : Nat → List Int32 × List Int32} {nv nc tc r s n : Nat} {I J : WI} {L : WL} {F G : WF}
/-! code -/
theorem sh8 {x : Int32} (h : bt (-128) 127 x) : Int8.toInt32 (Int32.toInt8 x) = x := by
  obtain ⟨h1, h2⟩ := h
  apply Int32.toInt_inj.mp
  rw [Int8.toInt_toInt32, Int32.toInt_toInt8]
  exact Int.bmod_eq_of_le (by omega) (by omega)
theorem code_lp (hs : s < 4) (hA : kA 1 I J) (hC : kC 1 nc I J) (hP : kP 1 I J) (hV : kV 1 nv nc I J) {v c i : Nat} (hv : v < nv) (hc : c < nc) (he : J 86 v = nI c) (hin : i + 3 ≤ n) (hh : kHs I J F G) (hp : kHp s n I J F G) (j1 : J 111 s = 1) (j2 : J 112 s = 1) : ∀ k, k ≤ 3 → gl_165_55 I F (nI v) (nI s) (nI i) k ∧ gl_279_78 J (nI v) (nI s) (nI i) k ∧
    ∃ I' J' : WI, lp_165_55 I F (nI v) (nI s) (nI i) k = (I', F) ∧ lp_279_78 J (nI v) (nI s) (nI i) k = J' ∧ kHs I' J' F G ∧ kHp s n I' J' F G ∧ J' 111 s = 1 ∧ J' 112 s = 1 ∧ (∀ c k, c ≠ 58 + 4 * s + 2 → I' c k = I c k) ∧ ∀ c k, c ≠ 114 → J' c k = J c k := by
  have h12 := hV.1
  have h4 := hC.1
  have hn := hp.1
  intro k
  induction k with
  | zero => exact fun _ => ⟨fun i hi => absurd hi (Nat.not_lt_zero _), fun i hi => absurd hi (Nat.not_lt_zero _), I, J, rfl, rfl, hh, hp, j1, j2, fun _ _ _ => rfl, fun _ _ _ => rfl⟩
  | succ k ih =>
    intro hk
    obtain ⟨g1, g2, I1, J1, e1, e2, hh1, hp1, j11, j21, fI, fJ⟩ := ih (by omega)
    have es : (nI s).toNatClampNeg = s := cl (by omega)
    have ek : nI i + nI k = nI (i + k) := nI_add i k
    have e40 : (40 * nI s + nI i) + nI k = nI (40 * s + i + k) := by rw [at40, nI_add]
    have c1 := code_eq (kA_cg hA (fun c k x => fI _ _ (by omega)) (fun k x => fJ _ _ (by omega))) (kC_cg hC (fun c k x => fI _ _ (by omega)) (fun c k x => fJ _ _ (by omega))) (kP_cg hP (fun k x => fI _ _ (by omega)) (fun k x => fJ _ _ (by omega))) (kV_cg hV (fun c k x => fI _ _ (by omega)) (fun c k x => fJ _ _ (by omega))) hv hc ((fJ 86 v (by omega)).trans he) (i := k) (by omega)
    obtain ⟨q1, q2, q3, q4⟩ := c1
    obtain ⟨x, hx⟩ : ∃ x, x = v_211 J1 (nI v) (nI k) := ⟨_, rfl⟩
    rw [← hx] at q3 q4
    have b0 : I1 (58 + 4 * s) 0 = 1 := by rw [hp1.2.2.2.1, j21]
    have c47 := v47_1 (I := I1) (F := F) (b := 58 + 4 * s) (i := i + k) (by omega) b0 x
    have s1 : lp_165_55 I F (nI v) (nI s) (nI i) (k + 1) = (up2 I1 (58 + 4 * s + 2) (i + k) x, F) := by
      rw [lp_165_55, e1]
      dsimp only [bx]
      rw [es, ek, q3, c47, sh8 q4]
    have s2 : lp_279_78 J (nI v) (nI s) (nI i) (k + 1) = up2 J1 114 (40 * s + i + k) x := by
      rw [lp_279_78, e2]
      dsimp only [bx]
      rw [e40, cl (by omega), ← hx]
    obtain ⟨I4, hI4⟩ : ∃ I4, I4 = up2 I1 (58 + 4 * s + 2) (i + k) x := ⟨_, rfl⟩
    obtain ⟨J4, hJ4⟩ : ∃ J4, J4 = up2 J1 114 (40 * s + i + k) x := ⟨_, rfl⟩
    rw [← hI4] at s1
    rw [← hJ4] at s2
    have fI4 : ∀ c j, ¬ (c = 58 + 4 * s + 2 ∧ j = i + k) → I4 c j = I1 c j := fun c j y => by rw [hI4, up2_nk y]
    have fJ4 : ∀ c j, ¬ (c = 114 ∧ j = 40 * s + i + k) → J4 c j = J1 c j := fun c j y => by rw [hJ4, up2_nk y]
    have hp4 : kHp s n I4 J4 F G := by
      have w := wr_rel (J' := J4) (G' := G) (show i + k < n by omega) hp1 x (fun c j y => fJ4 c j (by omega)) (fun _ _ => rfl) (fun _ => by rw [show 40 * s + (i + k) = 40 * s + i + k by omega, hJ4, up2_pt, sh8 q4]) (fun z => by rw [j21] at z; exact absurd z (by decide)) (fun z => by rw [j21] at z; exact absurd z (by decide))
      rw [c47, sh8 q4, ← hI4] at w
      exact w
    have j41 : J4 111 s = 1 := (fJ4 _ _ (by omega)).trans j11
    have j42 : J4 112 s = 1 := (fJ4 _ _ (by omega)).trans j21
    have hh4 : kHs I4 J4 F G := kHs_one hs hh1 (p_kH j41 hp4) (fun c j y1 y2 y3 => fI4 c j (by omega)) (fun _ _ _ _ _ => rfl) (fun c j y1 y2 => fJ4 c j (by omega)) (fun c j y1 y2 => fJ4 c j (by omega)) (fun _ _ => rfl)
    refine ⟨fun i' hi => ?_, fun i' hi => ?_, I4, J4, s1, s2, hh4, hp4, j41, j42, fun c j y => by rw [fI4 c j (by omega), fI c j y], fun c j y => by rw [fJ4 c j (by omega), fJ c j y]⟩
    · by_cases z : i' = k
      · subst z
        rw [bxd, e1]
        dsimp only [bx]
        rw [es, ek, q3]
        exact ⟨vin hs (by omega), q1, g47 (by omega) _⟩
      · exact g1 i' (by omega)
    · by_cases z : i' = k
      · subst z
        rw [bxd, e2, e40]
        exact ⟨q2, vin (by omega) (by omega)⟩
      · exact g2 i' (by omega)
theorem n3r {n : Nat} (hn : n ≤ 40) (x : Int32) : (v_48 I 0 x 3 = v_48 I 0 x 3) ∧ ((¬ x < 0 ∧ x ≤ nI n - 3) ↔ (0 ≤ x.toInt ∧ x.toInt + 3 ≤ n)) := by
  have t3 : (3 : Int32).toInt = 3 := by decide
  have t0 : (0 : Int32).toInt = 0 := by decide
  have tn := nI_toInt (n := n) (by omega)
  refine ⟨rfl, ?_⟩
  rw [Int32.lt_iff_toInt_lt, Int32.le_iff_toInt_le, ti_sub (by omega) (by omega), t3, t0, tn]
  omega
theorem op_code (h : kR 1 nv nc tc I J) (hh : kHs I J F G) (x1 x2 x3 : Int32) : g_165 I F x1 x2 x3 ∧ g_279 J x1 x2 x3 ∧ (v_165 I F x1 x2 x3).1 = (v_279 J x1 x2 x3).1 ∧ kHs (v_165 I F x1 x2 x3).2.1 (v_279 J x1 x2 x3).2 (v_165 I F x1 x2 x3).2.2 G := by
  obtain ⟨hA, hQ, hC, hB, hP, hV, hN, -⟩ := h
  have h12 := hV.1
  have h4 := hC.1
  obtain ⟨q1, q2⟩ := e110 hV x1
  have t3 : (3 : Int32).toInt = 3 := by decide
  have c3' : (3 : Int32).toNatClampNeg = 3 := rfl
  unfold g_165 g_279 v_165 v_279 g_158
  rw [q1, q2, c3']
  rcases sh4 x2 with ⟨e, e', s, hs, rfl⟩ | ⟨e, e'⟩
  rotate_left
  · rw [e, e', if_pos (rfl : (0 : Int32) = 0), if_pos (rfl : (0 : Int32) = 0)]
    exact ⟨fun q => absurd rfl q, fun q => absurd rfl q, rfl, hh⟩
  rw [e, e', if_neg d10, if_neg d10]
  rcases vnum (nv := nv) (by omega) x1 with ⟨y1, v, hv, rfl⟩ | y1
  rotate_left
  · rw [y1, if_neg d00, if_neg d00]
    exact ⟨fun _ q => absurd rfl q, fun _ q => absurd rfl q, rfl, hh⟩
  rw [y1, if_pos d10, if_pos d10]
  have ev : (nI v).toNatClampNeg = v := cl (by omega)
  have es : (nI s).toNatClampNeg = s := cl (by omega)
  rw [ev, es, (hV.2.2.2.1 v (by omega)).2.2]
  have v12 : vp_in (nI v) 12 := vin (by omega) (by omega)
  have s4 : vp_in (nI s) 4 := vin hs (by omega)
  rcases hV.2.2.2.2.1 v hv with ⟨a, -⟩ | ⟨c, hc, he⟩
  · rw [a, if_neg (nn rfl), if_neg (nn rfl)]
    exact ⟨fun _ _ => ⟨v12, fun q => absurd rfl q⟩, fun _ _ => ⟨v12, fun q => absurd rfl q⟩, rfl, hh⟩
  have nc1 : ¬ nI c = -1 := nIm1 (by omega)
  rw [he, if_pos nc1, if_pos nc1]
  rcases kH_p (hh s hs) with ⟨h1, h2, h3⟩ | ⟨h1, n, hp⟩
  · rw [v158_m hs e h2, h1, if_neg (show ¬ (-11 : Int32) = 0 by decide), if_neg d00]
    exact ⟨fun _ _ => ⟨v12, fun _ => ⟨fun _ => s4, fun q => absurd q (by decide)⟩⟩, fun _ _ => ⟨v12, fun _ => ⟨s4, fun q => absurd rfl q⟩⟩, rfl, hh⟩
  have hne := kHp_ne hp
  have hp2 := hp
  obtain ⟨hn, k2, k3, k4, -⟩ := hp2
  rw [v158_p hs e hne, h1, if_pos d10, k4, k3]
  by_cases z : J 112 s = 1
  rotate_left
  · have z' : ¬ ((1 : Int32) = 3 ∨ (1 : Int32) = J 112 s) := fun q => q.elim (fun q => absurd q (by decide)) (fun q => z q.symm)
    rw [if_neg z', if_neg z, if_neg (show ¬ (-13 : Int32) = 0 by decide)]
    exact ⟨fun _ _ => ⟨v12, fun _ => ⟨fun _ => s4, fun q => absurd q (by decide)⟩⟩, fun _ _ => ⟨v12, fun _ => ⟨s4, fun _ => ⟨s4, fun q => absurd q z⟩⟩⟩, rfl, hh⟩
  have z' : (1 : Int32) = 3 ∨ (1 : Int32) = J 112 s := Or.inr z.symm
  rw [if_pos z', if_pos z]
  have hr := (n3r (I := I) hn x3).2
  rcases run_n (I := I) (b := 58 + 4 * s) k2 hn x3 3 with ⟨u, u1, u2, u3⟩ | ⟨u, u1⟩
  · rw [t3] at u3
    obtain ⟨w1, w2⟩ := hr.mpr ⟨u1, u3⟩
    obtain ⟨i, hi, rfl⟩ : ∃ i : Nat, i + 3 ≤ n ∧ x3 = nI i := ⟨x3.toInt.toNat, by omega, ti_eq (by omega)⟩
    obtain ⟨g1, g2, I', J', e1, e2, r1, -⟩ := code_lp hs hA hC hP hV hv hc he hi hh hp h1 z 3 (Nat.le_refl _)
    rw [u, if_neg d10, if_pos rfl, if_neg w1, if_pos w2, e1, e2]
    dsimp only [bx]
    exact ⟨fun _ _ => ⟨v12, fun _ => ⟨fun _ => s4, fun _ => g1⟩⟩, fun _ _ => ⟨v12, fun _ => ⟨s4, fun _ => ⟨s4, fun _ _ => ⟨s4, fun _ => g2⟩⟩⟩⟩, rfl, r1⟩
  · rw [u, if_pos rfl, if_neg (show ¬ (-12 : Int32) = 0 by decide)]
    have nw : ¬ (¬ x3 < 0 ∧ x3 ≤ nI n - 3) := fun q => u1 (by
      obtain ⟨w1, w2⟩ := hr.mp q
      rw [t3]
      exact ⟨w1, by omega, w2⟩)
    refine ⟨fun _ _ => ⟨v12, fun _ => ⟨fun _ => s4, fun q => absurd q (by decide)⟩⟩, fun _ _ => ⟨v12, fun _ => ⟨s4, fun _ => ⟨s4, fun _ w1 => ⟨s4, fun w2 => absurd ⟨w1, w2⟩ nw⟩⟩⟩⟩, ?_, ?_⟩
    · by_cases w1 : x3 < 0
      · rw [if_pos w1]
      · rw [if_neg w1, if_neg (fun w2 => nw ⟨w1, w2⟩)]
    · by_cases w1 : x3 < 0
      · rw [if_pos w1]; exact hh
      · rw [if_neg w1, if_neg (fun w2 => nw ⟨w1, w2⟩)]; exact hh
end
