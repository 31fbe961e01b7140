section
variable {S : Nat → List Int32 × List Int32} {b nv nc tc r m s n : Nat} {I J I' J' : WI} {L L' : WL} {F G : WF}
/-! film -/
def RXf (J J' : WI) : Prop := ∀ c k, c ≠ 79 → ¬ (c = 74 ∧ ((19 ≤ k ∧ k ≤ 33) ∨ (46 ≤ k ∧ k ≤ 48))) → c ≠ 88 → c ≠ 89 → ¬ (96 ≤ c ∧ c ≤ 99) → c < 100 → J' c k = J c k
/-- kept, thought, given back -/
theorem back_Q2 (h4 : nc ≤ 4) (hB : kB b nc I J) {Q : WI} (hQ : RXf (v_234 J) Q) : (∀ c k, KC nc c k → v_235 Q c k = J c k) ∧ (∀ c k, ¬ (79 ≤ c ∧ c ≤ 83) → c ≠ 86 → v_235 Q c k = Q c k) := by
  obtain ⟨k1, k2, k3, k4⟩ := v234_pt (J := J)
  obtain ⟨u1, u2, u3, u4⟩ := v235_pt (J := Q)
  have F : ∀ q j, q < 90 → q ≠ 79 → q ≠ 80 → q ≠ 81 → q ≠ 82 → q ≠ 83 → q ≠ 86 → q ≠ 88 → q ≠ 89 → ¬ (q = 74 ∧ ((19 ≤ j ∧ j ≤ 33) ∨ (46 ≤ j ∧ j ≤ 48))) → v_235 Q q j = J q j := fun q j a0 a1 a2 a3 a4 a5 a6 a7 a8 a9 => by
    rw [u1 q j a1 a2 a3 a4 a5 a6, hQ q j a1 a9 a7 a8 (by omega) (by omega), k1 q j (Or.inl a0)]
  have G : ∀ q j, 90 ≤ q → q ≤ 95 → Q q j = v_234 J q j := fun q j a1 a2 => hQ q j (by omega) (by omega) (by omega) (by omega) (by omega) (by omega)
  have R : ∀ j, j < 12 → v_235 Q 80 j = J 80 j ∧ v_235 Q 81 j = J 81 j ∧ v_235 Q 82 j = J 82 j ∧ v_235 Q 86 j = J 86 j := fun j hj => by
    obtain ⟨a1, a2, a3, a4⟩ := u2 j hj
    obtain ⟨c1, c2, c3, c4⟩ := k2 j hj
    rw [a1, a2, a3, a4, G 90 j (by omega) (by omega), G 91 j (by omega) (by omega), G 92 j (by omega) (by omega), G 94 j (by omega) (by omega)]
    exact ⟨c1, c2, c3, c4⟩
  refine ⟨fun c k hk => ?_, fun c k a1 a2 => u1 c k (by omega) (by omega) (by omega) (by omega) (by omega) a2⟩
  rcases hk with ⟨rfl, hk⟩ | ⟨rfl, hk⟩ | ⟨rfl, hk⟩ | ⟨hc, hk⟩ | ⟨rfl, hk⟩ | ⟨rfl, hk⟩ | ⟨hc, hk⟩
  · exact F 74 k (by omega) (by omega) (by omega) (by omega) (by omega) (by omega) (by omega) (by omega) (by omega) (by omega)
  · exact F 78 k (by omega) (by omega) (by omega) (by omega) (by omega) (by omega) (by omega) (by omega) (by omega) (by omega)
  · rw [u4 k hk, G 95 k (by omega) (by omega), k4 k hk]
  · rcases hc with rfl | rfl | rfl
    · exact (R k hk).1
    · exact (R k hk).2.1
    · exact (R k hk).2.2.1
  · rw [u3 k (by omega), G 93 k (by omega) (by omega), k3 k (by omega)]
    rcases hB k hk with ⟨z, -⟩ | ⟨z, -⟩ <;> rw [z] <;> decide
  · exact F 84 k (by omega) (by omega) (by omega) (by omega) (by omega) (by omega) (by omega) (by omega) (by omega) (by omega)
  · rcases hc with rfl | rfl | rfl
    · exact F 85 k (by omega) (by omega) (by omega) (by omega) (by omega) (by omega) (by omega) (by omega) (by omega) (by omega)
    · exact (R k hk).2.2.2
    · exact F 87 k (by omega) (by omega) (by omega) (by omega) (by omega) (by omega) (by omega) (by omega) (by omega) (by omega)
theorem st152 {v3 k : Nat} {p : WI × WF} (h : lp_152_66 I F v3 k = p) : lp_152_66 I F v3 (k + 1) = v_47 (v_78 p.1 21 (nI k)) p.2 v3 (nI k) (v_23 (v_78 p.1 21 (nI k)) 21) := by
  rw [lp_152_66, h]
  dsimp only [bx]
theorem st266 {x1 : Int32} {k : Nat} {p : WI × WL} (h : lp_266_36 J L x1 k = p) : lp_266_36 J L x1 (k + 1) = (up2 (v_255 (v_257 p.1 (nI k)) p.2).2.1 114 ((40 * x1) + (nI k)).toNatClampNeg (v_255 (v_257 p.1 (nI k)) p.2).1, (v_255 (v_257 p.1 (nI k)) p.2).2.2) := by
  have e : lp_266_36 J L x1 (k + 1) = st_266_36 J L x1 k p := by rw [← h]; rfl
  rw [e]
  unfold st_266_36
  dsimp only [bx]
theorem sh16 {x : Int32} (h : x = -1 ∨ ∃ f, f < 12 ∧ x = nI f) : Int16.toInt32 (Int32.toInt16 x) = x ∧ bt (-32768) 32767 x := by
  rcases h with rfl | ⟨f, hf, rfl⟩
  · exact ⟨by decide, by decide, by decide⟩
  · have key : ∀ f, f < 12 → Int16.toInt32 (Int32.toInt16 (nI f)) = nI f := by decide
    have t := nI_toInt (n := f) (by omega)
    exact ⟨key f hf, by omega, by omega⟩
theorem film_lp (hs : s < 4) (hn : n ≤ 12) {I0 J0 : WI} (h : TQ S 21 nv nc tc r m I0 J0 L) (hh : kHs I0 J0 F G) (hp : kHp s n I0 J0 F G) (h1 : J0 111 s = 1) (h2 : J0 112 s = 2) : ∀ k, k ≤ n → gl_152_66 I0 F (58 + 4 * s) k ∧ gl_266_36 J0 L (nI s) k ∧
    ∃ (I' J' : WI) (L' : WL), lp_152_66 I0 F (58 + 4 * s) k = (I', F) ∧ lp_266_36 J0 L (nI s) k = (J', L') ∧ TQ S 21 nv nc tc r m I' J' L' ∧ kHs I' J' F G ∧ kHp s n I' J' F G ∧ J' 111 s = 1 ∧ J' 112 s = 2 ∧ RXf J0 J' ∧ (∀ c k, (100 ≤ c → ¬ (111 ≤ c ∧ c ≤ 116) → J' c k = J0 c k)) := by
  intro k
  induction k with
  | zero => exact fun _ => ⟨fun i hi => absurd hi (Nat.not_lt_zero _), fun i hi => absurd hi (Nat.not_lt_zero _), I0, J0, L, rfl, rfl, h, hh, hp, h1, h2, fun _ _ _ _ _ _ _ _ => rfl, fun _ _ _ _ => rfl⟩
  | succ k ih =>
    intro hk
    obtain ⟨g1, g2, I1, J1, L1, e1, e2, tq, hh1, hp1, j1, j2, rx, r100⟩ := ih (by omega)
    have s1 := st152 e1
    have s2 := st266 e2
    dsimp only at s1 s2
    obtain ⟨q1, q2, th, fI, rw1⟩ := TQ_stand (by omega) tq (show k < 12 by omega)
    obtain ⟨I2, hI2⟩ : ∃ I2, I2 = v_78 I1 21 (nI k) := ⟨_, rfl⟩
    obtain ⟨J2, hJ2⟩ : ∃ J2, J2 = v_257 J1 (nI k) := ⟨_, rfl⟩
    rw [← hI2] at fI th s1
    rw [← hJ2] at rw1 th s2
    obtain ⟨f1, f2, J3, L3, f3, f4, f5, f6⟩ := firstB (by omega) th
    rw [f3] at s2
    dsimp only at s2
    have th3 : TQ S 21 nv nc tc r m I2 J3 L3 := TQ_of (TH_J th (RY_of f4) f5)
    have rw3 : RW J1 J3 := fun c k x1 x2 x3 x4 x5 => by
      rw [f4 c k (by omega) x3 x4 (by omega)]; exact rw1 c k x1 x2 x3 x4 x5
    have h12 : nv ≤ 12 := (TQ_k tq).2.2.2.2.1.1
    obtain ⟨u1, u2⟩ := sh16 (x := v_23 I2 21) (f6.imp id (fun ⟨f, a, b⟩ => ⟨f, by omega, b⟩))
    obtain ⟨x, hx⟩ : ∃ x, x = v_23 I2 21 := ⟨_, rfl⟩
    rw [← hx] at u1 u2 s1 s2
    have es := in160 hs (show k < 40 by omega)
    rw [es.2] at s2
    have b0 : I2 (58 + 4 * s) 0 = 2 := by rw [fI _ _ (by omega), hp1.2.2.2.1, j2]
    have c47 := v47_2 (I := I2) (F := F) (b := 58 + 4 * s) (i := k) (by omega) b0 x
    rw [c47, u1] at s1
    obtain ⟨I4, hI4⟩ : ∃ I4, I4 = up2 I2 (58 + 4 * s + 3) k x := ⟨_, rfl⟩
    obtain ⟨J4, hJ4⟩ : ∃ J4, J4 = up2 J3 114 (40 * s + k) x := ⟨_, rfl⟩
    rw [← hI4] at s1
    rw [← hJ4] at s2
    have fI4 : ∀ c j, ¬ (c = 58 + 4 * s + 3 ∧ j = k) → I4 c j = I2 c j := fun c j y => by rw [hI4, up2_nk y]
    have fJ4 : ∀ c j, ¬ (c = 114 ∧ j = 40 * s + k) → J4 c j = J3 c j := fun c j y => by rw [hJ4, up2_nk y]
    have hp3 : kHp s n I2 J3 F G := kHp_cg hs hp1 (fun c j y1 y2 => fI c j (by omega)) (fun c j y1 y2 => rw3 c j (by omega) (by omega) (by omega) (by omega) (by omega))
    have j2' : J3 112 s = 2 := (rw3 112 s (by omega) (by omega) (by omega) (by omega) (by omega)).trans j2
    have j1' : J3 111 s = 1 := (rw3 111 s (by omega) (by omega) (by omega) (by omega) (by omega)).trans j1
    have hp4 : kHp s n I4 J4 F G := by
      have w := wr_rel (J' := J4) (G' := G) (show k < n by omega) hp3 x (fun c j y => fJ4 c j (by omega)) (fun _ _ => rfl) (fun z => by rw [j2'] at z; exact absurd z (by decide)) (fun _ => by rw [hJ4, up2_pt, u1]) (fun z => by rw [j2'] at z; exact absurd z (by decide))
      rw [c47, u1, ← hI4] at w
      exact w
    have j41 : J4 111 s = 1 := (fJ4 _ _ (by omega)).trans j1'
    have j42 : J4 112 s = 2 := (fJ4 _ _ (by omega)).trans j2'
    have hh4 : kHs I4 J4 F G := kHs_one hs hh1 (p_kH j41 hp4) (fun c j y1 y2 y3 => by rw [fI4 c j (by omega), fI c j (by omega)]) (fun _ _ _ _ _ => rfl) (fun c j y1 y2 => by rw [fJ4 c j (by omega), rw3 c j (by omega) (by omega) (by omega) (by omega) (by omega)]) (fun c j y1 y2 => by rw [fJ4 c j (by omega), rw3 c j (by omega) (by omega) (by omega) (by omega) (by omega)]) (fun _ _ => rfl)
    have tq4 : TQ S 21 nv nc tc r m I4 J4 L3 := TQ_J (TQ_I (by omega) th3 (fun c j y1 y2 y3 => fI4 c j (by omega))) (fun c j y => fJ4 c j (by
      rcases y with ⟨rfl, -⟩ | ⟨rfl, -⟩ | ⟨rfl, -⟩ | ⟨hc, -⟩ | ⟨rfl, -⟩ | ⟨rfl, -⟩ | ⟨hc, -⟩ <;> omega)) (fun c j y => fJ4 c j (by omega)) (kM_cg f5 (fun j => fJ4 _ _ (by omega)))
    refine ⟨fun i hi => ?_, fun i hi => ?_, I4, J4, L3, s1, s2, tq4, hh4, hp4, j41, j42, fun c j y1 y2 y3 y4 y5 y6 => ?_, fun c j y1 y2 => ?_⟩
    · by_cases z : i = k
      · subst z
        rw [bxd, e1]
        dsimp only [bx]
        rw [← hI2]
        exact ⟨q1, f1, g47 (by omega) _⟩
      · exact g1 i (by omega)
    · by_cases z : i = k
      · subst z
        rw [bxd, e2]
        dsimp only [bx]
        rw [← hJ2]
        exact ⟨q2, f2, es.1⟩
      · exact g2 i (by omega)
    · rw [fJ4 c j (by omega), rw3 c j y1 y2 y3 y4 y5, rx c j y1 y2 y3 y4 y5 y6]
    · rw [fJ4 c j (by omega), rw3 c j (by omega) (by omega) (by omega) (by omega) (by omega), r100 c j y1 y2]
theorem op_film (h : WJ S 1 nv nc tc r I J L) (h9 : I 0 9 = nI tc) (hh : kHs I J F G) (x1 x2 : Int32) : g_152 I F x1 x2 ∧ g_266 J G L x1 x2 ∧ (v_152 I F x1 x2).1 = (v_266 J G L x1 x2).1 ∧ WJ S 1 nv nc tc r (v_152 I F x1 x2).2.1 (v_266 J G L x1 x2).2.1 (v_266 J G L x1 x2).2.2.2 ∧ kHs (v_152 I F x1 x2).2.1 (v_266 J G L x1 x2).2.1 (v_152 I F x1 x2).2.2 (v_266 J G L x1 x2).2.2.1 := by
  have k2 : v_170 (Int32.toInt64 x2) 0 12 = v_107 x2 0 12 := v170_107 x2 0 12
  rcases sh4 x1 with ⟨e1, e2, s, hs, rfl⟩ | ⟨e1, e2⟩
  rotate_left
  · unfold g_152 g_266 v_152 v_266
    rw [e1, e2, if_pos (rfl : (0 : Int32) = 0), if_pos (rfl : (0 : Int32) = 0)]
    exact ⟨fun q => absurd rfl q, fun q => absurd rfl q, rfl, h, hh⟩
  rcases vnum (nv := 13) (by omega) x2 with ⟨y2, n, hn, rfl⟩ | y2
  rotate_left
  · rw [show nI 13 - 1 = 12 by decide] at y2
    unfold g_152 g_266 v_152 v_266
    rw [k2, e1, e2, y2, if_neg d10, if_neg d00, if_neg d10, if_neg d00]
    exact ⟨fun _ q => absurd rfl q, fun _ q => absurd rfl q, rfl, h, hh⟩
  rw [show nI 13 - 1 = 12 by decide] at y2
  have es : (nI s).toNatClampNeg = s := cl (by omega)
  have en : (nI n).toNatClampNeg = n := cl (by omega)
  obtain ⟨A, m, hA, a1, a2, a3, a4, th1, th21, fr, wA⟩ := TH_w h h9
  obtain ⟨l1, l2⟩ := v76_pt (I := A) (b := 21) (r := 1) (by omega)
  obtain ⟨I0, hI0⟩ : ∃ I0, I0 = v_76 A 21 1 := ⟨_, rfl⟩
  rw [← hI0] at th21 l1 l2
  have i0 : ∀ c k, (c < 21 ∨ 38 ≤ c) → I0 c k = I c k := fun c k z => by rw [l2 c k (by omega), fr c k (by omega) (by omega) (by omega)]
  have hh0 : kHs I0 J F G := kHs_cg hh (fun c k y1 y2 => i0 c k (by omega)) (fun _ _ _ _ => rfl) (fun _ _ _ => rfl) (fun _ => rfl)
  obtain ⟨o1, o2, o3, o4⟩ := op_sheet hh0 (nI s) 2 (nI n)
  obtain ⟨I1, F1, hI1⟩ : ∃ I1 F1, v_46 I0 F (58 + 4 * s) 2 (nI n) = (I1, F1) := ⟨_, _, rfl⟩
  have n40 : nI n ≤ 40 := by
    have t : (40 : Int32).toInt = 40 := by decide
    rw [Int32.le_iff_toInt_le, nI_toInt (by omega), t]; omega
  have n0 : 0 ≤ nI n := by
    have t : (0 : Int32).toInt = 0 := by decide
    rw [Int32.le_iff_toInt_le, nI_toInt (by omega), t]; omega
  have v156 : v_156 I0 F (nI s) 2 (nI n) = (1, I1, F1) := by
    unfold v_156
    rw [e1, if_neg d10, show v_107 2 (-1) 2 = 1 by decide, if_pos d10, if_neg (show ¬ (2 : Int32) = -1 by decide), if_pos n40, if_neg (show ¬ (2 : Int32) = -1 by decide), if_pos n0]
    dsimp only [bx]
    rw [es, hI1]
  have g46' : g_46 I0 F (58 + 4 * s) 2 (nI n) := by
    have := o1
    unfold g_156 at this
    have := (this (by rw [e1]; exact d10) (by decide)).2 (by decide) n40
    have := (this.2 (by decide) n0).2
    dsimp only [bx] at this
    rw [es] at this
    exact this
  obtain ⟨z267, J1, G1, hJ1⟩ : ∃ z J1 G1, v_267 J G (nI s) 2 (nI n) = (z, J1, G1) := ⟨_, _, _, rfl⟩
  rw [v156, hJ1] at o4
  dsimp only at o4
  have fJ1 : ∀ c k, ¬ (111 ≤ c ∧ c ≤ 116) → J1 c k = J c k := fun c k y => by
    have := frI_v_267 (I := J) (F := G) (x1 := nI s) (x2 := 2) (x3 := nI n) (c := c) (k := k) (by omega) (by omega) (by omega) (by omega) (by omega) (by omega)
    rw [hJ1] at this
    exact this
  have fI1 : ∀ c k, c < 57 → I1 c k = I0 c k := fun c k y => by
    have := frI_v_46 (I := I0) (F := F) (b := 58 + 4 * s) (x1 := 2) (x2 := nI n) (c := c) (k := k) (by omega) (by omega) (by omega) (by omega)
    rw [hI1] at this
    exact this
  -- the sheet as it became
  have sz : I1 (58 + 4 * s) 0 = 2 ∧ I1 (58 + 4 * s) 1 = nI n := by
    have z0 := (zeroC (I := up2 (up2 I0 (58 + 4 * s) 0 2) (58 + 4 * s) 1 (nI n)) (F := F) (b := 58 + 4 * s) n (by omega)).1
    have e0 : (if ¬ (2 : Int32) = -1 then v_283 0 (v_282 (nI n) 40) else 0) = nI n := by rw [if_pos (by decide)]; exact clip (by omega)
    have hI1' := hI1
    unfold v_46 at hI1'
    dsimp only [bx] at hI1'
    rw [e0, up2_pt, en] at hI1'
    have eI := congrArg Prod.fst hI1'
    dsimp only at eI
    rw [← eI, z0 _ _ (by omega), z0 _ _ (by omega), up2_nk (by omega), up2_pt, up2_pt]
    exact ⟨rfl, rfl⟩
  have hp1 : J1 111 s = 1 ∧ kHp s n I1 J1 F1 G1 ∧ J1 112 s = 2 := by
    rcases kH_p (o4 s hs) with ⟨-, q, -⟩ | ⟨q, n', hp⟩
    · rw [sz.1] at q; exact absurd q (by decide)
    · have e : n' = n := by
        have := hp.2.1
        rw [sz.2] at this
        have hn' := hp.1
        exact ((nI_eq (by omega) (by omega)).mp this).symm
      subst e
      exact ⟨q, hp, by rw [← hp.2.2.2.1]; exact sz.1⟩
  obtain ⟨p1, p2, p3⟩ := hp1
  have hM := h.2.2.2.1
  have kcJ : ∀ c k, KC nc c k → J1 c k = J c k := fun c k y => fJ1 c k (by
    rcases y with ⟨rfl, -⟩ | ⟨rfl, -⟩ | ⟨rfl, -⟩ | ⟨hc, -⟩ | ⟨rfl, -⟩ | ⟨rfl, -⟩ | ⟨hc, -⟩ <;> omega)
  have tq1 : TQ S 21 nv nc tc r m I1 J1 L := TQ_J (TQ_I (by omega) (TQ_of th21) (fun c k y1 y2 y3 => fI1 c k (by omega))) kcJ (fun c k y => fJ1 c k (by omega)) (kM_cg hM (fun j => fJ1 _ _ (by omega)))
  obtain ⟨k1, k2', k3, k4⟩ := v234_pt (J := J1)
  have kcq : ∀ c k, KC nc c k → v_234 J1 c k = J1 c k := fun c k hk => k1 c k (by
    rcases hk with ⟨rfl, -⟩ | ⟨rfl, -⟩ | ⟨rfl, -⟩ | ⟨hc, -⟩ | ⟨rfl, -⟩ | ⟨rfl, -⟩ | ⟨hc, -⟩ <;> omega)
  have tq2 : TQ S 21 nv nc tc r m I1 (v_234 J1) L := TQ_J tq1 kcq (fun c k x => k1 c k (by omega)) (kM_cg (TQ_M tq1) (fun j => k1 89 j (by omega)))
  have hh2 : kHs I1 (v_234 J1) F1 G1 := kHs_cg o4 (fun _ _ _ _ => rfl) (fun _ _ _ _ => rfl) (fun c k y => k1 c k (by omega)) (fun _ => rfl)
  have hp2 : kHp s n I1 (v_234 J1) F1 G1 := kHp_cg hs p2 (fun _ _ _ _ => rfl) (fun c k y1 y2 => k1 c k (by omega))
  obtain ⟨g1, g2, I', J', L', r1, r2, r3, r4, r5, r6, r7, r8', r9⟩ := film_lp hs (show n ≤ 12 by omega) tq2 hh2 hp2 ((k1 _ _ (by omega)).trans p1) ((k1 _ _ (by omega)).trans p3) n (Nat.le_refl _)
  obtain ⟨-, kC0, kB0, -⟩ := TQ_k tq1
  obtain ⟨b1, b2⟩ := back_Q2 kC0.1 kB0 r8'
  have vC : v_152 I F (nI s) (nI n) = (nI n, I', F1) := by
    unfold v_152
    rw [e1, if_neg d10, y2, if_pos d10]
    dsimp only [bx]
    rw [a1, ← hA, ← hI0, es, hI1, en, r1]
  have vR : v_266 J G L (nI s) (nI n) = (nI n, v_235 J', G1, L') := by
    unfold v_266
    rw [e2, if_neg d10, k2, y2, if_pos d10]
    dsimp only [bx]
    rw [hJ1]
    dsimp only
    rw [en, r2]
  have fI' : ∀ c k, (c < 21 ∨ (45 ≤ c ∧ c < 57)) → I' c k = I c k := fun c k y => by
    have := frI_v_152 (I := I) (F := F) (x1 := nI s) (x2 := nI n) (c := c) (k := k) (by omega) (by omega) (by omega) (by omega) (by omega) (by omega) (by omega) (by omega) (by omega) (by omega) (by omega) (by omega) (by omega) (by omega) (by omega) (by omega) (by omega)
    rw [vC] at this
    exact this
  refine ⟨?_, ?_, by rw [vC, vR], ?_, ?_⟩
  · unfold g_152
    dsimp only [bx]
    rw [a1, ← hA, ← hI0, es, hI1, en]
    exact fun _ _ => ⟨a2, a3, a4, vin hs (by omega), g46', g1⟩
  · unfold g_266
    dsimp only [bx]
    rw [hJ1]
    dsimp only
    rw [en, r2]
    exact fun _ _ => ⟨o2, (g_keep (J := J1)).1, g2, (g_keep (J := J')).2⟩
  · rw [vC, vR]
    exact WJ_in h fI' (fun c k y => (b1 c k y).trans (kcJ c k y)) (fun c k y => by
      show v_235 J' c k = J c k
      rw [b2 c k (by omega) (by omega), r8' c k (by omega) (by omega) (by omega) (by omega) (by omega) (by omega), k1 c k (by omega), fJ1 c k (by omega)]) (kM_cg (TQ_M r3) (fun j => b2 89 j (by omega) (by omega)))
  · rw [vC, vR]
    exact kHs_cg r4 (fun _ _ _ _ => rfl) (fun _ _ _ _ => rfl) (fun c k y => b2 c k (by omega) (by omega)) (fun _ => rfl)
end
