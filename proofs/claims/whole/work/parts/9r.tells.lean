section
variable {S : Nat → List Int32 × List Int32} {nv nc tc r : Nat} {I J : WI} {L : WL} {F G : WF}
/-! tells -/
theorem RB_rf : RB nc J J := ⟨fun _ _ _ => rfl, fun _ _ _ _ _ _ => rfl⟩
theorem le12 {n : Nat} (hn : n ≤ 40) : nI n ≤ 12 ↔ n ≤ 12 := by
  have t : (12 : Int32).toInt = 12 := by decide
  rw [Int32.le_iff_toInt_le, nI_toInt (by omega), t]
  omega
theorem cn1 (n : Nat) (h : n < 100) : ((nI n - 1).toInt + 1 - (0 : Int32).toInt).toNat = n ∧ (nI n - 1).toInt < 2147483647 := by
  have t0 : (0 : Int32).toInt = 0 := by decide
  rw [show (1 : Int32) = nI 1 from rfl, pk_sub_toInt (by omega) (by omega), t0]
  omega
def tlsS (S : Nat → List Int32 × List Int32) (nc tc : Nat) (I J : WI) (F G : WF) (L : WL) (x1 x2 : Int32) : Prop := g_145 I F x1 x2 ∧ g_261 J G L x1 x2 ∧ (v_145 I F x1 x2).1 = (v_261 J G L x1 x2).1 ∧ RB nc J (v_261 J G L x1 x2).2.1 ∧ kM S tc (v_261 J G L x1 x2).2.1 (v_261 J G L x1 x2).2.2
theorem tls_0 (h : WJ S 1 nv nc tc r I J L) (h9 : I 0 9 = nI tc) (h3 : J 74 3 = nI tc) {s n : Nat} (hs : s < 4) (e1 : v_146 (nI s) = 1) (e2 : v_262 (nI s) = 1) (k1 : J 111 s = 1) (hp : kHp s n I J F G) (hn : n ≤ 12) : tlsS S nc tc I J F G L (nI s) 0 := by
  have es : (nI s).toNatClampNeg = s := cl (by omega)
  have e44 : v_44 I (58 + 4 * s) = 0 := v44_p (kHp_ne hp)
  have n12 : nI n ≤ 12 := (le12 hp.1).mpr hn
  obtain ⟨A, m, hA, a1, a2, a3, a4, th1, th21, fr, wA⟩ := TH_w h h9
  obtain ⟨l1, l2⟩ := v76_pt (I := A) (b := 21) (r := 1) (by omega)
  obtain ⟨I0, hI0⟩ : ∃ I0, I0 = v_76 A 21 1 := ⟨_, rfl⟩
  rw [← hI0] at th21 l1 l2
  have i0 : ∀ c k, (c < 21 ∨ 38 ≤ c) → I0 c k = I c k := fun c k z => by rw [l2 c k (by omega), fr c k (by omega) (by omega) (by omega)]
  have tq := TQ_of th21
  have hp0 : kHp s n I0 J F G := kHp_cg hs hp (fun c k y1 y2 => i0 c k (by omega)) (fun _ _ _ _ => rfl)
  obtain ⟨q1, q2, y, I', J', L', q3, q4, q5, q6, q7⟩ := fo hs hn tq hp0
  have vC : (v_145 I F (nI s) 0).1 = y := by
    unfold v_145
    rw [e1, if_neg d10, show v_107 0 0 4 = 1 by decide, if_pos d10]
    dsimp only [bx]
    rw [es, e44, if_pos (rfl : (0 : Int32) = 0), hp.2.1, if_pos n12, a1, ← hA, ← hI0, if_pos (rfl : (0 : Int32) = 0), q3]
  have vR : v_261 J G L (nI s) 0 = (y, J', L') := by
    unfold v_261
    rw [e2, if_neg d10, show v_170 (Int32.toInt64 0) 0 4 = 1 by decide, if_pos d10, es, k1, if_pos d10, hp.2.2.1, if_pos n12, if_neg (show ¬ ¬ (0 : Int32) = 0 by decide)]
    dsimp only [bx]
    rw [q4]
  refine ⟨?_, ?_, ?_, ?_, ?_⟩
  · unfold g_145
    rw [a1]
    dsimp only [bx]
    rw [es, ← hA, ← hI0]
    exact fun _ _ => ⟨vin hs (by omega), fun _ _ => ⟨a2, a3, a4, ⟨fun _ => q1, fun q => absurd rfl q⟩⟩⟩
  · unfold g_261
    dsimp only [bx]
    rw [es]
    refine fun _ _ => ⟨vin hs (by omega), fun _ => ⟨vin hs (by omega), fun _ => ?_⟩⟩
    exact ⟨fun q => absurd rfl q, fun _ => q2⟩
  · rw [vC, vR]
  · rw [vR]; exact q6
  · rw [vR]; exact q7
theorem tls_1 (h : WJ S 1 nv nc tc r I J L) (h9 : I 0 9 = nI tc) (h3 : J 74 3 = nI tc) {s n : Nat} (hs : s < 4) (e1 : v_146 (nI s) = 1) (e2 : v_262 (nI s) = 1) (k1 : J 111 s = 1) (hp : kHp s n I J F G) (hn : n ≤ 12) : tlsS S nc tc I J F G L (nI s) 1 := by
  have es : (nI s).toNatClampNeg = s := cl (by omega)
  have e44 : v_44 I (58 + 4 * s) = 0 := v44_p (kHp_ne hp)
  have n12 : nI n ≤ 12 := (le12 hp.1).mpr hn
  obtain ⟨A, m, hA, a1, a2, a3, a4, th1, th21, fr, wA⟩ := TH_w h h9
  obtain ⟨l1, l2⟩ := v76_pt (I := A) (b := 21) (r := 1) (by omega)
  obtain ⟨I0, hI0⟩ : ∃ I0, I0 = v_76 A 21 1 := ⟨_, rfl⟩
  rw [← hI0] at th21 l1 l2
  have i0 : ∀ c k, (c < 21 ∨ 38 ≤ c) → I0 c k = I c k := fun c k z => by rw [l2 c k (by omega), fr c k (by omega) (by omega) (by omega)]
  have tq := TQ_of th21
  have hp0 : kHp s n I0 J F G := kHp_cg hs hp (fun c k y1 y2 => i0 c k (by omega)) (fun _ _ _ _ => rfl)
  obtain ⟨q1, q2, y, I', J', L', q3, q4, q5, q6, q7⟩ := kinds_lp hs hn tq hp0 (x4 := 5) (by decide) 6 (Nat.le_refl _)
  have c6 : ((5 : Int32).toInt + 1 - (0 : Int32).toInt).toNat = 6 := by decide
  have gc : g_148 I0 F (58 + 4 * s) := by unfold g_148; rw [c6]; exact q1
  have vc : v_148 I0 F (58 + 4 * s) = (y, I') := by unfold v_148; rw [c6, q3]; rfl
  have vC : (v_145 I F (nI s) 1).1 = y := by
    unfold v_145
    rw [e1, if_neg d10, show v_107 1 0 4 = 1 by decide, if_pos d10]
    dsimp only [bx]
    rw [es, e44, if_pos (rfl : (0 : Int32) = 0), hp.2.1, if_pos n12, a1, ← hA, ← hI0, if_neg (show ¬ (1 : Int32) = 0 by decide), if_pos (rfl : (1 : Int32) = 1), vc]
  have vR : v_261 J G L (nI s) 1 = (y, J', L') := by
    unfold v_261
    rw [e2, if_neg d10, show v_170 (Int32.toInt64 1) 0 4 = 1 by decide, if_pos d10, es, k1, if_pos d10, hp.2.2.1, if_pos n12, if_pos (show ¬ (1 : Int32) = 0 by decide), if_neg (show ¬ ¬ (1 : Int32) = 1 by decide), if_pos (show ¬ (1 : Int32) = 3 by decide)]
    dsimp only [bx]
    rw [c6, q4]
  refine ⟨?_, ?_, ?_, ?_, ?_⟩
  · unfold g_145
    rw [a1]
    dsimp only [bx]
    rw [es, ← hA, ← hI0]
    exact fun _ _ => ⟨vin hs (by omega), fun _ _ => ⟨a2, a3, a4, ⟨fun q => absurd q (by decide), fun _ => ⟨fun _ => gc, fun q => absurd rfl q⟩⟩⟩⟩
  · unfold g_261
    dsimp only [bx]
    rw [es]
    refine fun _ _ => ⟨vin hs (by omega), fun _ => ⟨vin hs (by omega), fun _ => ?_⟩⟩
    refine ⟨fun _ => ?_, fun q => absurd (show ¬ (1 : Int32) = 0 by decide) q⟩
    rw [if_neg (show ¬ ¬ (1 : Int32) = 1 by decide), if_pos (show ¬ (1 : Int32) = 3 by decide), c6]
    exact q2
  · rw [vC, vR]
  · rw [vR]; exact q6
  · rw [vR]; exact q7
theorem tls_2 (h : WJ S 1 nv nc tc r I J L) (h9 : I 0 9 = nI tc) (h3 : J 74 3 = nI tc) {s n : Nat} (hs : s < 4) (e1 : v_146 (nI s) = 1) (e2 : v_262 (nI s) = 1) (k1 : J 111 s = 1) (hp : kHp s n I J F G) (hn : n ≤ 12) : tlsS S nc tc I J F G L (nI s) 2 := by
  have es : (nI s).toNatClampNeg = s := cl (by omega)
  have e44 : v_44 I (58 + 4 * s) = 0 := v44_p (kHp_ne hp)
  have n12 : nI n ≤ 12 := (le12 hp.1).mpr hn
  obtain ⟨A, m, hA, a1, a2, a3, a4, th1, th21, fr, wA⟩ := TH_w h h9
  obtain ⟨l1, l2⟩ := v76_pt (I := A) (b := 21) (r := 1) (by omega)
  obtain ⟨I0, hI0⟩ : ∃ I0, I0 = v_76 A 21 1 := ⟨_, rfl⟩
  rw [← hI0] at th21 l1 l2
  have i0 : ∀ c k, (c < 21 ∨ 38 ≤ c) → I0 c k = I c k := fun c k z => by rw [l2 c k (by omega), fr c k (by omega) (by omega) (by omega)]
  have tq := TQ_of th21
  have hp0 : kHp s n I0 J F G := kHp_cg hs hp (fun c k y1 y2 => i0 c k (by omega)) (fun _ _ _ _ => rfl)
  obtain ⟨Ig, wg, hg⟩ := th21.1
  obtain ⟨q1, q2, y, I', J', L', q3, q4, q5, q6, q7⟩ := texts_lp hs hn wg (fun c k _ _ y _ => hg c k y) hp0 (x4 := nI tc - 1) (cn1 tc (by have := h.2.2.1; omega)).2 tc (Nat.le_refl _)
  have c6 := (cn1 tc (by have := h.2.2.1; omega)).1
  have c9 : (I0 0 9).toNatClampNeg = tc := by rw [i0 0 9 (by omega), h9, cl (by have := h.2.2.1; omega)]
  have gc : g_149 I0 F (58 + 4 * s) := by unfold g_149; rw [c9]; exact q1
  have vc : v_149 I0 F (58 + 4 * s) = (y, I') := by unfold v_149; rw [c9, q3]; rfl
  have vC : (v_145 I F (nI s) 2).1 = y := by
    unfold v_145
    rw [e1, if_neg d10, show v_107 2 0 4 = 1 by decide, if_pos d10]
    dsimp only [bx]
    rw [es, e44, if_pos (rfl : (0 : Int32) = 0), hp.2.1, if_pos n12, a1, ← hA, ← hI0, if_neg (show ¬ (2 : Int32) = 0 by decide), if_neg (show ¬ (2 : Int32) = 1 by decide), if_pos (rfl : (2 : Int32) = 2), vc]
  have vR : v_261 J G L (nI s) 2 = (y, J', L') := by
    unfold v_261
    rw [e2, if_neg d10, show v_170 (Int32.toInt64 2) 0 4 = 1 by decide, if_pos d10, es, k1, if_pos d10, hp.2.2.1, if_pos n12, if_pos (show ¬ (2 : Int32) = 0 by decide), if_pos (show ¬ (2 : Int32) = 1 by decide), if_neg (show ¬ ¬ (2 : Int32) = 2 by decide), if_pos (show ¬ (2 : Int32) = 3 by decide)]
    dsimp only [bx]
    rw [h3]
    rw [c6, q4]
  refine ⟨?_, ?_, ?_, ?_, ?_⟩
  · unfold g_145
    rw [a1]
    dsimp only [bx]
    rw [es, ← hA, ← hI0]
    exact fun _ _ => ⟨vin hs (by omega), fun _ _ => ⟨a2, a3, a4, ⟨fun q => absurd q (by decide), fun _ => ⟨fun q => absurd q (by decide), fun _ => ⟨fun _ => gc, fun q => absurd rfl q⟩⟩⟩⟩⟩
  · unfold g_261
    dsimp only [bx]
    rw [es]
    refine fun _ _ => ⟨vin hs (by omega), fun _ => ⟨vin hs (by omega), fun _ => ?_⟩⟩
    refine ⟨fun _ => ?_, fun q => absurd (show ¬ (2 : Int32) = 0 by decide) q⟩
    rw [if_pos (show ¬ (2 : Int32) = 1 by decide), if_neg (show ¬ ¬ (2 : Int32) = 2 by decide), if_pos (show ¬ (2 : Int32) = 3 by decide), h3, c6]
    exact q2
  · rw [vC, vR]
  · rw [vR]; exact q6
  · rw [vR]; exact q7
theorem tls_3 (h : WJ S 1 nv nc tc r I J L) (h9 : I 0 9 = nI tc) (h3 : J 74 3 = nI tc) {s n : Nat} (hs : s < 4) (e1 : v_146 (nI s) = 1) (e2 : v_262 (nI s) = 1) (k1 : J 111 s = 1) (hp : kHp s n I J F G) (hn : n ≤ 12) : tlsS S nc tc I J F G L (nI s) 3 := by
  have es : (nI s).toNatClampNeg = s := cl (by omega)
  have e44 : v_44 I (58 + 4 * s) = 0 := v44_p (kHp_ne hp)
  have n12 : nI n ≤ 12 := (le12 hp.1).mpr hn
  obtain ⟨A, m, hA, a1, a2, a3, a4, th1, th21, fr, wA⟩ := TH_w h h9
  obtain ⟨l1, l2⟩ := v76_pt (I := A) (b := 21) (r := 1) (by omega)
  obtain ⟨I0, hI0⟩ : ∃ I0, I0 = v_76 A 21 1 := ⟨_, rfl⟩
  rw [← hI0] at th21 l1 l2
  have i0 : ∀ c k, (c < 21 ∨ 38 ≤ c) → I0 c k = I c k := fun c k z => by rw [l2 c k (by omega), fr c k (by omega) (by omega) (by omega)]
  have tq := TQ_of th21
  have hp0 : kHp s n I0 J F G := kHp_cg hs hp (fun c k y1 y2 => i0 c k (by omega)) (fun _ _ _ _ => rfl)
  obtain ⟨q1, q2, y, I', J', L', q3, q4, q5, q6, q7⟩ := weights_lp hs hn tq hp0 (x4 := 9) (by decide) 9 (Nat.le_refl _)
  have c6 : ((9 : Int32).toInt + 1 - (1 : Int32).toInt).toNat = 9 := by decide
  have gc : g_150 I0 F (58 + 4 * s) := by unfold g_150; rw [c6]; exact q1
  have vc : v_150 I0 F (58 + 4 * s) = (y, I') := by unfold v_150; rw [c6, q3]; rfl
  have vC : (v_145 I F (nI s) 3).1 = y := by
    unfold v_145
    rw [e1, if_neg d10, show v_107 3 0 4 = 1 by decide, if_pos d10]
    dsimp only [bx]
    rw [es, e44, if_pos (rfl : (0 : Int32) = 0), hp.2.1, if_pos n12, a1, ← hA, ← hI0, if_neg (show ¬ (3 : Int32) = 0 by decide), if_neg (show ¬ (3 : Int32) = 1 by decide), if_neg (show ¬ (3 : Int32) = 2 by decide), if_pos (rfl : (3 : Int32) = 3), vc]
  have vR : v_261 J G L (nI s) 3 = (y, J', L') := by
    unfold v_261
    rw [e2, if_neg d10, show v_170 (Int32.toInt64 3) 0 4 = 1 by decide, if_pos d10, es, k1, if_pos d10, hp.2.2.1, if_pos n12, if_pos (show ¬ (3 : Int32) = 0 by decide), if_pos (show ¬ (3 : Int32) = 1 by decide), if_pos (show ¬ (3 : Int32) = 2 by decide), if_neg (show ¬ ¬ (3 : Int32) = 3 by decide), if_neg (show ¬ ¬ (3 : Int32) = 3 by decide)]
    dsimp only [bx]
    rw [c6, q4]
  refine ⟨?_, ?_, ?_, ?_, ?_⟩
  · unfold g_145
    rw [a1]
    dsimp only [bx]
    rw [es, ← hA, ← hI0]
    exact fun _ _ => ⟨vin hs (by omega), fun _ _ => ⟨a2, a3, a4, ⟨fun q => absurd q (by decide), fun _ => ⟨fun q => absurd q (by decide), fun _ => ⟨fun q => absurd q (by decide), fun _ => ⟨fun _ => gc, fun q => absurd rfl q⟩⟩⟩⟩⟩⟩
  · unfold g_261
    dsimp only [bx]
    rw [es]
    refine fun _ _ => ⟨vin hs (by omega), fun _ => ⟨vin hs (by omega), fun _ => ?_⟩⟩
    refine ⟨fun _ => ?_, fun q => absurd (show ¬ (3 : Int32) = 0 by decide) q⟩
    rw [if_pos (show ¬ (3 : Int32) = 1 by decide), if_pos (show ¬ (3 : Int32) = 2 by decide), if_neg (show ¬ ¬ (3 : Int32) = 3 by decide), if_neg (show ¬ ¬ (3 : Int32) = 3 by decide), c6]
    exact q2
  · rw [vC, vR]
  · rw [vR]; exact q6
  · rw [vR]; exact q7
theorem tls_4 (h : WJ S 1 nv nc tc r I J L) (h9 : I 0 9 = nI tc) (h3 : J 74 3 = nI tc) {s n : Nat} (hs : s < 4) (e1 : v_146 (nI s) = 1) (e2 : v_262 (nI s) = 1) (k1 : J 111 s = 1) (hp : kHp s n I J F G) (hn : n ≤ 12) : tlsS S nc tc I J F G L (nI s) 4 := by
  have es : (nI s).toNatClampNeg = s := cl (by omega)
  have e44 : v_44 I (58 + 4 * s) = 0 := v44_p (kHp_ne hp)
  have n12 : nI n ≤ 12 := (le12 hp.1).mpr hn
  obtain ⟨A, m, hA, a1, a2, a3, a4, th1, th21, fr, wA⟩ := TH_w h h9
  obtain ⟨l1, l2⟩ := v76_pt (I := A) (b := 21) (r := 1) (by omega)
  obtain ⟨I0, hI0⟩ : ∃ I0, I0 = v_76 A 21 1 := ⟨_, rfl⟩
  rw [← hI0] at th21 l1 l2
  have i0 : ∀ c k, (c < 21 ∨ 38 ≤ c) → I0 c k = I c k := fun c k z => by rw [l2 c k (by omega), fr c k (by omega) (by omega) (by omega)]
  have tq := TQ_of th21
  have hp0 : kHp s n I0 J F G := kHp_cg hs hp (fun c k y1 y2 => i0 c k (by omega)) (fun _ _ _ _ => rfl)
  have hV := h.1.2.2.2.2.2.1
  have h12 := hV.1
  have h18 := hV.2.2.1
  obtain ⟨-, h8, -, -, -, -, M1, M2, M3, M4⟩ := hV
  have i21 : I0 21 12 = nI M1 := by
    have := l1 0 12 (Or.inl ⟨rfl, by omega⟩)
    rw [show (21 + 0 : Nat) = 21 from rfl, show (1 + 0 : Nat) = 1 from rfl] at this
    rw [this, fr 1 12 (by omega) (by omega) (by omega), M3]
  obtain ⟨q1, q2, y, I', J', L', q3, q4, q5, q6, q7⟩ := drops_lp hs hn tq hp0 M2 ((i0 1 12 (by omega)).trans M3) i21 M4 (x4 := nI nv - 1) (cn1 nv (by omega)).2 nv (Nat.le_refl _)
  have c6 := (cn1 nv (by omega)).1
  have c9 : (I0 1 8).toNatClampNeg = nv := by rw [i0 1 8 (by omega), h8, cl (by omega)]
  have gc : g_151 I0 F (58 + 4 * s) := by unfold g_151; rw [c9]; exact q1
  have vc : v_151 I0 F (58 + 4 * s) = (y, I') := by unfold v_151; rw [c9, q3]; rfl
  have vC : (v_145 I F (nI s) 4).1 = y := by
    unfold v_145
    rw [e1, if_neg d10, show v_107 4 0 4 = 1 by decide, if_pos d10]
    dsimp only [bx]
    rw [es, e44, if_pos (rfl : (0 : Int32) = 0), hp.2.1, if_pos n12, a1, ← hA, ← hI0, if_neg (show ¬ (4 : Int32) = 0 by decide), if_neg (show ¬ (4 : Int32) = 1 by decide), if_neg (show ¬ (4 : Int32) = 2 by decide), if_neg (show ¬ (4 : Int32) = 3 by decide), vc]
  have vR : v_261 J G L (nI s) 4 = (y, J', L') := by
    unfold v_261
    rw [e2, if_neg d10, show v_170 (Int32.toInt64 4) 0 4 = 1 by decide, if_pos d10, es, k1, if_pos d10, hp.2.2.1, if_pos n12, if_pos (show ¬ (4 : Int32) = 0 by decide), if_pos (show ¬ (4 : Int32) = 1 by decide), if_pos (show ¬ (4 : Int32) = 2 by decide), if_pos (show ¬ (4 : Int32) = 3 by decide), if_pos (show ¬ (4 : Int32) = 3 by decide)]
    dsimp only [bx]
    rw [h18]
    rw [c6, q4]
  refine ⟨?_, ?_, ?_, ?_, ?_⟩
  · unfold g_145
    rw [a1]
    dsimp only [bx]
    rw [es, ← hA, ← hI0]
    exact fun _ _ => ⟨vin hs (by omega), fun _ _ => ⟨a2, a3, a4, ⟨fun q => absurd q (by decide), fun _ => ⟨fun q => absurd q (by decide), fun _ => ⟨fun q => absurd q (by decide), fun _ => ⟨fun q => absurd q (by decide), fun _ => gc⟩⟩⟩⟩⟩⟩
  · unfold g_261
    dsimp only [bx]
    rw [es]
    refine fun _ _ => ⟨vin hs (by omega), fun _ => ⟨vin hs (by omega), fun _ => ?_⟩⟩
    refine ⟨fun _ => ?_, fun q => absurd (show ¬ (4 : Int32) = 0 by decide) q⟩
    rw [if_pos (show ¬ (4 : Int32) = 1 by decide), if_pos (show ¬ (4 : Int32) = 2 by decide), if_pos (show ¬ (4 : Int32) = 3 by decide), if_pos (show ¬ (4 : Int32) = 3 by decide), h18, c6]
    exact q2
  · rw [vC, vR]
  · rw [vR]; exact q6
  · rw [vR]; exact q7
theorem op_tells (h : WJ S 1 nv nc tc r I J L) (h9 : I 0 9 = nI tc) (h3 : J 74 3 = nI tc) (hh : kHs I J F G) (x1 x2 : Int32) : tlsS S nc tc I J F G L x1 x2 := by
  have hM : kM S tc J L := h.2.2.2.1
  rcases sh4 x1 with ⟨e1, e2, s, hs, rfl⟩ | ⟨e1, e2⟩
  · have es : (nI s).toNatClampNeg = s := cl (by omega)
    rcases vnum (nv := 5) (by omega) x2 with ⟨y2, w, hw, hx⟩ | y2
    · rw [show nI 5 - 1 = 4 by decide] at y2
      rcases kH_p (hh s hs) with ⟨k1, k2, k3⟩ | ⟨k1, n, hp⟩
      · unfold tlsS g_145 g_261 v_145 v_261
        rw [e1, e2, y2, show v_170 (Int32.toInt64 x2) 0 4 = 1 from (v170_107 x2 0 4).trans y2, if_neg d10, if_pos d10, if_neg d10, if_pos d10]
        dsimp only [bx]
        rw [es, k1, v44_m k2, if_neg d10, if_neg d00]
        exact ⟨fun _ _ => ⟨vin hs (by omega), fun q => absurd q d10⟩, fun _ _ => ⟨vin hs (by omega), fun q => absurd rfl q⟩, rfl, RB_rf, hM⟩
      · by_cases hn : n ≤ 12
        · match w, hw, hx with
          | 0, _, hx => rw [hx]; exact tls_0 h h9 h3 hs e1 e2 k1 hp hn
          | 1, _, hx => rw [hx]; exact tls_1 h h9 h3 hs e1 e2 k1 hp hn
          | 2, _, hx => rw [hx]; exact tls_2 h h9 h3 hs e1 e2 k1 hp hn
          | 3, _, hx => rw [hx]; exact tls_3 h h9 h3 hs e1 e2 k1 hp hn
          | 4, _, hx => rw [hx]; exact tls_4 h h9 h3 hs e1 e2 k1 hp hn
        · have n12 : ¬ nI n ≤ 12 := fun q => hn ((le12 hp.1).mp q)
          unfold tlsS g_145 g_261 v_145 v_261
          rw [e1, e2, y2, show v_170 (Int32.toInt64 x2) 0 4 = 1 from (v170_107 x2 0 4).trans y2, if_neg d10, if_pos d10, if_neg d10, if_pos d10]
          dsimp only [bx]
          rw [es, k1, v44_p (kHp_ne hp), hp.2.1, hp.2.2.1, if_pos (rfl : (0 : Int32) = 0), if_pos d10, if_neg n12, if_neg n12]
          exact ⟨fun _ _ => ⟨vin hs (by omega), fun _ q => absurd q n12⟩, fun _ _ => ⟨vin hs (by omega), fun _ => ⟨vin hs (by omega), fun q => absurd q n12⟩⟩, rfl, RB_rf, hM⟩
    · rw [show nI 5 - 1 = 4 by decide] at y2
      unfold tlsS g_145 g_261 v_145 v_261
      rw [e1, e2, y2, show v_170 (Int32.toInt64 x2) 0 4 = 0 from (v170_107 x2 0 4).trans y2, if_neg d10, if_neg d00, if_neg d10, if_neg d00]
      exact ⟨fun _ q => absurd rfl q, fun _ q => absurd rfl q, rfl, RB_rf, hM⟩
  · unfold tlsS g_145 g_261 v_145 v_261
    rw [e1, e2, if_pos (rfl : (0 : Int32) = 0), if_pos (rfl : (0 : Int32) = 0)]
    exact ⟨fun q => absurd rfl q, fun q => absurd rfl q, rfl, RB_rf, hM⟩
end
