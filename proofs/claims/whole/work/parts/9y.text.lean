section
variable {S : Nat → List Int32 × List Int32} {nv nc tc r : Nat} {I J I' J' : WI} {L L' : WL}
/-! text -/
theorem TxtP_pl {P : List Int32 × List Int32} (h : TxtP P I J r) (hI : ∀ c k, c = 45 + 2 * r ∨ c = 45 + 2 * r + 1 → I' c k = I c k) (h76 : J' 76 r = J 76 r) (h75 : ∀ i, i < 160 → J' 75 (160 * r + i) = J 75 (160 * r + i)) : TxtP P I' J' r := by
  obtain ⟨⟨n, T, I0, tt, a1, a2, a3, a4⟩, b1, b2, b3, b4⟩ := h
  refine ⟨⟨n, T, I0, tt, a1, h76.trans a2, fun i hi => (h75 i (by have := a1.1; omega)).trans (a3 i hi), a4⟩, b1, ?_, ?_, fun k hk => ?_⟩
  · rw [hI _ _ (Or.inl rfl)]; exact b2
  · rw [hI _ _ (Or.inl rfl)]; exact b3
  · rw [hI _ _ (Or.inr rfl)]; exact b4 k hk
theorem kR_tc {b tc' : Nat} (h : kR b nv nc tc I J) (ht : tc ≤ tc') : kR b nv nc tc' I J := by
  obtain ⟨h1, h2, h3, h4, h5, h6, h7, h8, r, h9, h10⟩ := h
  exact ⟨h1, h2, h3, h4, h5, h6, h7, h8, r, by omega, h10⟩
theorem kIm_tc {tc' : Nat} (h : kIm tc I J) (ht : tc ≤ tc') : kIm tc' I J := by
  rcases h with h | ⟨h, nv, nc, k⟩
  · exact Or.inl h
  · exact Or.inr ⟨h, nv, nc, kR_tc k ht⟩
theorem tape_lp {n : Nat} (hn : n ≤ 160) (ht : tc < 6) (h3 : J 74 3 = nI tc) (h6 : J 74 6 = nI n) : ∀ k, k ≤ n → gl_192_14 J k ∧ (∀ q j, ¬ (q = 75 ∧ 160 * tc ≤ j ∧ j < 160 * tc + k) → lp_192_14 J k q j = J q j) ∧ ∀ i, i < k → lp_192_14 J k 75 (160 * tc + i) = J 77 i := by
  intro k
  induction k with
  | zero => exact fun _ => ⟨⟨fun i hi => absurd hi (Nat.not_lt_zero _), rfl⟩, fun _ _ _ => rfl, fun i hi => absurd hi (Nat.not_lt_zero _)⟩
  | succ k ih =>
    intro hk
    obtain ⟨⟨g, g'⟩, e1, e2⟩ := ih (by omega)
    have ek : (nI k).toNatClampNeg = k := cl (by omega)
    have c3 : lp_192_14 J k 74 3 = nI tc := (e1 74 3 (by omega)).trans h3
    have ep : 160 * nI tc + nI k = nI (160 * tc + k) := by rw [show (160 : Int32) = nI 160 from rfl, pk_mul, nI_add]
    have es : lp_192_14 J (k + 1) = up2 (lp_192_14 J k) 75 (160 * tc + k) (J 77 k) := by
      rw [lp_192_14, bxd, c3, ep, ek, cl (by omega), e1 77 k (by omega)]
    refine ⟨⟨fun i hi => ?_, ?_⟩, fun q j hq => ?_, fun i hi => ?_⟩
    · by_cases y : i = k
      · subst y
        rw [bxd, c3, ep]
        exact ⟨e1 74 6 (by omega), vin (by omega) (by omega), vin (by omega) (by omega)⟩
      · exact g i (by omega)
    · rw [bxd, es, up2_nk (by omega)]; exact e1 74 6 (by omega)
    · rw [es, up2_nk (by omega)]; exact e1 q j (by omega)
    · rw [es]
      by_cases y : i = k
      · subst y; rw [up2_pt]
      · rw [up2_nk (by omega)]; exact e2 i (by omega)
theorem v84_1 (I : WI) (t b : Nat) : (v_84 I t b).2.1 31 1 = 0 ∧ (v_84 I t b).2.2 = b := by
  unfold v_84
  dsimp only [bx]
  exact ⟨up2_pt, rfl⟩
def txtR (S : Nat → List Int32 × List Int32) (nv nc tc r : Nat) (I' J' : WI) (L' : WL) : Prop := ∃ S' tc', tc ≤ tc' ∧ WJ S' 1 nv nc tc' r I' J' L' ∧ I' 0 9 = nI tc' ∧ J' 74 3 = nI tc' ∧ qT I' J'
theorem op_text (h : WJ S 1 nv nc tc r I J L) (h9 : I 0 9 = nI tc) (h3 : J 74 3 = nI tc) (hT : qT I J) (t : Nat) : g_126 I ∧ g_192 J L ∧ (v_126 I t).1 = (v_192 J L).1 ∧ txtR S nv nc tc r (v_126 I t).2.1 (v_192 J L).2.1 (v_192 J L).2.2 ∧ ((v_126 I t).2.2 = t ∨ isT (v_126 I t).2.2) := by
  have h6 : tc ≤ 6 := h.2.2.1
  have t6 : (6 : Int32).toInt = 6 := by decide
  by_cases y : tc = 6
  · have c1 : ¬ nI tc < 6 := by rw [Int32.lt_iff_toInt_lt, nI_toInt (by omega), t6]; omega
    have c2 : nI tc = 6 := by rw [y]; rfl
    unfold g_126 g_192 v_126 v_192
    rw [h9, h3, if_neg c1, if_neg (nn c2)]
    exact ⟨fun q => absurd q c1, fun q => absurd c2 q, rfl, ⟨S, tc, Nat.le_refl _, h, h9, h3, hT⟩, Or.inl rfl⟩
  have ht : tc < 6 := by omega
  have c1 : nI tc < 6 := by rw [Int32.lt_iff_toInt_lt, nI_toInt (by omega), t6]; omega
  have c2 : ¬ nI tc = 6 := fun q => y ((nI_eq (a := tc) (b := 6) (by omega) (by omega)).mp q)
  have ec : (nI tc).toNatClampNeg = tc := cl (by omega)
  obtain ⟨n, hn, t1, t2, t3⟩ := hT
  have en : (nI n).toNatClampNeg = n := cl (by omega)
  obtain ⟨gt, f1, f2⟩ := tape_lp hn ht h3 t2 n (Nat.le_refl _)
  obtain ⟨J1, hJ1⟩ : ∃ J1, J1 = lp_192_14 J n := ⟨_, rfl⟩
  rw [← hJ1] at f1 f2
  have e13 : J1 74 3 = nI tc := (f1 74 3 (by omega)).trans h3
  have e16 : J1 74 6 = nI n := (f1 74 6 (by omega)).trans t2
  obtain ⟨J2, hJ2⟩ : ∃ J2, J2 = up2 (up2 J1 76 tc (nI n)) 74 6 0 := ⟨_, rfl⟩
  have fJ2 : ∀ q j, ¬ (q = 76 ∧ j = tc) → ¬ (q = 74 ∧ j = 6) → J2 q j = J1 q j := fun q j a b => by rw [hJ2, up2_nk b, up2_nk a]
  have j76 : J2 76 tc = nI n := by rw [hJ2, up2_nk (by omega), up2_pt]
  have j75 : ∀ i, i < n → J2 75 (160 * tc + i) = J 77 i := fun i hi => by rw [fJ2 _ _ (by omega) (by omega)]; exact f2 i hi
  have bc : bC I n (J 77) := ⟨hn, t1, t3⟩
  obtain ⟨en', hen⟩ : ∃ en : Int32 → Int32, enOK en J2 := ⟨fun s => if s = -1 then J2 74 19 else if s = -2 then J2 74 20 else if s = -3 then J2 74 21 else if s = -4 then J2 74 22 else if s = -5 then J2 74 23 else J2 74 24, by
    refine ⟨?_, ?_, ?_, ?_, ?_, ?_⟩ <;> rfl⟩
  obtain ⟨g1, g2, rd⟩ := readS (t := 45 + 2 * tc) (L := L) (by omega) bc ht j76 j75 hen t 0
  obtain ⟨w1, w2⟩ := v84_1 I t (45 + 2 * tc)
  have fI3 : ∀ c k, ¬ (c = 45 + 2 * tc ∨ c = 45 + 2 * tc + 1) → c ≠ 31 → (v_84 I t (45 + 2 * tc)).2.1 c k = I c k := fun c k a b => frI_v_84 (by omega) (by omega) (by omega)
  have fJ3 : ∀ c k, ¬ (c = 74 ∧ 25 ≤ k ∧ k ≤ 33) → (v_193 J2 L (nI tc) 0).2.1 c k = J2 c k := fun c k a => frI_v_193 (by omega)
  have fL3 : ∀ c k, c ≠ 74 → (v_193 J2 L (nI tc) 0).2.2 c k = L c k := fun c k a => frL_v_193 (by omega)
  obtain ⟨P, hP⟩ : ∃ P, P = v_84 I t (45 + 2 * tc) := ⟨_, rfl⟩
  obtain ⟨Q, hQ⟩ : ∃ Q, Q = v_193 J2 L (nI tc) 0 := ⟨_, rfl⟩
  have hP0 := hP
  rw [← hP] at rd w1 w2 fI3
  rw [← hQ] at rd fJ3 fL3
  have vC : v_126 I t = if P.1 < 0 then ((((P.2.1 0 9) + 1) - 1), (up2 P.2.1 0 9 ((P.2.1 0 9) + 1)), P.2.2) else (((-100) - P.1), P.2.1, P.2.2) := by
    unfold v_126
    rw [h9, if_pos c1]
    dsimp only [bx]
    rw [ec, ← hP]
  have vR : v_192 J L = if (Q.2.1 74 32) = 0 then ((((Q.2.1 74 3) + 1) - 1), (up2 Q.2.1 74 3 ((Q.2.1 74 3) + 1)), Q.2.2) else (((-100) - (Q.2.1 74 33)), Q.2.1, Q.2.2) := by
    unfold v_192
    rw [h3, if_pos c2, t2, en]
    dsimp only [bx]
    rw [← hJ1, e13, ec, e16, ← hJ2, ← hQ]
  have gC : g_126 I := by
    unfold g_126
    rw [h9]
    dsimp only [bx]
    rw [ec]
    exact fun _ => ⟨vin (by omega) (by omega), g1⟩
  have gR : g_192 J L := by
    unfold g_192
    rw [h3, t2, en]
    dsimp only [bx]
    rw [← hJ1, e13, ec, e16, ← hJ2]
    exact fun _ => ⟨gt, vin (by omega) (by omega), g2⟩
  have i09 : P.2.1 0 9 = nI tc := (fI3 0 9 (by omega) (by omega)).trans h9
  have j743 : Q.2.1 74 3 = nI tc := by rw [fJ3 74 3 (by omega), fJ2 _ _ (by omega) (by omega)]; exact e13
  have j746 : Q.2.1 74 6 = 0 := by rw [fJ3 74 6 (by omega), hJ2, up2_pt]
  have fJ : ∀ c k, ¬ (c = 74 ∧ (k = 3 ∨ k = 6 ∨ (25 ≤ k ∧ k ≤ 33))) → c ≠ 75 → c ≠ 76 → Q.2.1 c k = J c k := fun c k a b d => by
    rw [fJ3 c k (by omega), fJ2 c k (by omega) (by omega), f1 c k (by omega)]
  have q76 : ∀ q, q ≠ tc → Q.2.1 76 q = J 76 q := fun q hq => by
    rw [fJ3 76 q (by omega), fJ2 76 q (by omega) (by omega), f1 76 q (by omega)]
  have q75 : ∀ q i, q ≠ tc → i < 160 → Q.2.1 75 (160 * q + i) = J 75 (160 * q + i) := fun q i hq hi => by
    rw [fJ3 75 _ (by omega), fJ2 75 _ (by omega) (by omega), f1 75 _ (by omega)]
  have t' : P.2.2 = t ∨ isT P.2.2 := Or.inr (by rw [w2]; unfold isT; omega)
  obtain ⟨k1, k2, k3, k4, k5, k6⟩ := h
  refine ⟨gC, gR, ?_⟩
  rcases rd with ⟨fl, hfl, r1, r2, r3⟩ | ⟨cs1, cs2, r1, r2, r3, r4, r5, r6, -⟩
  · -- a fault
    dsimp only at r1 r2 r3
    have nlt : ¬ P.1 < 0 := by rw [r1]; exact nneg (by omega)
    rw [if_neg nlt] at vC
    rw [if_neg r2] at vR
    rw [vC, vR]
    dsimp only
    refine ⟨by rw [r1, r3], ⟨S, tc, Nat.le_refl _, ⟨kR_cgI (kR_cgJ k1 (fun c k z => fJ c k (by omega) (by omega) (by omega))) (fun c k z => fI3 c k (by omega) (by omega)), fun q hq => TxtP_pl (k2 q hq) (fun c k z => fI3 c k (by omega) (by omega)) (q76 q (by omega)) (fun i hi => q75 q i (by omega) hi), k3, fun hh hhh => ?_, k5, (fJ 74 4 (by omega) (by omega) (by omega)).trans k6⟩, i09, j743, 0, by omega, w1, j746, fun i hi => absurd hi (Nat.not_lt_zero _)⟩, t'⟩
    rw [fL3 88 hh (by omega), fJ 89 hh (by omega) (by omega) (by omega)]
    exact k4 hh hhh
  · -- a text more
    dsimp only at r1 r2 r4 r5 r6
    have lt : P.1 < 0 := by rw [r1]; decide
    rw [if_pos lt] at vC
    rw [if_pos r2] at vR
    rw [vC, vR]
    dsimp only
    rw [i09, j743, nI_1]
    refine ⟨rfl, ⟨fun q => if q = tc then (cs1, cs2) else S q, tc + 1, by omega, ⟨kR_cgI (kR_cgJ (kR_tc k1 (by omega)) (fun c k z => by rw [up2_nk (by omega)]; exact fJ c k (by omega) (by omega) (by omega))) (fun c k z => by rw [up2_nk (by omega)]; exact fI3 c k (by omega) (by omega)), fun q hq => ?_, by omega, fun hh hhh => ?_, by omega, ?_⟩, up2_pt, up2_pt, 0, by omega, ?_, ?_, fun i hi => absurd hi (Nat.not_lt_zero _)⟩, t'⟩
    · by_cases z : q = tc
      · subst z
        show TxtP (if q = q then (cs1, cs2) else S q) _ _ q
        rw [if_pos rfl]
        refine ⟨⟨n, J 77, I, t, bc, ?_, fun i hi => ?_, ?_, ?_, ?_, fun k hk => ?_⟩, r3, ?_, ?_, fun k hk => ?_⟩
        · rw [up2_nk (by omega), fJ3 76 q (by omega)]; exact j76
        · rw [up2_nk (by omega), fJ3 75 _ (by omega)]; exact j75 i hi
        · rw [← hP0]; exact r1
        · rw [← hP0]; exact r4
        · rw [← hP0]; exact r5
        · rw [← hP0]; exact r6 k hk
        · rw [up2_nk (by omega)]; exact r4
        · rw [up2_nk (by omega)]; exact r5
        · rw [up2_nk (by omega)]; exact r6 k hk
      · show TxtP (if q = tc then (cs1, cs2) else S q) _ _ q
        rw [if_neg z]
        exact TxtP_pl (k2 q (by omega)) (fun c k u => by rw [up2_nk (by omega)]; exact fI3 c k (by omega) (by omega)) (by rw [up2_nk (by omega)]; exact q76 q z) (fun i hi => by rw [up2_nk (by omega)]; exact q75 q i z hi)
    · rw [fL3 88 hh (by omega), up2_nk (by omega), fJ 89 hh (by omega) (by omega) (by omega)]
      rcases k4 hh hhh with u | ⟨q, q1, w, x, y, z, g, v, c, u1, u2, u3⟩
      · exact Or.inl u
      · refine Or.inr ⟨q, by omega, w, x, y, z, g, v, c, u1, u2, ?_⟩
        show J 89 hh = rv (if w = 0 then (if q = tc then (cs1, cs2) else S q).1 else (if q = tc then (cs1, cs2) else S q).2) _
        rw [if_neg (show ¬ q = tc by omega)]
        exact u3
    · rw [up2_nk (by omega)]
      exact (fJ 74 4 (by omega) (by omega) (by omega)).trans k6
    · rw [up2_nk (by omega)]; exact w1
    · rw [up2_nk (by omega)]; exact j746
end
