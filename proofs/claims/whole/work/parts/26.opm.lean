section
variable {b nv nc tc : Nat} {I J : WI}
theorem e110 (hV : kV 1 nv nc I J) (x : Int32) : v_110 I x = v_107 x 0 (nI nv - 1) ∧ v_179 J x = v_107 x 0 (nI nv - 1) := by
  constructor
  · unfold v_110; rw [hV.2.1]
  · unfold v_179; rw [hV.2.2.1, show (0 : Int64) = Int32.toInt64 0 by decide, v170_107]
theorem op_move (h : kR 1 nv nc tc I J) (x1 x y z : Int32) : g_109 I x1 x y z ∧ g_178 J x1 x y z ∧ (v_109 I x1 x y z).1 = (v_178 J x1 x y z).1 ∧ kR 1 nv nc tc (v_109 I x1 x y z).2 (v_178 J x1 x y z).2 := by
  obtain ⟨hA, hQ, hC, hB, hP, hV, hN, hr, r, hr1, hr2⟩ := h
  have hR : kR 1 nv nc tc I J := ⟨hA, hQ, hC, hB, hP, hV, hN, hr, r, hr1, hr2⟩
  have h4 := hC.1
  have h12 := hV.1
  unfold v_109 v_178 g_109 g_178
  rw [v173_106, (e110 hV x1).1, (e110 hV x1).2]
  rcases vnum (nv := nv) (by omega) x1 with ⟨e1, v, hv, rfl⟩ | e1
  · rw [e1, if_neg d10, if_neg d10]
    by_cases hx : v_106 x y z = 0
    · rw [if_neg (fun g => g hx), if_neg (fun g => g hx)]
      exact ⟨fun _ g => absurd hx g, fun _ g => absurd hx g, rfl, hR⟩
    rw [if_pos hx, if_pos hx]
    obtain ⟨te, tt⟩ := there_eq hV h4 hv
    rw [← te]
    rcases tt with ⟨t1, t2, c0, t3, t4⟩ | ⟨t1, -⟩
    · rw [t1, if_pos d10, if_pos d10]
      obtain ⟨c, hc, g57, g175, kB1, kP1, e9, e86, kN'⟩ := put_rel (nv := nv) (v := v) (by omega) (by omega) (v106_1 hx) hC hB hP
      simp only [bx, cl (show v < 2 ^ 31 by omega)]
      have hvi : vp_in (nI v) 12 := vin (by omega) (by omega)
      refine ⟨fun _ _ _ => ⟨g57, hvi⟩, fun _ _ => ⟨g180 (by omega), fun _ => ⟨g175, hvi⟩⟩, ?_, ?_⟩
      · show v_57 I 1 (nI v) x y z 10 v = v_175 J (nI v) x y z 86 v
        rw [e86 v, if_pos rfl]
        have := e9 v
        rw [if_pos rfl] at this
        exact this
      · have FI : ∀ c k, c ≠ 6 → c ≠ 7 → c ≠ 8 → c ≠ 10 → v_57 I 1 (nI v) x y z c k = I c k := fun c k a1 a2 a3 a4 => frI_v_57 (by omega) (by omega) (by omega) (by omega)
        have FJ : ∀ c k, c ≠ 81 → c ≠ 82 → c ≠ 83 → c ≠ 84 → c ≠ 86 → v_175 J (nI v) x y z c k = J c k := fun c k a1 a2 a3 a4 a5 => frI_v_175 a1 a2 a3 a4 a5
        refine ⟨kA_cg hA (fun c k _ => FI c k (by omega) (by omega) (by omega) (by omega)) (fun k _ => FJ _ k (by omega) (by omega) (by omega) (by omega) (by omega)), kQ_cg hQ (fun k _ => FI _ k (by omega) (by omega) (by omega) (by omega)) (fun k _ => FJ _ k (by omega) (by omega) (by omega) (by omega) (by omega)), kC_cg hC (fun c k _ => FI c k (by omega) (by omega) (by omega) (by omega)) (fun c k _ => FJ c k (by omega) (by omega) (by omega) (by omega) (by omega)), kB1, kP1, ?_, ?_, ?_, r, hr1, ?_⟩
        · obtain ⟨-, hv8, hvJ, hva, hvc, hvd, m, hm, hmI, hmb⟩ := hV
          refine ⟨h12, ?_, ?_, fun w hw => ?_, fun w hw => ?_, fun w hw => ?_, m, hm, ?_, fun w hw => ?_⟩
          · rw [FI 1 8 (by omega) (by omega) (by omega) (by omega)]; exact hv8
          · rw [FJ 74 18 (by omega) (by omega) (by omega) (by omega) (by omega)]; exact hvJ
          · rw [FI 9 w (by omega) (by omega) (by omega) (by omega), FJ 85 w (by omega) (by omega) (by omega) (by omega) (by omega), e86 w, e9 w]
            refine ⟨(hva w hw).1, (hva w hw).2.1, ?_⟩
            split
            · rfl
            · exact (hva w hw).2.2
          · rw [e86 w, FJ 87 w (by omega) (by omega) (by omega) (by omega) (by omega)]
            by_cases hwv : w = v
            · rw [if_pos hwv]; exact Or.inr ⟨c, hc, rfl⟩
            · rw [if_neg hwv]; exact hvc w hw
          · rw [FJ 87 w (by omega) (by omega) (by omega) (by omega) (by omega)]; exact hvd w hw
          · rw [FI 1 12 (by omega) (by omega) (by omega) (by omega)]; exact hmI
          · rw [FJ 87 w (by omega) (by omega) (by omega) (by omega) (by omega)]; exact hmb w hw
        · exact kN' (fun w hw _ c' hc' hwc => hN w hw c' hc' hwc) hv h12
        · rw [FI 1 2 (by omega) (by omega) (by omega) (by omega), FJ 74 4 (by omega) (by omega) (by omega) (by omega) (by omega)]; exact hr
        · rw [FJ 74 4 (by omega) (by omega) (by omega) (by omega) (by omega)]; exact hr2
    · rw [t1, if_neg d00, if_neg d00]
      exact ⟨fun _ _ g => absurd rfl g, fun _ _ => ⟨g180 (by omega), fun g => absurd rfl g⟩, rfl, hR⟩
  · rw [e1, if_pos rfl, if_pos rfl]
    exact ⟨fun g => absurd rfl g, fun g => absurd rfl g, rfl, hR⟩
theorem op_drop (h : kR 1 nv nc tc I J) (x1 x2 : Int32) : g_112 I x1 x2 ∧ g_181 J x1 x2 ∧ (v_112 I x1 x2).1 = (v_181 J x1 x2).1 ∧ kR 1 nv nc tc (v_112 I x1 x2).2 (v_181 J x1 x2).2 := by
  obtain ⟨hA, hQ, hC, hB, hP, hV, hN, hr, r, hr1, hr2⟩ := h
  have hR : kR 1 nv nc tc I J := ⟨hA, hQ, hC, hB, hP, hV, hN, hr, r, hr1, hr2⟩
  have h4 := hC.1
  have h12 := hV.1
  unfold v_112 v_181 g_112 g_181
  rw [(e110 hV x1).1, (e110 hV x1).2, show (0 : Int64) = Int32.toInt64 0 by decide, show (1 : Int64) = Int32.toInt64 1 by decide, v170_107]
  rcases vnum (nv := nv) (by omega) x1 with ⟨e1, v, hv, rfl⟩ | e1
  · rw [e1, if_neg d10, if_neg d10]
    rcases v107_cases x2 0 1 with ⟨e2, g1, g2⟩ | ⟨e2, -⟩
    · have t := t1000
      have hx2 : x2 = 0 ∨ x2 = 1 := by
        rcases (show x2.toInt = 0 ∨ x2.toInt = 1 by omega) with z | z
        · exact Or.inl (Int32.toInt_inj.mp (by omega))
        · exact Or.inr (Int32.toInt_inj.mp (by omega))
      have hvi : vp_in (nI v) 12 := vin (by omega) (by omega)
      obtain ⟨te, tt⟩ := there_eq hV h4 hv
      have hV' := hV
      obtain ⟨-, hv8, hvJ, hva, hvc, hvd, m, hm, hmI, hmb⟩ := hV'
      rw [e2, if_pos d10, if_pos d10, cl (show v < 2 ^ 31 by omega), (hva v (by omega)).2.2]
      by_cases hn : J 86 v = -1
      · rw [if_neg (fun g => g hn), if_neg (fun g => g hn)]
        exact ⟨fun _ _ => hvi, fun _ _ => ⟨hvi, fun g => absurd hn g⟩, rfl, hR⟩
      rw [if_pos hn, if_pos hn]
      have hm12 := p12 hm h12
      -- the new set
      obtain ⟨m', hm', eI, hb'⟩ : ∃ m' : Nat, m' < 2 ^ nv ∧ v_56 I 1 (nI v) (if ¬ x2 = 0 then 0 else 1) = up2 I 1 12 (nI m') ∧ ∀ w, w < nv → m'.testBit w = if w = v then decide (x2 = 0) else m.testBit w := by
        rcases hx2 with rfl | rfl
        · refine ⟨m ||| 2 ^ v, Nat.or_lt_two_pow hm (Nat.pow_lt_pow_right (by omega) hv), ?_, fun w hw => ?_⟩
          · rw [show (if ¬ (0 : Int32) = 0 then (0 : Int32) else 1) = 1 by decide]
            unfold v_56
            rw [if_neg d10]
            simp only [bx]
            rw [hmI, bit_or hm12 (by omega)]
          · rw [Nat.testBit_or, Nat.testBit_two_pow]
            by_cases z : w = v
            · subst z; simp
            · rw [if_neg z]; simp [show ¬ v = w from fun e => z e.symm]
        · refine ⟨m &&& (4095 ^^^ 2 ^ v), Nat.lt_of_le_of_lt Nat.and_le_left hm, ?_, fun w hw => ?_⟩
          · rw [show (if ¬ (1 : Int32) = 0 then (0 : Int32) else 1) = 0 by decide]
            unfold v_56
            rw [if_pos rfl]
            simp only [bx]
            rw [hmI, bit_clr hm12 (by omega)]
          · rw [Nat.testBit_and, Nat.testBit_xor, Nat.testBit_two_pow, show 4095 = 2 ^ 12 - 1 from rfl, Nat.testBit_two_pow_sub_one]
            by_cases z : w = v
            · subst z; simp [show w < 12 by omega]
            · rw [if_neg z]; simp [show ¬ v = w from fun e => z e.symm, show w < 12 by omega]
      simp only [bx]
      rw [eI]
      refine ⟨fun _ _ => hvi, fun _ _ => ⟨hvi, fun _ => hvi⟩, ?_, ?_⟩
      · show (if v_61 I 1 (nI v) = 0 then (1 : Int32) else 0) = J 87 v
        rcases tt with ⟨t1, t2, -⟩ | ⟨t1, t2⟩
        · rw [t1, t2]; decide
        · rw [t1, t2]; decide
      · have FI : ∀ c k, ¬ (c = 1 ∧ k = 12) → up2 I 1 12 (nI m') c k = I c k := fun c k a => up2_nk a
        have FJ : ∀ c k, ¬ (c = 87 ∧ k = v) → up2 J 87 v x2 c k = J c k := fun c k a => up2_nk a
        refine ⟨kA_cg hA (fun c k _ => FI c k (by omega)) (fun k _ => FJ _ k (by omega)), kQ_cg hQ (fun k _ => FI _ k (by omega)) (fun k _ => FJ _ k (by omega)), kC_cg hC (fun c k _ => FI c k (by omega)) (fun c k _ => FJ c k (by omega)), kB_cg h4 hB (fun c k _ => FI c k (by omega)) (fun c k _ => FJ c k (by omega)), kP_cg hP (fun k _ => FI _ k (by omega)) (fun k _ => FJ _ k (by omega)), ?_, kN_cg h12 h4 hN (fun c k _ => FJ c k (by omega)), ?_, r, hr1, ?_⟩
        · have e87 : ∀ w, up2 J 87 v x2 87 w = if w = v then x2 else J 87 w := fun w => by simp [up2]
          refine ⟨h12, ?_, ?_, fun w hw => ?_, fun w hw => ?_, fun w hw => ?_, m', hm', ?_, fun w hw => ?_⟩
          · rw [FI 1 8 (by omega)]; exact hv8
          · rw [FJ 74 18 (by omega)]; exact hvJ
          · rw [FI _ w (by omega), FI _ w (by omega), FJ 85 w (by omega), FJ 86 w (by omega)]; exact hva w hw
          · rw [FJ 86 w (by omega), e87 w]
            by_cases z : w = v
            · subst z
              rcases hvc w hw with ⟨g, -⟩ | g
              · exact absurd g hn
              · exact Or.inr g
            · rw [if_neg z]; exact hvc w hw
          · rw [e87 w]
            by_cases z : w = v
            · rw [if_pos z]; exact hx2
            · rw [if_neg z]; exact hvd w hw
          · simp [up2]
          · rw [e87 w, hb' w hw]
            by_cases z : w = v
            · rw [if_pos z, if_pos z]
            · rw [if_neg z, if_neg z]; exact hmb w hw
        · rw [FI 1 2 (by omega), FJ 74 4 (by omega)]; exact hr
        · rw [FJ 74 4 (by omega)]; exact hr2
    · rw [e2, if_neg d00, if_neg d00]
      exact ⟨fun _ g => absurd rfl g, fun _ g => absurd rfl g, rfl, hR⟩
  · rw [e1, if_pos rfl, if_pos rfl]
    exact ⟨fun g => absurd rfl g, fun g => absurd rfl g, rfl, hR⟩
end
