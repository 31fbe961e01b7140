section
variable {S : Nat → List Int32 × List Int32} {b nv nc tc r k m : Nat} {I J : WI} {L : WL} {F : WF}
/-! the reading, from its beginning -/
/-- all but what a reading of the reference changes -/
def RY (J J' : WI) : Prop := ∀ c k, ¬ (c = 74 ∧ ((19 ≤ k ∧ k ≤ 33) ∨ (46 ≤ k ∧ k ≤ 48))) → c ≠ 88 → c ≠ 89 → ¬ (90 ≤ c ∧ c ≤ 99) → J' c k = J c k
theorem WJ_cy {J' : WI} {L' : WL} (h : WJ S b nv nc tc r I J L) (hR : RY J J') (hM : kM S tc J' L') : WJ S b nv nc tc r I J' L' := by
  obtain ⟨h1, h2, h3, h4, h5, h6⟩ := h
  exact ⟨kR_cgJ h1 (fun c k hh => hR c k (by omega) (by omega) (by omega) (by omega)), fun q hq => TxtP_cg (h2 q hq) (fun _ _ _ => rfl) (fun c k hh => hR c k (by omega) (by omega) (by omega) (by omega)), h3, hM, h5, (hR _ _ (by omega) (by omega) (by omega) (by omega)).trans h6⟩
theorem szr_pc (m : Nat) : ∀ n, szr (fun v => m.testBit v) n = pc m n := by
  intro n
  induction n with
  | zero => rfl
  | succ n ih => rw [szr_s, ih]; rfl
theorem up2_ptF {G : WF} {c k : Nat} {x : UInt32} : up2 G c k x c k = x := by
  simp only [up2, and_self, if_true]
/-- what a push is within -/
theorem PU_bt {v : Nat} : bt 0 99 (PU S r J v) := by
  have t0 : (0 : Int32).toInt = 0 := by decide
  have t99 : (99 : Int32).toInt = 99 := by decide
  have d : (0 : Int32) ≤ 99 := by decide
  unfold PU cq
  rw [v282_eq, v283_eq]
  generalize rv (S r).2 (enR J v) = x
  by_cases a : (99 : Int32) ≤ x
  · rw [if_pos a, if_pos d]; exact ⟨by omega, by omega⟩
  · rw [if_neg a]
    rw [Int32.le_iff_toInt_le] at a
    by_cases c : (0 : Int32) ≤ x
    · rw [if_pos c]
      rw [Int32.le_iff_toInt_le] at c
      exact ⟨by omega, by omega⟩
    · rw [if_neg c]; exact ⟨by omega, by omega⟩
/-- the cells whose box is not empty -/
theorem boxed (h : BF b nv nc m I J) : ∀ k, k ≤ nc → gl_36_4 I F b 0 k ∧ ∃ (t : Nat) (F' : WF), lp_36_4 I F b 0 k = (nI t, F') ∧ t < 2 ^ k ∧ (∀ c, c < k → (t.testBit c = true ↔ J 83 c = 1)) ∧ ∀ c, c < k → J 83 c = 1 → F' 39 c = v_225 J (nI c) := by
  have h4 : nc ≤ 4 := h.1.2.2.1.1
  have hB := h.1.2.2.2.1
  intro k
  induction k with
  | zero => exact fun _ => ⟨fun i hi => absurd hi (Nat.not_lt_zero _), 0, F, rfl, by decide, fun c hc => absurd hc (Nat.not_lt_zero _), fun c hc => absurd hc (Nat.not_lt_zero _)⟩
  | succ j ih =>
    intro hj
    obtain ⟨g1, t, F', e, t1, t2, t3⟩ := ih (by omega)
    have ej : (nI j).toNatClampNeg = j := cl (by omega)
    obtain ⟨gb, hb⟩ := box_e h4 hB (show j < nc by omega)
    have t12 : t < 4096 := p12 t1 (by omega)
    refine ⟨fun i hi => ?_, ?_⟩
    · by_cases y : i = j
      · subst y
        rw [bxd]
        refine ⟨gb, fun w => ?_⟩
        have w := Classical.not_not.mp w
        have e1 : J 83 i = 1 := by
          rcases hb with ⟨-, q⟩ | ⟨q, -⟩
          · exact q
          · rw [w] at q; exact absurd q.symm d10
        exact ⟨(lowcB h (by omega) e1).1, vin (by omega) (by omega)⟩
      · exact g1 i (by omega)
    · have es : lp_36_4 I F b 0 (j + 1) = (if ¬ (v_67 I b (nI j)) = 0 then (nI t, F') else ((nI t ||| (1 <<< ((nI j) &&& 31))), (up2 F' 39 j (v_68 I b (nI j))))) := by
        rw [lp_36_4, e, bxd, bxd, ej]
      have lt2 : t < 2 ^ (j + 1) := Nat.lt_of_lt_of_le t1 (Nat.pow_le_pow_right (by omega) (by omega))
      rcases hb with ⟨a1, a2⟩ | ⟨a1, a2⟩
      · rw [a1, if_neg d00, bit_or t12 (by omega)] at es
        refine ⟨t ||| 2 ^ j, _, es, Nat.or_lt_two_pow lt2 (Nat.pow_lt_pow_right (by omega) (by omega)), fun c hc => ?_, fun c hc hz => ?_⟩
        · rw [Nat.testBit_or, Nat.testBit_two_pow, Bool.or_eq_true, decide_eq_true_iff]
          by_cases y : j = c
          · subst y
            exact ⟨fun _ => a2, fun _ => Or.inr rfl⟩
          · rw [t2 c (by omega)]
            exact ⟨fun w => w.resolve_right y, fun w => Or.inl w⟩
        · by_cases y : c = j
          · subst y
            rw [up2_ptF]
            exact (lowcB h (by omega) a2).2.2.1
          · rw [up2_nk (by omega)]
            exact t3 c (by omega) hz
      · rw [a1, if_pos d10] at es
        refine ⟨t, F', es, lt2, fun c hc => ?_, fun c hc hz => ?_⟩
        · by_cases y : c = j
          · subst y
            rw [tb_hi t1 (Nat.le_refl _), a2]
            exact ⟨fun w => absurd w (by decide), fun w => absurd w.symm d10⟩
          · exact t2 c (by omega)
        · by_cases y : c = j
          · subst y
            rw [a2] at hz; exact absurd hz.symm d10
          · exact t3 c (by omega) hz
theorem over0 : ∀ k, k ≤ 4 → gl_237_21 J k ∧ (∀ q j, q ≠ 99 → lp_237_21 J k q j = J q j) ∧ ∀ c, c < k → lp_237_21 J k 99 c = 0 := by
  intro k
  induction k with
  | zero => exact fun _ => ⟨fun i hi => absurd hi (Nat.not_lt_zero _), fun _ _ _ => rfl, fun c hc => absurd hc (Nat.not_lt_zero _)⟩
  | succ j ih =>
    intro hj
    obtain ⟨g, e, z⟩ := ih (by omega)
    have ej : (nI j).toNatClampNeg = j := cl (by omega)
    refine ⟨fun i hi => ?_, fun q i hq => ?_, fun c hc => ?_⟩
    · rw [bxd]; exact vin (by omega) (by omega)
    · rw [lp_237_21, bxd, up2_nk (by omega)]; exact e q i hq
    · rw [lp_237_21, bxd, ej, nar00]
      by_cases y : c = j
      · subst y; rw [up2_pt]
      · rw [up2_nk (by omega)]; exact z c (by omega)
/-- who is held at last: the first of all that fit -/
theorem RE_all (h : RE k nv m I J) (h97 : ∀ v, v < nv → (J 97 v = 0 ∨ J 97 v = 1) ∧ (J 97 v = 1 ↔ m.testBit v = true)) : HL k (fun v => m.testBit v) nv I J := by
  obtain ⟨⟨⟨r1, r2⟩, -⟩, hs⟩ := h
  have sub : ∀ v, v < nv → pR J v = true → m.testBit v = true := fun v hv hp => by
    obtain ⟨a1, a2⟩ := h97 v hv
    rcases a1 with a | a
    · exact absurd a (pR_iff.mp hp).1
    · exact a2.mp a
  have ec : ∀ v, v < nv → ctr (pR J) (fg J) v nv < k → ctr (pR J) (fg J) v nv = ctr (fun v => m.testBit v) (fg J) v nv := fun v hv hlt => by
    refine ctr_sub nv sub (fun u hu hm hn => bNo (fun w => ?_))
    rcases hs u hu hm with a | a
    · exact hn a
    · have := ctr_mono (P := pR J) w nv
      omega
  have em : min k (szr (pR J) nv) = min k (szr (fun v => m.testBit v) nv) := by
    have le := szr_le (P := pR J) (Q := fun v => m.testBit v) nv sub
    by_cases y : szr (pR J) nv < k
    · have : szr (pR J) nv = szr (fun v => m.testBit v) nv := by
        refine szr_ext nv (fun v hv => ?_)
        by_cases z : m.testBit v = true
        · rcases hs v hv z with a | a
          · rw [a]; exact z.symm
          · have := ctr_le (P := pR J) (g := fg J) (v := v) nv
            omega
        · rw [bNo z]
          exact bNo (fun w => z (sub v hv w))
      rw [this]
    · omega
  refine ⟨by rw [r1, em], fun v hv hm hlt => ?_⟩
  have hp : pR J v = true ∧ ctr (pR J) (fg J) v nv < k := by
    have le : ctr (pR J) (fg J) v nv ≤ ctr (fun v => m.testBit v) (fg J) v nv := by
      have : ∀ n, n ≤ nv → ctr (pR J) (fg J) v n ≤ ctr (fun v => m.testBit v) (fg J) v n := by
        intro n
        induction n with
        | zero => exact fun _ => Nat.le_refl _
        | succ n ih =>
          intro hn
          have := ih (by omega)
          rw [ctr_s, ctr_s]
          by_cases z : pR J n = true ∧ aB (fg J) n v = true
          · rw [if_pos z, if_pos ⟨sub n (by omega) z.1, z.2⟩]; omega
          · rw [if_neg z]; split <;> omega
      exact this nv (Nat.le_refl _)
    rcases hs v hv hm with a | a
    · exact ⟨a, by omega⟩
    · omega
  have q := r2 v hv hp.1 hp.2
  rw [ec v hv hp.2] at q
  exact q
end
