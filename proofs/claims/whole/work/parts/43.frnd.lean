section
variable {b nv nc tc : Nat} {I J : WI}
/-! who is nearest to whom; the closest pair -/
theorem friend_lp (hA : kA b I J) (hP : kP b I J) (hV : kV b nv nc I J) (h4 : nc ≤ 4) {v : Nat} (hv : v < nv) : ∀ k, k ≤ nv → ∃ e, lp_1_8 I b (nI v) (-1) 0 k = (lp_246_4 J (nI v) (-1) k, e) ∧
    (lp_246_4 J (nI v) (-1) k = -1 ∨ ∃ f, f < k ∧ lp_246_4 J (nI v) (-1) k = nI f ∧ e = v_183 J (nI v) (nI f)) := by
  have h12 := hV.1
  intro k
  induction k with
  | zero => intro _; exact ⟨0, rfl, Or.inl rfl⟩
  | succ k ih =>
    intro hk
    obtain ⟨e, h1, h2⟩ := ih (by omega)
    have ht := (there_eq hV h4 (v := k) (by omega)).1
    have hd := betw_eq (b := b) hA hP (v := v) (w := k) (by omega) (by omega)
    have keep : lp_246_4 J (nI v) (-1) k = -1 ∨ ∃ f, f < k + 1 ∧ lp_246_4 J (nI v) (-1) k = nI f ∧ e = v_183 J (nI v) (nI f) := by
      rcases h2 with h | ⟨f, hf, h⟩
      · exact Or.inl h
      · exact Or.inr ⟨f, by omega, h⟩
    rw [lp_1_8, lp_246_4, h1, ht, hd]
    simp only [bx]
    by_cases z : nI k = nI v
    · simp only [if_pos z]; exact ⟨e, rfl, keep⟩
    · simp only [if_neg z]
      by_cases y : v_180 J (nI k) = 0
      · simp only [if_pos y]; exact ⟨e, rfl, keep⟩
      · simp only [if_neg y]
        rcases h2 with h | ⟨f, hf, h, he⟩
        · simp only [if_pos h]
          exact ⟨_, rfl, Or.inr ⟨k, by omega, rfl, rfl⟩⟩
        · have hne : ¬ lp_246_4 J (nI v) (-1) k = -1 := by rw [h]; exact nIm1 (by omega)
          simp only [if_neg hne]
          by_cases x : v_183 J (nI v) (nI f) ≤ v_183 J (nI v) (nI k)
          · simp only [if_pos (show e ≤ v_183 J (nI v) (nI k) from he ▸ x), if_pos (show v_183 J (nI v) (lp_246_4 J (nI v) (-1) k) ≤ v_183 J (nI v) (nI k) from h.symm ▸ x)]
            exact ⟨_, rfl, keep⟩
          · simp only [if_neg (show ¬ e ≤ v_183 J (nI v) (nI k) from he ▸ x), if_neg (show ¬ v_183 J (nI v) (lp_246_4 J (nI v) (-1) k) ≤ v_183 J (nI v) (nI k) from h.symm ▸ x)]
            exact ⟨_, rfl, Or.inr ⟨k, by omega, rfl, rfl⟩⟩
theorem friend_eq (hA : kA b I J) (hP : kP b I J) (hV : kV b nv nc I J) (h4 : nc ≤ 4) {v : Nat} (hv : v < nv) : v_1 I b (nI v) = v_246 J (nI v) := by
  have h12 := hV.1
  obtain ⟨e, h1, -⟩ := friend_lp hA hP hV h4 hv nv (Nat.le_refl _)
  unfold v_1 v_246
  rw [hV.2.1, hV.2.2.1, cl (show nv < 2 ^ 31 by omega), h1]
  rfl
theorem g_friend (hA : kA b I J) (hP : kP b I J) (hV : kV b nv nc I J) (h4 : nc ≤ 4) {v : Nat} (hv : v < nv) : g_1 I b (nI v) ∧ g_246 J (nI v) := by
  have h12 := hV.1
  constructor
  · unfold g_1 gl_1_8
    rw [hV.2.1, cl (show nv < 2 ^ 31 by omega)]
    intro k hk _ _
    exact (g_betw (J := J) (by omega) (by omega)).1
  · unfold g_246 gl_246_4
    rw [hV.2.2.1, cl (show nv < 2 ^ 31 by omega)]
    intro k hk _
    refine ⟨g180 (by omega), fun _ hn => ⟨(g_betw (I := I) (b := b) (by omega) (by omega)).2, ?_⟩⟩
    obtain ⟨e, -, h2⟩ := friend_lp hA hP hV h4 hv k (by omega)
    rcases h2 with h | ⟨f, hf, h, -⟩
    · exact absurd h hn
    · rw [h]
      exact (g_betw (I := I) (b := b) (by omega) (by omega)).2
theorem friends_lp (hA : kA b I J) (hP : kP b I J) (hV : kV b nv nc I J) (h4 : nc ≤ 4) (x : Int32) : ∀ k, k ≤ nv → lp_2_5 I b x 0 k = lp_245_26 J x 0 k := by
  have h12 := hV.1
  intro k
  induction k with
  | zero => intro _; rfl
  | succ k ih =>
    intro hk
    rw [lp_2_5, lp_245_26, ih (by omega), (there_eq hV h4 (v := k) (by omega)).1, friend_eq hA hP hV h4 (v := k) (by omega)]
    simp only [bx]
    by_cases y : v_180 J (nI k) = 0
    · simp only [if_pos y]
      rw [sh0 (by omega), Int32.or_zero]
    · simp only [if_neg y]
      by_cases z : v_246 J (nI k) = x
      · simp only [if_neg (show ¬ ¬ v_246 J (nI k) = x from fun q => q z)]
      · simp only [if_pos z]
        rw [sh0 (by omega), Int32.or_zero]
theorem op_friend (h : kR 1 nv nc tc I J) (x1 x2 : Int32) : g_132 I x1 x2 ∧ g_245 J x1 x2 ∧ v_132 I x1 x2 = v_245 J x1 x2 := by
  obtain ⟨hA, hQ, hC, hB, hP, hV, hN, -⟩ := h
  have h12 := hV.1
  have h4 := hC.1
  unfold v_132 v_245 g_132 g_245
  rw [(e110 hV x1).1, (e110 hV x1).2, show (0 : Int64) = Int32.toInt64 0 by decide, show (1 : Int64) = Int32.toInt64 1 by decide, v170_107]
  rcases vnum (nv := nv) (by omega) x1 with ⟨e1, v, hv, rfl⟩ | e1
  · have hf := friend_eq hA hP hV h4 hv
    have hg := g_friend hA hP hV h4 hv
    have hs := friends_lp hA hP hV h4 (nI v) nv (Nat.le_refl _)
    have e2 : v_2 I 1 (nI v) = lp_245_26 J (nI v) 0 nv := by
      unfold v_2
      rw [hV.2.1, cl (show nv < 2 ^ 31 by omega), hs]
      rfl
    rw [e1, if_neg d10, if_neg d10, e2, hf, hV.2.2.1, cl (show nv < 2 ^ 31 by omega)]
    simp only [bx]
    refine ⟨fun _ _ => ⟨fun _ => ?_, fun _ => hg.1⟩, fun _ _ => ⟨?_, fun _ => hg.2⟩, trivial⟩
    · unfold g_2 gl_2_5
      rw [hV.2.1, cl (show nv < 2 ^ 31 by omega)]
      intro k hk _
      exact (g_friend hA hP hV h4 (show k < nv by omega)).1
    · unfold gl_245_26
      intro k hk
      exact ⟨g180 (by omega), fun _ => (g_friend hA hP hV h4 (show k < nv by omega)).2⟩
  · rw [e1, if_pos rfl, if_pos rfl]
    exact ⟨fun g => absurd rfl g, fun g => absurd rfl g, rfl⟩
end
