section
variable {I J I' J' : WI} {F G F' G' : WF}
/-- what a sheet that stands holds, and how big it is -/
def kHp (s n : Nat) (I J : WI) (F G : WF) : Prop := n ≤ 40 ∧ I (58 + 4 * s) 1 = nI n ∧ J 113 s = nI n ∧ I (58 + 4 * s) 0 = J 112 s ∧
    ((J 112 s = 0 ∧ ∀ i, i < n → q4 (G 115 (40 * s + i)) ∧ ((J 116 (40 * s + i) = 0 ∧ F (58 + 4 * s + 1) i = G 115 (40 * s + i)) ∨ (J 116 (40 * s + i) = 1 ∧ F (58 + 4 * s + 1) i = FP.fconst0))) ∨
     (J 112 s = 1 ∧ ∀ i, i < n → I (58 + 4 * s + 2) i = J 114 (40 * s + i) ∧ bt (-128) 127 (J 114 (40 * s + i))) ∨
     (J 112 s = 2 ∧ ∀ i, i < n → I (58 + 4 * s + 3) i = J 114 (40 * s + i) ∧ bt (-32768) 32767 (J 114 (40 * s + i))))
theorem kHp_ne {s n : Nat} (h : kHp s n I J F G) : ¬ I (58 + 4 * s) 0 = -1 := by
  rw [h.2.2.2.1]
  exact sort_ne (by rcases h.2.2.2.2 with ⟨q, -⟩ | ⟨q, -⟩ | ⟨q, -⟩ <;> rw [q] <;> decide)
theorem g47 {s i : Nat} (hi : i < 40) (x : Int32) : g_47 I (58 + 4 * s) (nI i) x := by
  have hi40 : vp_in (nI i) 40 := vin hi (by omega)
  exact ⟨fun _ => ⟨q4_put x, hi40⟩, fun _ => ⟨fun _ => hi40, fun _ => ⟨fun _ => hi40, fun _ => trivial⟩⟩⟩
theorem v47_0 {b i : Nat} (hi : i < 40) (h : I b 0 = 0) (x : Int32) : v_47 I F b (nI i) x = (I, up2 F (b + 1) i (FP.fmul (FP.i2f x) 1048576000)) := by
  unfold v_47
  rw [if_pos h, cl (by omega)]
theorem v47_1 {b i : Nat} (hi : i < 40) (h : I b 0 = 1) (x : Int32) : v_47 I F b (nI i) x = (up2 I (b + 2) i (Int8.toInt32 (Int32.toInt8 x)), F) := by
  unfold v_47
  rw [if_neg (by rw [h]; decide), if_pos h, cl (by omega), bT1, pk_vb]
theorem v47_2 {b i : Nat} (hi : i < 40) (h : I b 0 = 2) (x : Int32) : v_47 I F b (nI i) x = (up2 I (b + 3) i (Int16.toInt32 (Int32.toInt16 x)), F) := by
  unfold v_47
  rw [if_neg (by rw [h]; decide), if_neg (by rw [h]; decide), if_pos h, cl (by omega), pk_vs]
theorem v47_fr {b i : Nat} (hi : i < 40) (x : Int32) : (∀ c k, ¬ (b + 2 ≤ c ∧ c ≤ b + 3) → (v_47 I F b (nI i) x).1 c k = I c k) ∧ (∀ c k, c ≠ b + 1 → (v_47 I F b (nI i) x).2 c k = F c k) := by
  unfold v_47
  split
  · exact ⟨fun _ _ _ => rfl, fun c k h => up2_nk (by omega)⟩
  · split
    · exact ⟨fun c k h => up2_nk (by omega), fun _ _ _ => rfl⟩
    · split
      · exact ⟨fun c k h => up2_nk (by omega), fun _ _ _ => rfl⟩
      · exact ⟨fun _ _ _ => rfl, fun _ _ _ => rfl⟩
/-- one item written -/
theorem wr_rel {s n i : Nat} (hi : i < n) (h : kHp s n I J F G) (x : Int32) (hJ : ∀ c k, ¬ ((c = 114 ∨ c = 116) ∧ k = 40 * s + i) → J' c k = J c k) (hG : ∀ k, k ≠ 40 * s + i → G' 115 k = G 115 k)
    (h1 : J 112 s = 1 → J' 114 (40 * s + i) = Int8.toInt32 (Int32.toInt8 x)) (h2 : J 112 s = 2 → J' 114 (40 * s + i) = Int16.toInt32 (Int32.toInt16 x)) (h0 : J 112 s = 0 → G' 115 (40 * s + i) = FP.fmul (FP.i2f x) 1048576000 ∧ J' 116 (40 * s + i) = 0) :
    kHp s n (v_47 I F (58 + 4 * s) (nI i) x).1 J' (v_47 I F (58 + 4 * s) (nI i) x).2 G' := by
  obtain ⟨hn, a2, a3, a4, a5⟩ := h
  have fr := v47_fr (I := I) (F := F) (b := 58 + 4 * s) (i := i) (by omega) x
  refine ⟨hn, by rw [fr.1 _ _ (by omega)]; exact a2, by rw [hJ _ _ (by omega)]; exact a3, by rw [fr.1 _ _ (by omega), hJ _ _ (by omega)]; exact a4, ?_⟩
  rw [hJ 112 s (by omega)]
  rcases a5 with ⟨a5, a6⟩ | ⟨a5, a6⟩ | ⟨a5, a6⟩
  · refine Or.inl ⟨a5, fun j hj => ?_⟩
    rw [v47_0 (by omega) (a4.trans a5)]
    obtain ⟨h01, h02⟩ := h0 a5
    by_cases y : j = i
    · subst y
      rw [h01]
      exact ⟨⟨x, rfl⟩, Or.inl ⟨h02, by simp [up2]⟩⟩
    · rw [hG _ (by omega), hJ _ _ (by omega)]
      have e : (I, up2 F (58 + 4 * s + 1) i (FP.fmul (FP.i2f x) 1048576000)).2 (58 + 4 * s + 1) j = F (58 + 4 * s + 1) j := up2_nk (by omega)
      rw [e]
      exact a6 j hj
  · refine Or.inr (Or.inl ⟨a5, fun j hj => ?_⟩)
    rw [v47_1 (by omega) (a4.trans a5)]
    by_cases y : j = i
    · subst y
      rw [h1 a5]
      exact ⟨by simp [up2], b8 x⟩
    · rw [hJ _ _ (by omega)]
      have e : (up2 I (58 + 4 * s + 2) i (Int8.toInt32 (Int32.toInt8 x)), F).1 (58 + 4 * s + 2) j = I (58 + 4 * s + 2) j := up2_nk (by omega)
      rw [e]
      exact a6 j hj
  · refine Or.inr (Or.inr ⟨a5, fun j hj => ?_⟩)
    rw [v47_2 (by omega) (a4.trans a5)]
    by_cases y : j = i
    · subst y
      rw [h2 a5]
      exact ⟨by simp [up2], b16 x⟩
    · rw [hJ _ _ (by omega)]
      have e : (up2 I (58 + 4 * s + 3) i (Int16.toInt32 (Int32.toInt16 x)), F).1 (58 + 4 * s + 3) j = I (58 + 4 * s + 3) j := up2_nk (by omega)
      rw [e]
      exact a6 j hj
/-- one sheet changed, the others as before -/
theorem kHs_one {s : Nat} (hs : s < 4) (h : kHs I J F G) (h1 : kH s I' J' F' G') (hI : ∀ c k, 58 ≤ c → c < 74 → ¬ (58 + 4 * s ≤ c ∧ c < 62 + 4 * s) → I' c k = I c k) (hF : ∀ c k, 58 ≤ c → c < 74 → c ≠ 58 + 4 * s + 1 → F' c k = F c k)
    (hJ : ∀ c k, c = 111 ∨ c = 112 ∨ c = 113 → k ≠ s → J' c k = J c k) (hJ2 : ∀ c k, c = 114 ∨ c = 116 → ¬ (40 * s ≤ k ∧ k < 40 * s + 40) → J' c k = J c k) (hG : ∀ k, ¬ (40 * s ≤ k ∧ k < 40 * s + 40) → G' 115 k = G 115 k) : kHs I' J' F' G' := by
  intro s' hs'
  by_cases y : s' = s
  · subst y; exact h1
  · refine kH_cg (h s' hs') (fun c k _ _ => hI c k (by omega) (by omega) (by omega)) (fun k => hF _ k (by omega) (by omega) (by omega)) (fun c k hk => ?_) (fun k _ _ => hG k (by omega))
    rcases hk with ⟨hc, hk⟩ | ⟨hc, hk⟩
    · exact hJ c k hc (by omega)
    · exact hJ2 c k hc (by omega)
theorem kH_p {s : Nat} (h : kH s I J F G) : (J 111 s = 0 ∧ I (58 + 4 * s) 0 = -1 ∧ I (58 + 4 * s) 1 = 0) ∨ (J 111 s = 1 ∧ ∃ n, kHp s n I J F G) := h
theorem p_kH {s n : Nat} (h1 : J 111 s = 1) (h : kHp s n I J F G) : kH s I J F G := Or.inr ⟨h1, n, h⟩
theorem op_put (h : kHs I J F G) (x1 x2 x3 : Int32) : g_157 I x1 x2 x3 ∧ g_271 J x1 x2 x3 ∧ (v_157 I F x1 x2 x3).1 = (v_271 J G x1 x2 x3).1 ∧ kHs (v_157 I F x1 x2 x3).2.1 (v_271 J G x1 x2 x3).2.1 (v_157 I F x1 x2 x3).2.2 (v_271 J G x1 x2 x3).2.2 := by
  unfold g_157 g_271 v_157 v_271 g_158 g_272
  rcases sh4 x1 with ⟨e, e', s, hs, rfl⟩ | ⟨e, e'⟩
  · have hs4 : vp_in (nI s) 4 := vin hs (by omega)
    rcases kH_p (h s hs) with ⟨h1, h2, h3⟩ | ⟨h1, n, hp⟩
    · rw [v158_m hs e h2, e', if_neg (show ¬ (-11 : Int32) = 0 by decide), if_pos d10, cl (show s < 2 ^ 31 by omega), h1, if_neg d00]
      exact ⟨⟨fun _ => hs4, fun q => absurd q (by decide)⟩, fun _ => ⟨hs4, fun q => absurd rfl q⟩, rfl, h⟩
    · have hne := kHp_ne hp
      have hp2 := hp
      obtain ⟨hn, h2, h3, h4, h5⟩ := hp2
      rw [v158_p hs e hne, if_pos (Or.inl rfl), run1 h2 hn, v272_eq hs h3, e', if_pos d10, cl (show s < 2 ^ 31 by omega), h1, if_pos d10]
      rcases vnum (nv := n) hn x2 with ⟨e2, i, hi, rfl⟩ | e2
      · have i1 := in160 hs (show i < 40 by omega)
        rw [e2, if_neg d10, if_pos rfl, if_pos d10, i1.2, nar0.1, fdiv4]
        simp only [bx]
        refine ⟨⟨fun _ => hs4, fun _ => ⟨hs4, g47 (by omega) _⟩⟩, fun _ => ⟨hs4, fun _ => ⟨hs4, fun _ => ⟨hs4, i1.1, q4_put x3, i1.1⟩⟩⟩, trivial, ?_⟩
        have fr := v47_fr (I := I) (F := F) (b := 58 + 4 * s) (i := i) (by omega) x3
        refine kHs_one hs h (p_kH (n := n) ?_ (wr_rel hi hp x3 (fun c k hk => ?_) (fun k hk => ?_) (fun q => ?_) (fun q => ?_) (fun q => ?_))) (fun c k _ _ _ => fr.1 c k (by omega)) (fun c k _ _ _ => fr.2 c k (by omega)) (fun c k hc hk => ?_) (fun c k hc hk => ?_) (fun k hk => ?_)
        · rw [up2_nk (by omega), up2_nk (by omega)]; exact h1
        · rw [up2_nk (by omega), up2_nk (by omega)]
        · rw [up2_nk (by omega)]
        · rw [up2_nk (by omega), q, if_neg (fun z => z rfl)]; simp [up2]
        · rw [up2_nk (by omega), q, if_pos (by decide)]; simp [up2]
        · exact ⟨by simp [up2], by simp [up2]⟩
        · rw [up2_nk (by omega), up2_nk (by omega)]
        · rw [up2_nk (by omega), up2_nk (by omega)]
        · rw [up2_nk (by omega)]
      · rw [e2, if_pos rfl, if_neg (show ¬ (-12 : Int32) = 0 by decide), if_neg d00]
        exact ⟨⟨fun _ => hs4, fun q => absurd q (by decide)⟩, fun _ => ⟨hs4, fun _ => ⟨hs4, fun q => absurd rfl q⟩⟩, rfl, h⟩
  · rw [v158_n e, e, e', if_neg (show ¬ (-2 : Int32) = 0 by decide), if_neg d00]
    exact ⟨⟨fun q => absurd rfl q, fun q => absurd q (by decide)⟩, fun q => absurd rfl q, rfl, h⟩
theorem op_blank (h : kHs I J F G) (x1 x2 : Int32) : g_159 I x1 x2 ∧ g_273 J x1 x2 ∧ (v_159 I F x1 x2).1 = (v_273 J x1 x2).1 ∧ kHs I (v_273 J x1 x2).2 (v_159 I F x1 x2).2 G := by
  unfold g_159 g_273 v_159 v_273 g_158 g_272
  rcases sh4 x1 with ⟨e, e', s, hs, rfl⟩ | ⟨e, e'⟩
  · have hs4 : vp_in (nI s) 4 := vin hs (by omega)
    rcases kH_p (h s hs) with ⟨h1, h2, h3⟩ | ⟨h1, n, hp⟩
    · rw [v158_m hs e h2, e', if_neg (show ¬ (-11 : Int32) = 0 by decide), if_pos d10, cl (show s < 2 ^ 31 by omega), h1, if_neg d00]
      exact ⟨⟨fun _ => hs4, fun q => absurd q (by decide)⟩, fun _ => ⟨hs4, fun q => absurd rfl q⟩, rfl, h⟩
    · have hne := kHp_ne hp
      have hp2 := hp
      obtain ⟨hn, h2, h3, h4, h5⟩ := hp2
      rw [v158_p hs e hne, run1 h2 hn, v272_eq hs h3, e', if_pos d10, cl (show s < 2 ^ 31 by omega), h1, if_pos d10]
      by_cases c : J 112 s = 0
      · rw [if_pos (Or.inr (by rw [h4, c])), if_pos c]
        rcases vnum (nv := n) hn x2 with ⟨e2, i, hi, rfl⟩ | e2
        · have i1 := in160 hs (show i < 40 by omega)
          rw [e2, if_neg d10, if_pos rfl, if_pos d10, i1.2, nar0.2]
          simp only [bx]
          refine ⟨⟨fun _ => hs4, fun _ => ⟨hs4, vin (by omega) (by omega)⟩⟩, fun _ => ⟨hs4, fun _ => ⟨hs4, fun _ => ⟨hs4, fun _ => i1.1⟩⟩⟩, trivial, ?_⟩
          unfold v_49
          rw [cl (show i < 2 ^ 31 by omega)]
          refine kHs_one hs h (p_kH (n := n) ?_ ⟨hn, h2, ?_, ?_, Or.inl ⟨?_, fun j hj => ?_⟩⟩) (fun _ _ _ _ _ => rfl) (fun c k _ _ hc => ?_) (fun c k hc hk => ?_) (fun c k hc hk => ?_) (fun _ _ => rfl)
          · rw [up2_nk (by omega)]; exact h1
          · rw [up2_nk (by omega)]; exact h3
          · rw [up2_nk (by omega)]; exact h4
          · rw [up2_nk (by omega)]; exact c
          · rcases h5 with ⟨-, h6⟩ | ⟨q, -⟩ | ⟨q, -⟩
            · refine ⟨(h6 j hj).1, ?_⟩
              by_cases y : j = i
              · subst y
                exact Or.inr ⟨by simp [up2], by simp [up2]⟩
              · rw [up2_nk (by omega), up2_nk (by omega)]
                exact (h6 j hj).2
            · rw [c] at q; exact absurd q (by decide)
            · rw [c] at q; exact absurd q (by decide)
          · rw [up2_nk (by omega)]
          · rw [up2_nk (by omega)]
          · rw [up2_nk (by omega)]
        · rw [e2, if_pos rfl, if_neg (show ¬ (-12 : Int32) = 0 by decide), if_neg d00]
          exact ⟨⟨fun _ => hs4, fun q => absurd q (by decide)⟩, fun _ => ⟨hs4, fun _ => ⟨hs4, fun _ => ⟨hs4, fun q => absurd rfl q⟩⟩⟩, rfl, h⟩
      · have hc : ¬ ((0 : Int32) = 3 ∨ 0 = I (58 + 4 * s) 0) := by
          rw [h4]
          rintro (q | q)
          · exact absurd q (by decide)
          · exact c q.symm
        rw [if_neg hc, if_neg (show ¬ (-13 : Int32) = 0 by decide), if_neg c]
        exact ⟨⟨fun _ => hs4, fun q => absurd q (by decide)⟩, fun _ => ⟨hs4, fun _ => ⟨hs4, fun q => absurd q c⟩⟩, rfl, h⟩
  · rw [v158_n e, e, e', if_neg (show ¬ (-2 : Int32) = 0 by decide), if_neg d00]
    exact ⟨⟨fun q => absurd rfl q, fun q => absurd q (by decide)⟩, fun q => absurd rfl q, rfl, h⟩
end
