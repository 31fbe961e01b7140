section
variable {en : Int32 → Int32} {n r t o : Nat} {T : Nat → Int32} {rc : RECTC} {okc : OKRTC} {rr : RECTR} {okr : OKRTR}
/-- an operand, and what may be joined to it -/
theorem chainS {c : WI → WI} {gc : WI → Prop} {f : WI → WL → Int32 × WI × WL} {gf : WI → WL → Prop} (ht : 45 ≤ t ∧ t ≤ 55) (sim : Sim en n r T t o c gc f gf)
    {lc : Nat → Int32 → WI → WI} {glc : Nat → Int32 → WI → Prop} {lr : Nat → Int32 → WI → WL → Int32 × WI × WL} {glr : Nat → Int32 → WI → WL → Prop} (tok : WI → Prop) (tokR gt : WI → WL → Prop) (op : WI → Int32) (jn : WL → Int32 → Int32 → Int32)
    (hc1 : ∀ k x I, ¬ (160 : Int32) ≤ x → tok I → lc (k + 1) x I = lc k (x + 1) (v_81 (c (v_85 I)) t (op I))) (hc0 : ∀ k x I, ¬ tok I → lc (k + 1) x I = I)
    (hg1 : ∀ k x I, (tok I → g_85 I ∧ gc (v_85 I) ∧ g_81 (c (v_85 I)) t ∧ glc k (x + 1) (v_81 (c (v_85 I)) t (op I))) → glc (k + 1) x I)
    (hr1 : ∀ k v J L, tokR J L → lr (k + 1) v J L = lr k (jn L v (f (v_194 J L).1 (v_194 J L).2).1) (f (v_194 J L).1 (v_194 J L).2).2.1 (f (v_194 J L).1 (v_194 J L).2).2.2) (hr0 : ∀ k v J L, ¬ tokR J L → lr (k + 1) v J L = (v, J, L))
    (hgr : ∀ k v J L, gt J L → (tokR J L → g_194 J L ∧ gf (v_194 J L).1 (v_194 J L).2 ∧ glr k (jn L v (f (v_194 J L).1 (v_194 J L).2).1) (f (v_194 J L).1 (v_194 J L).2).2.1 (f (v_194 J L).1 (v_194 J L).2).2.2) → glr (k + 1) v J L)
    (hT : ∀ st s I J L, NF en n r T t o st s I J L → (tok I ∧ tokR J L ∧ nxt n st I J ∧ ∀ a b R, stp1 en (op I) (b :: a :: R) = jn L a b :: R) ∨ (¬ tok I ∧ ¬ tokR J L))
    (hF : ∀ I J L, FTs t I J → ¬ tok I ∧ ¬ tokR J L ∧ gt J L) (hgt : ∀ st s I J L, NF en n r T t o st s I J L → gt J L) :
    Sim en n r T t o (fun I => lc 400 0 (c I)) (fun I => gc I ∧ glc 400 0 (c I)) (fun J L => lr 400 (f J L).1 (f J L).2.1 (f J L).2.2) (fun J L => gf J L ∧ glr 400 (f J L).1 (f J L).2.1 (f J L).2.2) := by
  intro I J L st s h hs
  have h160 := h.1.1
  obtain ⟨m1, m2, m3⟩ := sim I J L st s h hs
  obtain ⟨q1, q2⟩ := loopS (I0 := I) ht sim hc1 hc0 hg1 hr1 hr0 hgr hT hF hgt hs
  rcases m3 with m3 | ⟨st', u1, u2⟩
  · obtain ⟨z1, z2, z3⟩ := q1 399 399 0 (f J L).1 _ _ (f J L).2.2 m3
    exact ⟨⟨m1, z1⟩, ⟨m2, z2⟩, z3⟩
  · obtain ⟨z1, z2, z3⟩ := q2 200 st' 400 400 0 _ _ _ _ (by omega) (by omega) (by omega) (by omega) u1 u2
    exact ⟨⟨m1, z1⟩, ⟨m2, z2⟩, z3⟩
theorem FT_tok {I J : WI} (h : FTs t I J) {c : Int32} (hc : ¬ c = 257) : ¬ I 31 4 = c := by
  obtain ⟨f, s, -, -, -, -, f5, -, -⟩ := h
  rw [f5]; exact fun q => hc q.symm
theorem FT_bad {I J : WI} (h : FTs t I J) : ¬ J 74 32 = 0 := by
  obtain ⟨f, s, -, -, f3, -, -, -, -⟩ := h
  exact f3
theorem st_join {op a b u : Int32} (h : op < -8) (hu : v_19 op a b = u) (R : List Int32) : stp1 en op (b :: a :: R) = u :: R := by
  have t8 : (-8 : Int32).toInt = -8 ∧ (-6 : Int32).toInt = -6 ∧ (0 : Int32).toInt = 0 := by decide
  have h8 := Int32.lt_iff_toInt_lt.mp h
  unfold stp1
  rw [if_pos (by rw [Int32.lt_iff_toInt_lt, t8.2.2]; omega), if_pos (by rw [Int32.lt_iff_toInt_lt, t8.2.1]; omega), if_pos h]
  dsimp only
  rw [hu]
theorem bxp {α : Type} (a : α) (f : α → Prop) : bx a f = f a := rfl
theorem Sim_eq {c c' : WI → WI} {gc gc' : WI → Prop} {f f' : WI → WL → Int32 × WI × WL} {gf gf' : WI → WL → Prop} (h : Sim en n r T t o c gc f gf) (h1 : ∀ I, c' I = c I) (h2 : ∀ I, gc' I = gc I) (h3 : ∀ J L, f' J L = f J L) (h4 : ∀ J L, gf' J L = gf J L) : Sim en n r T t o c' gc' f' gf' := by
  obtain rfl : c' = c := funext h1
  obtain rfl : gc' = gc := funext h2
  obtain rfl : f' = f := funext fun J => funext fun L => h3 J L
  obtain rfl : gf' = gf := funext fun J => funext fun L => h4 J L
  exact h
/-! products -/
theorem prodS (ht : 45 ≤ t ∧ t ≤ 55) (sim : Sim en n r T t o (fun I => v_103 rc I t (nI o)) (fun I => g_103 rc okc I t (nI o)) (v_206 rr) (g_206 rr okr)) : Sim en n r T t o (fun I => v_102 rc I t (nI o)) (fun I => g_102 rc okc I t (nI o)) (v_205 rr) (g_205 rr okr) := by
  have key := chainS ht sim (lc := lp_102_7 rc t (nI o)) (glc := gl_102_7 rc okc t (nI o)) (lr := lp_205_5 rr) (glr := gl_205_5 rr okr) (fun I => I 31 4 = 42) (fun J L => ¬ v_207 J L 42 = 0) (fun _ _ => True) (fun _ => -11) (fun _ a b => a * b)
    (fun k x I h1 h2 => by rw [lp_102_7, if_neg h1, if_neg (fun q => q h2), bxd, bxd, bxd])
    (fun k x I h1 => by rw [lp_102_7, if_pos h1]; split <;> rfl)
    (fun k x I h1 => by
      rw [gl_102_7]
      intro _ q
      obtain ⟨a1, a2, a3, a4⟩ := h1 (Classical.not_not.mp q)
      exact ⟨a1, a2, a3, a4⟩)
    (fun k v J L h1 => by rw [lp_205_5, if_neg h1, bxd, bxd])
    (fun k v J L h1 => by rw [lp_205_5, if_pos (Classical.not_not.mp h1)])
    (fun k v J L _ h1 => by
      rw [gl_205_5]
      intro q
      obtain ⟨a1, a2, a3⟩ := h1 q
      exact ⟨a1, a2, a3⟩)
    (fun st s I J L h => by
      rcases sgnT h s42 with ⟨m1, m2, m3, m4⟩ | ⟨m1, m2⟩
      · exact Or.inl ⟨m1, m2, m4, fun a b R => st_join (by decide) (by unfold v_19; rfl) R⟩
      · exact Or.inr ⟨m1, fun q => q m2⟩)
    (fun I J L h => ⟨FT_tok h (by decide), fun q => q (v207_F (FT_bad h) L 42), trivial⟩) (fun _ _ _ _ _ _ => trivial)
  exact Sim_eq key (fun I => by unfold v_102; rw [bxd, bxd]) (fun I => by unfold g_102; rw [bxp]) (fun J L => by unfold v_205; rw [bxd, bxd]) (fun J L => by unfold g_205; rw [bxp])
/-! sums -/
def opA (I : WI) : Int32 := if ¬ I 31 4 = 43 then -10 else -9
def jnA (L : WL) (a b : Int32) : Int32 := if (if ¬ lg_cmp (L 74 30) 43 = 0 then (0 : Int32) else 1) = 0 then a - b else a + b
theorem a_c1 (k : Nat) (x : Int32) (I : WI) (h1 : ¬ (160 : Int32) ≤ x) (h2 : I 31 4 = 43 ∨ I 31 4 = 45) : lp_101_7 rc t (nI o) (k + 1) x I = lp_101_7 rc t (nI o) k (x + 1) (v_81 (v_102 rc (v_85 I) t (nI o)) t (opA I)) := by
  rw [lp_101_7, if_neg h1]
  unfold opA
  by_cases c : I 31 4 = 43
  · rw [if_pos c, bxd, bxd, bxd, bxd]
  · rw [if_neg c, if_neg (fun q => h2.elim c q), bxd, bxd, bxd, bxd]
theorem a_c0 (k : Nat) (x : Int32) (I : WI) (h1 : ¬ (I 31 4 = 43 ∨ I 31 4 = 45)) : lp_101_7 rc t (nI o) (k + 1) x I = I := by
  rw [lp_101_7, if_neg (fun q => h1 (Or.inl q)), if_pos (fun q => h1 (Or.inr q))]
  split <;> rfl
theorem a_g1 (k : Nat) (x : Int32) (I : WI) (h1 : I 31 4 = 43 ∨ I 31 4 = 45 → g_85 I ∧ g_102 rc okc (v_85 I) t (nI o) ∧ g_81 (v_102 rc (v_85 I) t (nI o)) t ∧ gl_101_7 rc okc t (nI o) k (x + 1) (v_81 (v_102 rc (v_85 I) t (nI o)) t (opA I))) : gl_101_7 rc okc t (nI o) (k + 1) x I := by
  rw [gl_101_7]
  unfold opA at h1
  intro _
  refine ⟨fun c => ?_, fun c q => ?_⟩
  · exact h1 (Or.inl c)
  · exact h1 (Or.inr (Classical.not_not.mp q))
theorem a_r1 (k : Nat) (v : Int32) (J : WI) (L : WL) (h1 : ¬ v_207 J L 43 = 0 ∨ ¬ v_207 J L 45 = 0) : lp_204_5 rr (k + 1) v J L = lp_204_5 rr k (jnA L v (v_205 rr (v_194 J L).1 (v_194 J L).2).1) (v_205 rr (v_194 J L).1 (v_194 J L).2).2.1 (v_205 rr (v_194 J L).1 (v_194 J L).2).2.2 := by
  rw [lp_204_5]
  unfold jnA
  by_cases c : ¬ v_207 J L 43 = 0
  · rw [if_pos c, bxd, bxd, bxd, bxd]
  · rw [if_neg c, if_neg (h1.elim (fun q => absurd q c) id), bxd, bxd, bxd, bxd]
theorem a_r0 (k : Nat) (v : Int32) (J : WI) (L : WL) (h1 : ¬ (¬ v_207 J L 43 = 0 ∨ ¬ v_207 J L 45 = 0)) : lp_204_5 rr (k + 1) v J L = (v, J, L) := by
  rw [lp_204_5, if_neg (fun q => h1 (Or.inl q)), if_pos (Classical.not_not.mp (fun q => h1 (Or.inr q)))]
theorem a_gr (k : Nat) (v : Int32) (J : WI) (L : WL) (h1 : ¬ v_207 J L 43 = 0 ∨ ¬ v_207 J L 45 = 0 → g_194 J L ∧ g_205 rr okr (v_194 J L).1 (v_194 J L).2 ∧ gl_204_5 rr okr k (jnA L v (v_205 rr (v_194 J L).1 (v_194 J L).2).1) (v_205 rr (v_194 J L).1 (v_194 J L).2).2.1 (v_205 rr (v_194 J L).1 (v_194 J L).2).2.2) : gl_204_5 rr okr (k + 1) v J L := by
  rw [gl_204_5]
  unfold jnA at h1
  refine ⟨fun c => ?_, fun _ c => ?_⟩
  · exact h1 (Or.inl c)
  · exact h1 (Or.inr c)
theorem v19_9 (a b : Int32) : v_19 (-9) a b = a + b := by
  unfold v_19
  rw [if_neg (by decide), if_neg (by decide), if_neg (by decide), if_neg (by decide), if_neg (by decide), if_pos rfl]
theorem v19_10 (a b : Int32) : v_19 (-10) a b = a - b := by
  unfold v_19
  rw [if_neg (by decide), if_neg (by decide), if_neg (by decide), if_neg (by decide), if_pos rfl]
theorem a_T {st s : Nat} {I J : WI} {L : WL} (h : NF en n r T t o st s I J L) : ((I 31 4 = 43 ∨ I 31 4 = 45) ∧ (¬ v_207 J L 43 = 0 ∨ ¬ v_207 J L 45 = 0) ∧ nxt n st I J ∧ ∀ a b R, stp1 en (opA I) (b :: a :: R) = jnA L a b :: R) ∨ (¬ (I 31 4 = 43 ∨ I 31 4 = 45) ∧ ¬ (¬ v_207 J L 43 = 0 ∨ ¬ v_207 J L 45 = 0)) := by
  have e43 : (43 : Int64) = Int32.toInt64 43 := by decide
  rcases sgnT h s43 with ⟨m1, m2, m3, m4⟩ | ⟨m1, m2⟩
  · refine Or.inl ⟨Or.inl m1, Or.inl m2, m4, fun a b R => ?_⟩
    have c1 : ¬ ¬ lg_cmp (L 74 30) 43 = 0 := fun q => q ((lg0 _ _).mpr (by rw [m3, e43]))
    unfold opA jnA
    rw [if_neg (fun q => q m1), if_neg c1, if_neg d10]
    exact st_join (by decide) (v19_9 a b) R
  · rcases sgnT h s45 with ⟨p1, p2, p3, p4⟩ | ⟨p1, p2⟩
    · refine Or.inl ⟨Or.inr p1, Or.inr p2, p4, fun a b R => ?_⟩
      have c1 : ¬ lg_cmp (L 74 30) 43 = 0 := fun q => by
        have := (lg0 _ _).mp q
        rw [p3, e43] at this
        exact absurd (t64.mp this) (by decide)
      unfold opA jnA
      rw [if_pos m1, if_pos c1, if_pos rfl]
      exact st_join (by decide) (v19_10 a b) R
    · exact Or.inr ⟨fun q => q.elim m1 p1, fun q => q.elim (fun w => w m2) (fun w => w p2)⟩
theorem sumS (ht : 45 ≤ t ∧ t ≤ 55) (sim : Sim en n r T t o (fun I => v_102 rc I t (nI o)) (fun I => g_102 rc okc I t (nI o)) (v_205 rr) (g_205 rr okr)) : Sim en n r T t o (fun I => v_101 rc I t (nI o)) (fun I => g_101 rc okc I t (nI o)) (v_204 rr) (g_204 rr okr) := by
  have key := chainS ht sim (lc := lp_101_7 rc t (nI o)) (glc := gl_101_7 rc okc t (nI o)) (lr := lp_204_5 rr) (glr := gl_204_5 rr okr) (fun I => I 31 4 = 43 ∨ I 31 4 = 45) (fun J L => ¬ v_207 J L 43 = 0 ∨ ¬ v_207 J L 45 = 0) (fun _ _ => True) opA jnA
    a_c1 a_c0 a_g1 a_r1 a_r0 (fun k v J L _ h1 => a_gr k v J L h1) (fun st s I J L h => a_T h)
    (fun I J L h => ⟨fun q => q.elim (FT_tok h (by decide)) (FT_tok h (by decide)), fun q => q.elim (fun w => w (v207_F (FT_bad h) L 43)) (fun w => w (v207_F (FT_bad h) L 45)), trivial⟩) (fun _ _ _ _ _ _ => trivial)
  exact Sim_eq key (fun I => by unfold v_101; rw [bxd, bxd]) (fun I => by unfold g_101; rw [bxp]) (fun J L => by unfold v_204; rw [bxd, bxd]) (fun J L => by unfold g_204; rw [bxp])
end
