section
/-! a judge's row of steps -/
def jk (I : WI) : List Int32 → Prop
  | [] => True
  | a :: r => I 36 r.length = a ∧ jk I r
theorem jk_cg {I J : WI} : ∀ {st : List Int32}, (∀ k, k < st.length → J 36 k = I 36 k) → jk I st → jk J st := by
  intro st
  induction st with
  | nil => exact fun _ _ => trivial
  | cons a r ih => exact fun h w => ⟨(h _ (Nat.lt_succ_self _)).trans w.1, ih (fun k hk => h k (Nat.lt_succ_of_lt hk)) w.2⟩
def jst (I : WI) (r4 : Nat) (x5 s : Int32) : WI := if s < 0 then (if s < (-6) then (if s < (-8) then v_18 I s else v_16 I s) else v_14 I (v_15 I s r4 x5)) else v_14 I s
def jgd (I : WI) (x5 s : Int32) : Prop := (s < 0 → (s < (-6) → (s < (-8) → g_18 I) ∧ (¬ s < (-8) → g_16 I s)) ∧ (¬ s < (-6) → g_15 s x5 ∧ g_14 I)) ∧ (¬ s < 0 → g_14 I)
theorem jst_o {I : WI} {r4 : Nat} {x5 s : Int32} {c k : Nat} (h1 : c ≠ 36) (h2 : ¬ (c = 35 ∧ k = 1)) : jst I r4 x5 s c k = I c k := by
  have a18 : v_18 I s c k = I c k := by
    unfold v_18
    split
    · rfl
    · exact (up2_nk (by omega)).trans (up2_nk (by omega))
  have a16 : v_16 I s c k = I c k := by
    unfold v_16
    split
    · rfl
    · rw [bxd]; exact up2_nk (by omega)
  have a14 : ∀ x, v_14 I x c k = I c k := fun x => by
    unfold v_14
    split
    · rfl
    · exact (up2_nk (by omega)).trans (up2_nk (by omega))
  unfold jst
  split
  · split
    · split
      · exact a18
      · exact a16
    · exact a14 _
  · exact a14 _
theorem up2_pt {I : WI} {c k : Nat} {x : Int32} : up2 I c k x c k = x := by simp [up2]
theorem push {I : WI} {st : List Int32} (h1 : I 35 1 = nI st.length) (h2 : jk I st) (hl : st.length < 160) (x : Int32) : g_14 I ∧ v_14 I x 35 1 = nI (x :: st).length ∧ jk (v_14 I x) (x :: st) := by
  have e : ¬ (160 : Int32) ≤ I 35 1 := by
    rw [h1, show (160 : Int32) = nI 160 from rfl, nI_leI (by omega) (by omega)]; omega
  unfold g_14 v_14
  rw [if_neg e, h1, cl (show st.length < 2 ^ 31 by omega)]
  refine ⟨fun _ => vin (by omega) (by omega), ?_, ?_, ?_⟩
  · rw [up2_pt, show (1 : Int32) = nI 1 from rfl, nI_add]; rfl
  · exact (up2_nk (by omega)).trans up2_pt
  · exact jk_cg (fun k hk => (up2_nk (by omega)).trans (up2_nk (by omega))) h2
theorem v19_st (s a b : Int32) (r : List Int32) (h1 : s < 0) (h2 : s < -6) (h3 : s < -8) (en : Int32 → Int32) : stp1 en s (b :: a :: r) = v_19 s a b :: r := by
  unfold stp1
  rw [if_pos h1, if_pos h2, if_pos h3]
theorem jstep {I : WI} {r4 x : Nat} {st : List Int32} {en : Int32 → Int32} (s : Int32) (h1 : I 35 1 = nI st.length) (h2 : jk I st) (hl : st.length < 160) (hx : x < 12) (hen : ∀ z, z < 0 → ¬ z < -6 → v_15 I z r4 (nI x) = en z) :
    jgd I (nI x) s ∧ jst I r4 (nI x) s 35 1 = nI (stp1 en s st).length ∧ jk (jst I r4 (nI x) s) (stp1 en s st) ∧ (stp1 en s st).length ≤ st.length + 1 := by
  have p14 := push h1 h2 hl
  by_cases n1 : s < 0
  · by_cases n2 : s < -6
    · by_cases n3 : s < -8
      · have ej : jst I r4 (nI x) s = v_18 I s := by unfold jst; rw [if_pos n1, if_pos n2, if_pos n3]
        rw [ej]
        have eg : g_18 I → jgd I (nI x) s := fun g => ⟨fun _ => ⟨fun _ => ⟨fun _ => g, fun w => absurd n3 w⟩, fun w => absurd n2 w⟩, fun w => absurd n1 w⟩
        match st, h1, h2, hl with
        | [], h1, h2, _ =>
          have e : I 35 1 ≤ (1 : Int32) := by rw [h1]; decide
          have es : stp1 en s [] = [] := by unfold stp1; rw [if_pos n1, if_pos n2, if_pos n3]
          rw [es]
          refine ⟨eg (fun w => absurd e w), ?_, trivial, by simp⟩
          unfold v_18; rw [if_pos e]; exact h1
        | [b], h1, h2, _ =>
          have e : I 35 1 ≤ (1 : Int32) := by rw [h1]; exact Int32.le_refl _
          have es : stp1 en s [b] = [b] := by unfold stp1; rw [if_pos n1, if_pos n2, if_pos n3]
          rw [es]
          refine ⟨eg (fun w => absurd e w), ?_, ?_, by simp⟩
          · unfold v_18; rw [if_pos e]; exact h1
          · unfold v_18; rw [if_pos e]; exact h2
        | b :: a :: r, h1, h2, hl =>
          have hr : r.length + 2 < 160 := hl
          have h1 : I 35 1 = nI (r.length + 2) := h1
          have e : ¬ I 35 1 ≤ (1 : Int32) := by
            rw [h1, show (1 : Int32) = nI 1 from rfl, nI_leI (by omega) (by omega)]; omega
          have m1 : I 35 1 - 1 = nI (r.length + 1) := by rw [h1, show (1 : Int32) = nI 1 from rfl, pk_sub (by omega)]; rfl
          have m2 : I 35 1 - 1 - 1 = nI r.length := by rw [m1, show (1 : Int32) = nI 1 from rfl, pk_sub (by omega)]; rfl
          have c1 : (nI (r.length + 1)).toNatClampNeg = r.length + 1 := cl (by omega)
          have c2 : (nI r.length).toNatClampNeg = r.length := cl (by omega)
          obtain ⟨k1, k2, k3⟩ := h2
          have k1 : I 36 (r.length + 1) = b := k1
          rw [v19_st s a b r n1 n2 n3]
          have gg : g_18 I := by
            unfold g_18
            rw [m2, m1]
            exact fun _ => ⟨vin (by omega) (by omega), vin (by omega) (by omega), vin (by omega) (by omega)⟩
          unfold v_18
          rw [if_neg e, m2, m1, c1, c2, k1, k2]
          refine ⟨eg gg, ?_, ⟨up2_pt, jk_cg (fun k hk => (up2_nk (by omega)).trans (up2_nk (by omega))) k3⟩, by simp only [List.length_cons]; omega⟩
          exact (up2_nk (by omega)).trans up2_pt
      · have ej : jst I r4 (nI x) s = v_16 I s := by unfold jst; rw [if_pos n1, if_pos n2, if_neg n3]
        rw [ej]
        have eg : g_16 I s → jgd I (nI x) s := fun g => ⟨fun _ => ⟨fun _ => ⟨fun w => absurd w n3, fun _ => g⟩, fun w => absurd n2 w⟩, fun w => absurd n1 w⟩
        match st, h1, h2, hl with
        | [], h1, h2, _ =>
          have e : I 35 1 ≤ (0 : Int32) := by rw [h1]; decide
          have es : stp1 en s [] = [] := by unfold stp1; rw [if_pos n1, if_pos n2, if_neg n3]
          rw [es]
          refine ⟨eg (fun w => absurd e w), ?_, trivial, by simp⟩
          unfold v_16; rw [if_pos e]; exact h1
        | a :: r, h1, h2, hl =>
          have hr : r.length + 1 < 160 := hl
          have h1 : I 35 1 = nI (r.length + 1) := h1
          have e : ¬ I 35 1 ≤ (0 : Int32) := by
            rw [h1, show (0 : Int32) = nI 0 from rfl, nI_leI (by omega) (by omega)]; omega
          have m1 : I 35 1 - 1 = nI r.length := by rw [h1, show (1 : Int32) = nI 1 from rfl, pk_sub (by omega)]; rfl
          have c2 : (nI r.length).toNatClampNeg = r.length := cl (by omega)
          have es : stp1 en s (a :: r) = tv s a :: r := by unfold stp1; rw [if_pos n1, if_pos n2, if_neg n3]
          obtain ⟨k1, k2⟩ := h2
          rw [es]
          have gg : g_16 I s := by
            unfold g_16
            rw [m1]
            exact fun _ => ⟨vin (by omega) (by omega), vin (by omega) (by omega)⟩
          unfold v_16
          rw [if_neg e, m1, c2, k1]
          refine ⟨eg gg, ?_, ⟨?_, ?_⟩, by simp only [List.length_cons]; omega⟩
          · exact (up2_nk (by omega)).trans h1
          · exact up2_pt
          · exact jk_cg (fun k hk => up2_nk (by omega)) k2
    · have ej : jst I r4 (nI x) s = v_14 I (v_15 I s r4 (nI x)) := by unfold jst; rw [if_pos n1, if_neg n2]
      have es : stp1 en s st = en s :: st := by unfold stp1; rw [if_pos n1, if_neg n2]
      have e3 : (3 * nI x).toNatClampNeg = 3 * x := by rw [n30, cl (by omega)]
      rw [ej, es, hen s n1 n2]
      refine ⟨⟨fun _ => ⟨fun w => absurd w n2, fun _ => ⟨?_, (p14 0).1⟩⟩, fun w => absurd n1 w⟩, (p14 _).2.1, (p14 _).2.2, Nat.le_refl _⟩
      unfold g_15
      rw [n32, n31, n30]
      exact ⟨fun _ => trivial, fun _ => ⟨fun _ => vin hx (by omega), fun _ => ⟨fun _ => vin (by omega) (by omega), fun _ => ⟨fun _ => vin (by omega) (by omega), fun _ => ⟨fun _ => vin (by omega) (by omega), fun _ => vin hx (by omega)⟩⟩⟩⟩⟩
  · have ej : jst I r4 (nI x) s = v_14 I s := by unfold jst; rw [if_neg n1]
    have es : stp1 en s st = s :: st := by unfold stp1; rw [if_neg n1]
    rw [ej, es]
    exact ⟨⟨fun w => absurd w n1, fun _ => (p14 0).1⟩, (p14 _).2.1, (p14 _).2.2, Nat.le_refl _⟩
theorem lp13_e {r1 : Nat} {x3 : Int32} {r4 : Nat} {x5 : Int32} {k : Nat} {x6 : Int32} {I : WI} (h1 : ¬ x3 ≤ x6) (h2 : ¬ (160 : Int32) ≤ x6) : lp_13_8 r1 x3 r4 x5 (k + 1) x6 I = lp_13_8 r1 x3 r4 x5 k (x6 + 1) (jst I r4 x5 (I (r1 + 1) x6.toNatClampNeg)) := by
  rw [lp_13_8, if_neg h1, if_neg h2]
  dsimp only [bx]
  rfl
theorem gl13_e {r1 : Nat} {x3 : Int32} {r4 : Nat} {x5 : Int32} {k : Nat} {x6 : Int32} {I : WI} (h2 : vp_in x6 160) (h3 : jgd I x5 (I (r1 + 1) x6.toNatClampNeg)) (h4 : gl_13_8 r1 x3 r4 x5 k (x6 + 1) (jst I r4 x5 (I (r1 + 1) x6.toNatClampNeg))) : gl_13_8 r1 x3 r4 x5 (k + 1) x6 I := by
  rw [gl_13_8]
  dsimp only [bx]
  refine fun _ _ => ⟨h2, h3, ?_⟩
  exact h4
/-- a judge's loop is runL -/
theorem judgeL {r1 r4 x : Nat} {en : Int32 → Int32} (hr1 : 45 ≤ r1) (hr4 : r4 ≤ 22) (hx : x < 12) :
    ∀ (cs : List Int32) (k a : Nat) (st : List Int32) (I : WI), cs.length < k → a + cs.length ≤ 160 → st.length ≤ a → I 35 1 = nI st.length → jk I st → (∀ j, j < cs.length → I (r1 + 1) (a + j) = cs.getD j 0) → (∀ z, z < 0 → ¬ z < -6 → v_15 I z r4 (nI x) = en z) →
    gl_13_8 r1 (nI (a + cs.length)) r4 (nI x) k (nI a) I ∧ lp_13_8 r1 (nI (a + cs.length)) r4 (nI x) k (nI a) I 35 1 = nI (runL en cs st).length ∧ jk (lp_13_8 r1 (nI (a + cs.length)) r4 (nI x) k (nI a) I) (runL en cs st) ∧ (runL en cs st).length ≤ 160 := by
  intro cs
  induction cs with
  | nil =>
    intro k a st I hk ha hst h1 h2 h3 hen
    obtain ⟨k, rfl⟩ : ∃ q, k = q + 1 := ⟨k - 1, by omega⟩
    have ha : a ≤ 160 := ha
    have e : nI (a + ([] : List Int32).length) ≤ nI a := by rw [nI_leI (by simp only [List.length_nil]; omega) (by omega)]; exact Nat.le_refl _
    refine ⟨?_, ?_⟩
    · rw [gl_13_8]; exact fun w => absurd e w
    · rw [lp_13_8, if_pos e]; exact ⟨h1, h2, by show st.length ≤ 160; omega⟩
  | cons s cs ih =>
    intro k a st I hk ha hst h1 h2 h3 hen
    obtain ⟨k, rfl⟩ : ∃ q, k = q + 1 := ⟨k - 1, by omega⟩
    have hk : cs.length + 1 < k + 1 := hk
    have ha : a + (cs.length + 1) ≤ 160 := ha
    have es : I (r1 + 1) (nI a).toNatClampNeg = s := by rw [cl (by omega)]; exact h3 0 (by simp)
    obtain ⟨j1, j2, j3, j4⟩ := jstep (r4 := r4) s h1 h2 (show st.length < 160 by omega) hx hen
    have e1 : ¬ nI (a + (cs.length + 1)) ≤ nI a := by rw [nI_leI (by omega) (by omega)]; omega
    have e2 : ¬ (160 : Int32) ≤ nI a := by rw [show (160 : Int32) = nI 160 from rfl, nI_leI (by omega) (by omega)]; omega
    have e3 : nI a + 1 = nI (a + 1) := nI_add a 1
    have e4 : a + (cs.length + 1) = a + 1 + cs.length := by omega
    have hI := ih k (a + 1) (stp1 en s st) (jst I r4 (nI x) s) (by omega) (by omega) (by omega) j2 j3 (fun j hj => by
      rw [jst_o (by omega) (by omega), show a + 1 + j = a + (j + 1) by omega]
      exact h3 (j + 1) (by simp only [List.length_cons]; omega)) (fun z z1 z2 => by
      rw [← hen z z1 z2]
      unfold v_15
      have f : ∀ c k, 23 ≤ c + 22 → c = r4 + 7 ∨ c = r4 + 8 ∨ c = r4 + 9 → jst I r4 (nI x) s c k = I c k := fun c k _ hc => jst_o (by omega) (by omega)
      simp only [f (r4 + 7) _ (by omega) (by omega), f (r4 + 8) _ (by omega) (by omega), f (r4 + 9) _ (by omega) (by omega)])
    rw [← e4] at hI
    have ev : (s :: cs).length = cs.length + 1 := rfl
    rw [ev]
    refine ⟨?_, ?_⟩
    · refine gl13_e (vin (by omega) (by omega)) (by rw [es]; exact j1) ?_
      rw [es, e3]
      exact hI.1
    · rw [lp13_e e1 e2, es, e3]
      exact hI.2
end
