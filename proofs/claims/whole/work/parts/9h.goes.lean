section
variable {S : Nat → List Int32 × List Int32} {nv nc tc r m : Nat} {I J I' J' : WI} {L L' : WL} {F : WF}
/-! goes -/
theorem lp254_0 (x1 x2 x3 x4 : Int32) (k : Nat) (x5 x6 : Int32) (I : WI) (L : WL) : lp_254_48 x1 x2 x3 x4 (k + 1) x5 x6 I L = st_254_48 x1 x2 x3 x4 (lp_254_48 x1 x2 x3 x4 k) x5 x6 I L := rfl
theorem gl254_0 (x1 x2 x3 x4 : Int32) (k : Nat) (x5 x6 : Int32) (I : WI) (L : WL) : gl_254_48 x1 x2 x3 x4 (k + 1) x5 x6 I L = stg_254_48 x1 x2 x3 x4 (gl_254_48 x1 x2 x3 x4 k) x5 x6 I L := rfl
/-- all but coordinate i of the query, and what looking changes -/
def RQ (i : Nat) (J J' : WI) : Prop := ∀ c k, ¬ (c = 79 ∧ k = i) → ¬ (c = 74 ∧ 19 ≤ k ∧ k ≤ 33) → c ≠ 88 → c ≠ 89 → ¬ (96 ≤ c ∧ c ≤ 98) → J' c k = J c k
theorem goes_lp {i : Nat} (hi : i < 3) {g a : Int32} (hg : bt (-99) 99 g) (ha : bt (-999) 999 a) {x : Int32} : ∀ d s f (I J : WI) (L : WL), s + d = 41 → d < f → I 4 i = a → TH S 21 nv nc tc r m I J L →
    gl_139_68 (nI i) g x f (nI s) I ∧ gl_254_48 (nI i) g a x f (-1) (nI s) J L ∧ ∃ (y : Int32) (I' J' : WI) (L' : WL), lp_139_68 (nI i) g x f (nI s) I = (y, I') ∧ lp_254_48 (nI i) g a x f (-1) (nI s) J L = (y, J', L') ∧ RQ i J J' ∧ kM S tc J' L' := by
  intro d
  induction d with
  | zero =>
    intro s f I J L hs hf _ h
    obtain ⟨f', rfl⟩ : ∃ f', f = f' + 1 := ⟨f - 1, by omega⟩
    have e : s = 41 := by omega
    subst e
    have lt : (40 : Int32) < nI 41 := by decide
    have hM := h.1
    obtain ⟨Ig, w, -⟩ := hM
    rw [gl_139_68, lp_139_68, if_pos lt, lp254_0, gl254_0]
    unfold st_254_48 stg_254_48
    rw [if_pos lt]
    exact ⟨fun w => absurd lt w, fun w => absurd lt w, -1, I, J, L, rfl, rfl, fun _ _ _ _ _ _ _ => rfl, w.2.2.2.1⟩
  | succ d ih =>
    intro s f I J L hs hf h4 h
    obtain ⟨f', rfl⟩ : ∃ f', f = f' + 1 := ⟨f - 1, by omega⟩
    have t40 : (40 : Int32).toInt = 40 := by decide
    have ts := nI_toInt (n := s) (by omega)
    have nlt : ¬ (40 : Int32) < nI s := by rw [Int32.lt_iff_toInt_lt, ts, t40]; omega
    have ei : (nI i).toNatClampNeg = i := cl (by omega)
    obtain ⟨g1, g2⟩ := hg
    obtain ⟨a1, a2⟩ := ha
    obtain ⟨z, hz⟩ : ∃ z, z = a + nI s * g := ⟨_, rfl⟩
    have d1 : ¬ ¬ (-1 : Int32) = -1 := fun w => w rfl
    have v17 : v_170 (Int32.toInt64 z) (-999) 999 = v_107 z (-999) 999 := v170_107 z (-999) 999
    obtain ⟨Ig, w, hIg⟩ := h.1
    rw [gl_139_68, lp_139_68, if_neg nlt, lp254_0, gl254_0]
    unfold st_254_48 stg_254_48
    rw [if_neg nlt, if_neg d1, ei, h4, ← hz, v17]
    rcases v107_cases z (-999) 999 with ⟨y, b1, b2⟩ | ⟨y, -⟩
    · rw [y, if_pos d10, if_neg d10]
      obtain ⟨I1, hI1⟩ : ∃ I1, I1 = up2 I 24 i z := ⟨_, rfl⟩
      obtain ⟨J1, hJ1⟩ : ∃ J1, J1 = up2 J 79 i z := ⟨_, rfl⟩
      rw [← hI1, ← hJ1]
      have kQ0 := (TH_k h).2.1
      have th1 : TH S 21 nv nc tc r m I1 J1 L := TH_q (by omega) h (fun c k x => by rw [hI1, up2_nk (by omega)]) (fun c k x => by rw [hJ1, up2_nk (by omega)]) (fun j hj => by
        by_cases u : j = i
        · subst u
          rw [hI1, hJ1, up2_pt, up2_pt]
          exact ⟨rfl, b1, b2⟩
        · rw [hI1, hJ1, up2_nk (by omega), up2_nk (by omega)]
          exact kQ0 j hj)
      obtain ⟨f1, f2, J2, L2, f3, f4, f5, -⟩ := firstB (by omega) th1
      have th2 : TH S 21 nv nc tc r m I1 J2 L2 := TH_J th1 (RY_of f4) f5
      obtain ⟨G1, G2, y2, I', J', L', R1, R2, R3, R4⟩ := ih (s + 1) f' I1 J2 L2 (by omega) (by omega) (by rw [hI1, up2_nk (by omega)]; exact h4) th2
      have rq1 : RQ i J J2 := fun c k x1 x2 x3 x4 x5 => by
        rw [f4 c k x2 x3 x4 x5, hJ1, up2_nk x1]
      rw [f3, bxd, bxd, bxd, bxd]
      by_cases u : v_23 I1 21 = x
      · rw [if_pos u, if_pos (show (v_23 I1 21, J2, L2).1 = x from u), nI_1]
        refine ⟨fun _ => ⟨vin (by omega) (by omega), fun _ => ⟨vin (by omega) (by omega), f1, fun _ => G1⟩⟩, fun _ _ _ => ⟨vin (by omega) (by omega), f2, G2⟩, y2, I', J', L', R1, R2, fun c k x1 x2 x3 x4 x5 => (R3 c k x1 x2 x3 x4 x5).trans (rq1 c k x1 x2 x3 x4 x5), R4⟩
      · rw [if_neg u, if_neg (show ¬ (v_23 I1 21, J2, L2).1 = x from u), nI_1]
        obtain ⟨f'', rfl⟩ : ∃ f'', f' = f'' + 1 := ⟨f' - 1, by omega⟩
        have ns : ¬ nI s = -1 := nIm1 (by omega)
        have r2 : lp_254_48 (nI i) g a x (f'' + 1) (nI s) (nI (s + 1)) J2 L2 = (nI s, J2, L2) := by
          rw [lp254_0]
          unfold st_254_48
          by_cases q : (40 : Int32) < nI (s + 1)
          · rw [if_pos q]
          · rw [if_neg q, if_pos ns]
        have gg : gl_254_48 (nI i) g a x (f'' + 1) (nI s) (nI (s + 1)) J2 L2 := by
          rw [gl254_0]
          unfold stg_254_48
          exact fun _ w => absurd ns w
        refine ⟨fun _ => ⟨vin (by omega) (by omega), fun _ => ⟨vin (by omega) (by omega), f1, fun w => absurd w u⟩⟩, fun _ _ _ => ⟨vin (by omega) (by omega), f2, gg⟩, nI s, I1, J2, L2, rfl, r2, rq1, f5⟩
    · rw [y, if_neg d00, if_pos rfl]
      exact ⟨fun _ => ⟨vin (by omega) (by omega), fun w => absurd rfl w⟩, fun _ _ w => absurd rfl w, -1, I, J, L, rfl, rfl, fun _ _ _ _ _ _ _ => rfl, w.2.2.2.1⟩
theorem op_goes (h : WJ S 1 nv nc tc r I J L) (h9 : I 0 9 = nI tc) (x1 x2 : Int32) : g_139 I x1 x2 ∧ g_254 J L x1 x2 ∧ (v_139 I x1 x2).1 = (v_254 J L x1 x2).1 ∧ RX J (v_254 J L x1 x2).2.1 ∧ kM S tc (v_254 J L x1 x2).2.1 (v_254 J L x1 x2).2.2 := by
  have hM : kM S tc J L := h.2.2.2.1
  have rxR : RX J J := fun _ _ _ _ _ _ => rfl
  have k1 : v_170 (Int32.toInt64 x1) 0 2 = v_107 x1 0 2 := v170_107 x1 0 2
  have k2 : v_170 (Int32.toInt64 x2) (-99) 99 = v_107 x2 (-99) 99 := v170_107 x2 (-99) 99
  unfold g_139 g_254 v_139 v_254
  rw [k1, k2]
  rcases vnum (nv := 3) (by omega) x1 with ⟨y1, i, hi, rfl⟩ | y1
  rotate_left
  · rw [show nI 3 - 1 = 2 by decide] at y1
    rw [y1, if_pos (rfl : (0 : Int32) = 0), if_pos (rfl : (0 : Int32) = 0)]
    exact ⟨fun w => absurd rfl w, fun w => absurd rfl w, rfl, rxR, hM⟩
  rw [show nI 3 - 1 = 2 by decide] at y1
  rw [y1, if_neg d10, if_neg d10]
  rcases v107_cases x2 (-99) 99 with ⟨y2, b1, b2⟩ | ⟨y2, -⟩
  rotate_left
  · rw [y2, if_neg d00, if_neg d00]
    exact ⟨fun _ w => absurd rfl w, fun _ w => absurd rfl w, rfl, rxR, hM⟩
  rw [y2, if_pos d10, if_pos d10]
  have ei : (nI i).toNatClampNeg = i := cl (by omega)
  obtain ⟨A, m, hA, a1, a2, a3, a4, th1, th21, fr, wA⟩ := TH_w h h9
  obtain ⟨f1, f2, J1, L1, f3, f4, f5, -⟩ := firstB (by omega) th1
  have th2 := TH_J th21 (RY_of f4) f5
  obtain ⟨l1, l2⟩ := v76_pt (I := A) (b := 21) (r := 1) (by omega)
  have hQ := h.1.2.1 i hi
  have e4 : v_76 A 21 1 4 i = J 79 i := by
    rw [l2 4 i (by omega), fr 4 i (by omega) (by omega) (by omega)]
    exact hQ.1
  obtain ⟨G1, G2, y, I', J', L', R1, R2, R3, R4⟩ := goes_lp hi (g := x2) (x := v_23 A 1) ⟨b1, b2⟩ hQ.2 40 1 400 _ _ _ (by omega) (by omega) e4 th2
  have n1 : nI 1 = 1 := rfl
  rw [n1] at G1 G2 R1 R2
  rw [a1]
  dsimp only [bx]
  rw [← hA, ei, f3]
  dsimp only
  rw [R1, R2]
  dsimp only
  refine ⟨fun _ _ => ⟨a2, a3, a4, f1, G1⟩, fun _ _ => ⟨vin (by omega) (by omega), f2, G2, vin (by omega) (by omega)⟩, rfl, fun c k x1' x2' x3' x4' => ?_, kM_cg R4 (fun j => up2_nk (by omega))⟩
  show up2 J' 79 i (J 79 i) c k = J c k
  by_cases u : c = 79 ∧ k = i
  · obtain ⟨rfl, rfl⟩ := u
    rw [up2_pt]
  · rw [up2_nk u, R3 c k u x1' x2' x3' x4', f4 c k x1' x2' x3' x4']
end
