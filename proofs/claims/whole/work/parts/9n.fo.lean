section
variable {S : Nat → List Int32 × List Int32} {nv nc tc r m s n : Nat} {I J I' J' : WI} {L L' : WL} {F G : WF}
/-! the first that is told otherwise -/
theorem lp263_0 (x1 : Int32) (k : Nat) (x2 x3 : Int32) (J : WI) (L : WL) : lp_263_8 G x1 (k + 1) x2 x3 J L = st_263_8 G x1 (lp_263_8 G x1 k) x2 x3 J L := rfl
theorem gl263_0 (x1 : Int32) (k : Nat) (x2 x3 : Int32) (J : WI) (L : WL) : gl_263_8 G x1 (k + 1) x2 x3 J L = stg_263_8 G x1 (gl_263_8 G x1 k) x2 x3 J L := rfl
theorem fo_lp (hs : s < 4) (hn : n ≤ 12) : ∀ d x f (I J : WI) (L : WL), x + d = n → d + 1 < f → TQ S 21 nv nc tc r m I J L → kHp s n I J F G →
    gl_147_2 F (58 + 4 * s) f (nI x) I ∧ gl_263_8 G (nI s) f (-1) (nI x) J L ∧ ∃ (y : Int32) (I' J' : WI) (L' : WL), lp_147_2 F (58 + 4 * s) f (nI x) I = (y, I') ∧ lp_263_8 G (nI s) f (-1) (nI x) J L = (y, J', L') ∧ (∀ c k, ¬ (c = 24 ∧ k < 3) → I' c k = I c k) ∧ RW J J' ∧ kM S tc J' L' := by
  intro d
  induction d with
  | zero =>
    intro x f I J L hx hf h hp
    obtain ⟨f', rfl⟩ : ∃ f', f = f' + 1 := ⟨f - 1, by omega⟩
    have e : x = n := by omega
    subst e
    have le : nI x ≤ nI x := by rw [Int32.le_iff_toInt_le]; omega
    have es : (nI s).toNatClampNeg = s := cl (by omega)
    rw [gl_147_2, lp_147_2, hp.2.1, if_pos le, lp263_0, gl263_0]
    unfold st_263_8 stg_263_8
    rw [es, hp.2.2.1, if_pos le]
    exact ⟨fun w => absurd le w, ⟨vin hs (by omega), fun w => absurd le w⟩, -1, I, J, L, rfl, rfl, fun _ _ _ => rfl, fun _ _ _ _ _ _ _ => rfl, TQ_M h⟩
  | succ d ih =>
    intro x f I J L hx hf h hp
    obtain ⟨f', rfl⟩ : ∃ f', f = f' + 1 := ⟨f - 1, by omega⟩
    have es : (nI s).toNatClampNeg = s := cl (by omega)
    have nle : ¬ nI n ≤ nI x := by rw [Int32.le_iff_toInt_le, nI_toInt (by omega), nI_toInt (by omega)]; omega
    have d1 : ¬ ¬ (-1 : Int32) = -1 := fun w => w rfl
    obtain ⟨g1, g2, th, fI, rw1⟩ := TQ_stand (by omega) h (show x < 12 by omega)
    obtain ⟨I1, hI1⟩ : ∃ I1, I1 = v_78 I 21 (nI x) := ⟨_, rfl⟩
    obtain ⟨J1, hJ1⟩ : ∃ J1, J1 = v_257 J (nI x) := ⟨_, rfl⟩
    rw [← hI1] at fI th
    rw [← hJ1] at rw1 th
    obtain ⟨f1, f2, J2, L2, f3, f4, f5, -⟩ := firstB (by omega) th
    have rw2 : RW J J2 := fun c k x1 x2 x3 x4 x5 => by
      rw [f4 c k (by omega) x3 x4 (by omega)]; exact rw1 c k x1 x2 x3 x4 x5
    have hp2 : kHp s n I1 J2 F G := kHp_cg hs hp (fun c k x1 x2 => fI c k (by omega)) (fun c k x1 x2 => rw2 c k (by omega) (by omega) (by omega) (by omega) (by omega))
    obtain ⟨t1, t2, t3⟩ := tell_eq hs (show x < n by omega) hp2.1 hp2.2.2.2.1 hp2.2.2.2.2
    have tq : TQ S 21 nv nc tc r m I1 J2 L2 := TQ_of (TH_J th (RY_of f4) f5)
    obtain ⟨G1, G2, y2, I', J', L', R1, R2, R3, R4, R5⟩ := ih (x + 1) f' I1 J2 L2 (by omega) (by omega) tq hp2
    rw [gl_147_2, lp_147_2, hp.2.1, if_neg nle, lp263_0, gl263_0]
    unfold st_263_8 stg_263_8
    rw [es, hp.2.2.1, if_neg nle, if_neg d1]
    rw [← hI1, ← hJ1]
    dsimp only [bx]
    rw [f3]
    dsimp only
    rw [t3, nI_1]
    by_cases u : v_23 I1 21 = v_264 J2 G (nI s) (nI x)
    · rw [if_pos u, if_pos u]
      exact ⟨fun _ => ⟨g1, f1, t1, fun _ => G1⟩, ⟨vin hs (by omega), fun _ _ => ⟨g2, f2, t2, G2⟩⟩, y2, I', J', L', R1, R2, fun c k x1 => (R3 c k x1).trans (fI c k x1), RW_tr rw2 R4, R5⟩
    · rw [if_neg u, if_neg u]
      obtain ⟨f'', rfl⟩ : ∃ f'', f' = f'' + 1 := ⟨f' - 1, by omega⟩
      have ns : ¬ nI x = -1 := nIm1 (by omega)
      have r2 : lp_263_8 G (nI s) (f'' + 1) (nI x) (nI (x + 1)) J2 L2 = (nI x, J2, L2) := by
        rw [lp263_0]
        unfold st_263_8
        rw [if_pos ns]
        split <;> rfl
      have gg : gl_263_8 G (nI s) (f'' + 1) (nI x) (nI (x + 1)) J2 L2 := by
        rw [gl263_0]
        unfold stg_263_8
        exact ⟨vin hs (by omega), fun _ w => absurd ns w⟩
      exact ⟨fun _ => ⟨g1, f1, t1, fun w => absurd w u⟩, ⟨vin hs (by omega), fun _ _ => ⟨g2, f2, t2, gg⟩⟩, nI x, I1, J2, L2, rfl, r2, fI, rw2, f5⟩
/-- all but what comparing changes -/
def RB (nc : Nat) (J J' : WI) : Prop := (∀ c k, KC nc c k → J' c k = J c k) ∧ ∀ c k, ¬ (79 ≤ c ∧ c ≤ 83) → c ≠ 86 → ¬ (88 ≤ c ∧ c ≤ 99) → ¬ (c = 74 ∧ ((19 ≤ k ∧ k ≤ 33) ∨ (46 ≤ k ∧ k ≤ 48))) → J' c k = J c k
theorem RB_tr {J2 : WI} (h : RB nc J J') (h2 : RB nc J' J2) : RB nc J J2 := ⟨fun c k x => (h2.1 c k x).trans (h.1 c k x), fun c k x1 x2 x3 x4 => (h2.2 c k x1 x2 x3 x4).trans (h.2 c k x1 x2 x3 x4)⟩
theorem TQ_B (h : TQ S 21 nv nc tc r m I J L) (hR : RB nc J J') (hM : kM S tc J' L') : TQ S 21 nv nc tc r m I J' L' := TQ_J h hR.1 (fun c k x => hR.2 c k (by omega) (by omega) (by omega) (by omega)) hM
theorem fo (hs : s < 4) (hn : n ≤ 12) (h : TQ S 21 nv nc tc r m I J L) (hp : kHp s n I J F G) : g_147 I F (58 + 4 * s) ∧ g_263 J G L (nI s) ∧ ∃ (y : Int32) (I' J' : WI) (L' : WL), v_147 I F (58 + 4 * s) = (y, I') ∧ v_263 J G L (nI s) = (y, J', L') ∧ (∀ c k, ¬ (c = 24 ∧ k < 3) → I' c k = I c k) ∧ RB nc J J' ∧ kM S tc J' L' := by
  obtain ⟨kA0, kC0, kB0, kP0, kV0, kN0⟩ := TQ_k h
  obtain ⟨k1, k2, k3, k4⟩ := v234_pt (J := J)
  have kcq : ∀ c k, KC nc c k → v_234 J c k = J c k := fun c k hk => k1 c k (by
    rcases hk with ⟨rfl, -⟩ | ⟨rfl, -⟩ | ⟨rfl, -⟩ | ⟨hc, -⟩ | ⟨rfl, -⟩ | ⟨rfl, -⟩ | ⟨hc, -⟩ <;> omega)
  have tq : TQ S 21 nv nc tc r m I (v_234 J) L := TQ_J h kcq (fun c k x => k1 c k (by omega)) (kM_cg (TQ_M h) (fun j => k1 89 j (by omega)))
  have hp' : kHp s n I (v_234 J) F G := kHp_cg hs hp (fun _ _ _ _ => rfl) (fun c k x1 x2 => k1 c k (by omega))
  obtain ⟨g1, g2, y, I', J', L', e1, e2, e3, e4, e5⟩ := fo_lp hs hn n 0 400 I (v_234 J) L (by omega) (by omega) tq hp'
  have n0 : nI 0 = 0 := rfl
  rw [n0] at g1 g2 e1 e2
  obtain ⟨b1, b2⟩ := back_Q kC0.1 kB0 e4
  refine ⟨g1, ?_, y, I', v_235 J', L', e1, ?_, e3, ⟨b1, fun c k x1 x2 x3 x4 => ?_⟩, kM_cg e5 (fun j => b2 89 j (by omega) (by omega))⟩
  · unfold g_263
    dsimp only [bx]
    rw [e2]
    exact ⟨(g_keep (J := J)).1, g2, (g_keep (J := J')).2⟩
  · unfold v_263
    dsimp only [bx]
    rw [e2]
  · rw [b2 c k x1 x2, e4 c k (by omega) x4 (by omega) (by omega) (by omega), k1 c k (by omega)]
end
