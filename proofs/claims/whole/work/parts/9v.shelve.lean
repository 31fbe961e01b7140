section
variable {S : Nat → List Int32 × List Int32} {nv nc tc r s n : Nat} {I J : WI} {L : WL} {F G : WF}
/-! shelve -/
theorem WJ_vec (h : WJ S 1 nv nc tc r I J L) (x y z g : Int32) : g_108 I x y z g ∧ g_174 J x y z g ∧ (v_108 I x y z g).1 = (v_174 J x y z g).1 ∧ ∃ nv', WJ S 1 nv' nc tc r (v_108 I x y z g).2 (v_174 J x y z g).2 L := by
  obtain ⟨h1, h2, h3, h4, h5, h6⟩ := h
  obtain ⟨o1, o2, o3, nv', o4⟩ := op_vector h1 x y z g
  refine ⟨o1, o2, o3, nv', o4, fun q hq => TxtP_cg (h2 q hq) (fun c k y => frI_v_108 (by omega) (by omega) (by omega) (by omega) (by omega) (by omega)) (fun c k y => frI_v_174 (by omega) (by omega) (by omega) (by omega) (by omega) (by omega) (by omega) (by omega)), h3, kM_cg h4 (fun j => frI_v_174 (by omega) (by omega) (by omega) (by omega) (by omega) (by omega) (by omega) (by omega)), h5, ?_⟩
  exact (frI_v_174 (by omega) (by omega) (by omega) (by omega) (by omega) (by omega) (by omega) (by omega)).trans h6
theorem tell4 (hs : s < 4) (hp : kHp s n I J F G) {i : Nat} (hi : i < n) : g_45 I F (58 + 4 * s) (nI i) ∧ g_264 J G (nI s) (nI i) ∧ v_45 I F (58 + 4 * s) (nI i) = v_264 J G (nI s) (nI i) := tell_eq hs hi hp.1 hp.2.2.2.1 hp.2.2.2.2
theorem nI_3 (a : Nat) : nI a + 3 = nI (a + 3) := nI_add a 3
theorem shelve_lp (hs : s < 4) {m : Nat} (hm : m ≤ 12) {x3 : Int32} : ∀ d i f (x : Int32) (nv : Nat) (I J : WI), i + d = m → d + 1 < f → (i = 0 ∨ 0 ≤ x3.toInt) → WJ S 1 nv nc tc r I J L → kHp s n I J F G →
    gl_163_55 F x3 (nI m) (58 + 4 * s) f x (nI i) I ∧ gl_277_75 G (nI s) x3 (nI m) f x (nI i) J ∧ ∃ (y : Int32) (nv' : Nat) (I' J' : WI), lp_163_55 F x3 (nI m) (58 + 4 * s) f x (nI i) I = (y, I') ∧ lp_277_75 G (nI s) x3 (nI m) f x (nI i) J = (y, J') ∧ WJ S 1 nv' nc tc r I' J' L := by
  intro d
  induction d with
  | zero =>
    intro i f x nv I J hi hf _ h hp
    obtain ⟨f', rfl⟩ : ∃ f', f = f' + 1 := ⟨f - 1, by omega⟩
    have e : i = m := by omega
    subst e
    have le : nI i ≤ nI i := by rw [Int32.le_iff_toInt_le]; omega
    rw [gl_163_55, gl_277_75, lp_163_55, lp_277_75, if_pos le, if_pos le]
    exact ⟨fun w => absurd le w, fun w => absurd le w, x, nv, I, J, rfl, rfl, h⟩
  | succ d ih =>
    intro i f x nv I J hi hf hx h hp
    obtain ⟨f', rfl⟩ : ∃ f', f = f' + 1 := ⟨f - 1, by omega⟩
    have nle : ¬ nI m ≤ nI i := by rw [Int32.le_iff_toInt_le, nI_toInt (by omega), nI_toInt (by omega)]; omega
    have es : (nI s).toNatClampNeg = s := cl (by omega)
    have hn := hp.1
    have s4 : vp_in (nI s) 4 := vin hs (by omega)
    have t0 : (0 : Int32).toInt = 0 := by decide
    have t4 : (4 : Int32).toInt = 4 := by decide
    have e4 : 4 * nI i = nI (4 * i) := by rw [show (4 : Int32) = nI 4 from rfl, pk_mul]
    have ti := nI_toInt (n := 4 * i) (by omega)
    have tn := nI_toInt (n := n) (by omega)
    have hx3 := Int32.toInt_lt x3
    have hx3' := Int32.le_toInt x3
    rw [gl_163_55, gl_277_75, lp_163_55, lp_277_75, if_neg nle, if_neg nle, e4, es, hp.2.2.1]
    have c2 : (nI n - nI (4 * i) - 4).toInt = n - 4 * i - 4 := by
      rw [ti_sub (by rw [ti_sub (by omega) (by omega)]; omega) (by rw [ti_sub (by omega) (by omega)]; omega), ti_sub (by omega) (by omega), tn, ti, t4]
      omega
    by_cases ok : 0 ≤ x3.toInt ∧ x3.toInt + 4 * i + 4 ≤ n
    · obtain ⟨a, ha⟩ : ∃ a : Nat, x3.toInt = a := ⟨x3.toInt.toNat, by omega⟩
      have hxa : x3 = nI a := ti_eq ha
      have ea : x3 + nI (4 * i) = nI (a + 4 * i) := by rw [hxa, nI_add]
      have u : v_48 I (58 + 4 * s) (nI (a + 4 * i)) 4 = 1 := by
        have ta := nI_toInt (n := a + 4 * i) (by omega)
        rcases run_n (I := I) (b := 58 + 4 * s) hp.2.1 hn (nI (a + 4 * i)) 4 with ⟨u, -⟩ | ⟨-, u⟩
        · exact u
        · exfalso; apply u; rw [ta, t4]; omega
      have w1 : ¬ x3 < 0 := by rw [Int32.lt_iff_toInt_lt, t0]; omega
      have w2 : x3 ≤ nI n - nI (4 * i) - 4 := by rw [Int32.le_iff_toInt_le, c2]; omega
      obtain ⟨b1, d1, y1⟩ := tell4 hs hp (show a + 4 * i < n by omega)
      obtain ⟨b2, d2, y2⟩ := tell4 hs hp (show a + 4 * i + 1 < n by omega)
      obtain ⟨b3, d3, y3⟩ := tell4 hs hp (show a + 4 * i + 2 < n by omega)
      obtain ⟨b4, d4, y4⟩ := tell4 hs hp (show a + 4 * i + 3 < n by omega)
      rw [ea, u, if_pos d10, if_neg w1, if_pos w2, nI_1, nI_2, nI_3, y1, y2, y3, y4]
      obtain ⟨o1, o2, o3, nv', o4⟩ := WJ_vec h (v_264 J G (nI s) (nI (a + 4 * i))) (v_264 J G (nI s) (nI (a + 4 * i + 1))) (v_264 J G (nI s) (nI (a + 4 * i + 2))) (v_264 J G (nI s) (nI (a + 4 * i + 3)))
      have hp2 : kHp s n (v_108 I (v_264 J G (nI s) (nI (a + 4 * i))) (v_264 J G (nI s) (nI (a + 4 * i + 1))) (v_264 J G (nI s) (nI (a + 4 * i + 2))) (v_264 J G (nI s) (nI (a + 4 * i + 3)))).2 (v_174 J (v_264 J G (nI s) (nI (a + 4 * i))) (v_264 J G (nI s) (nI (a + 4 * i + 1))) (v_264 J G (nI s) (nI (a + 4 * i + 2))) (v_264 J G (nI s) (nI (a + 4 * i + 3)))).2 F G :=
        kHp_cg hs hp (fun c k z1 z2 => frI_v_108 (by omega) (by omega) (by omega) (by omega) (by omega) (by omega)) (fun c k z1 z2 => frI_v_174 (by omega) (by omega) (by omega) (by omega) (by omega) (by omega) (by omega) (by omega))
      generalize v_108 I (v_264 J G (nI s) (nI (a + 4 * i))) (v_264 J G (nI s) (nI (a + 4 * i + 1))) (v_264 J G (nI s) (nI (a + 4 * i + 2))) (v_264 J G (nI s) (nI (a + 4 * i + 3))) = P at o3 o4 hp2 ⊢
      generalize v_174 J (v_264 J G (nI s) (nI (a + 4 * i))) (v_264 J G (nI s) (nI (a + 4 * i + 1))) (v_264 J G (nI s) (nI (a + 4 * i + 2))) (v_264 J G (nI s) (nI (a + 4 * i + 3))) = Q at o3 o4 hp2 ⊢
      have ex : (if P.1 < 0 then x else x + 1) = x + (if Q.1 < 0 then 0 else 1) := by
        rw [o3]
        by_cases z : Q.1 < 0
        · rw [if_pos z, if_pos z, Int32.add_zero]
        · rw [if_neg z, if_neg z]
      dsimp only [bx]
      rw [ex, nI_1]
      obtain ⟨G1, G2, y, nv2, I', J', R1, R2, R3⟩ := ih (i + 1) f' (x + (if Q.1 < 0 then 0 else 1)) nv' P.2 Q.2 (by omega) (by omega) (Or.inr ok.1) o4 hp2
      exact ⟨fun _ _ => ⟨b1, b2, b3, b4, o1, G1⟩, fun _ _ => ⟨s4, fun _ => ⟨d1, d2, d3, d4, o2, G2⟩⟩, y, nv2, I', J', R1, R2, R3⟩
    · have u : v_48 I (58 + 4 * s) (x3 + nI (4 * i)) 4 = 0 := by
        rcases run_n (I := I) (b := 58 + 4 * s) hp.2.1 hn (x3 + nI (4 * i)) 4 with ⟨-, u1, -, u3⟩ | ⟨u, -⟩
        · exfalso
          rw [t4] at u3
          by_cases z : x3.toInt + 4 * i ≤ 2147483647
          · have e : (x3 + nI (4 * i)).toInt = x3.toInt + 4 * i := by
              rw [ti_add (by omega) (by omega), ti]
              omega
            rw [e] at u1 u3
            apply ok
            rcases hx with hx | hx
            · subst hx; omega
            · exact ⟨hx, u3⟩
          · have e : (x3 + nI (4 * i)).toInt < 0 := by
              rw [Int32.toInt_add, ti]
              unfold Int.bmod
              dsimp only
              split <;> omega
            omega
        · exact u
      have nw : ¬ x3 < 0 → ¬ x3 ≤ nI n - nI (4 * i) - 4 := fun w1 w2 => by
        rw [Int32.lt_iff_toInt_lt, t0] at w1
        rw [Int32.le_iff_toInt_le, c2] at w2
        exact ok ⟨by omega, by omega⟩
      rw [u, if_neg d00]
      refine ⟨fun _ q => absurd rfl q, fun _ w1 => ⟨s4, fun w2 => absurd w2 (nw w1)⟩, -12, nv, I, J, rfl, ?_, h⟩
      by_cases w1 : x3 < 0
      · rw [if_pos w1]
      · rw [if_neg w1, if_neg (nw w1)]
theorem op_shelve (h : WJ S 1 nv nc tc r I J L) (hh : kHs I J F G) (x1 x2 x3 x4 : Int32) : g_163 I F x1 x2 x3 x4 ∧ g_277 J G x1 x2 x3 x4 ∧ (v_163 I F x1 x2 x3 x4).1 = (v_277 J G x1 x2 x3 x4).1 ∧ ∃ nv', WJ S 1 nv' nc tc r (v_163 I F x1 x2 x3 x4).2 (v_277 J G x1 x2 x3 x4).2 L := by
  have k2 : v_170 (Int32.toInt64 x2) 0 2 = v_107 x2 0 2 := v170_107 x2 0 2
  have k4 : v_170 (Int32.toInt64 x4) 0 12 = v_107 x4 0 12 := v170_107 x4 0 12
  have t0 : (0 : Int32).toInt = 0 := by decide
  rcases sh4 x1 with ⟨e, e', s, hs, rfl⟩ | ⟨e, e'⟩
  rotate_left
  · unfold g_163 g_277 v_163 v_277 g_158
    rw [e', if_pos (rfl : (0 : Int32) = 0), v158_n e, e]
    by_cases y2 : v_107 x2 0 2 = 0
    · rw [if_pos y2]
      exact ⟨fun q => absurd y2 q, fun q => absurd rfl q, rfl, nv, h⟩
    · rw [if_neg y2]
      by_cases y4 : v_107 x4 0 12 = 0
      · rw [if_neg (nn y4)]
        exact ⟨fun _ q => absurd y4 q, fun q => absurd rfl q, rfl, nv, h⟩
      · rw [if_pos y4, if_neg (show ¬ (-2 : Int32) = 0 by decide)]
        exact ⟨fun _ _ => ⟨fun q => absurd rfl q, fun q => absurd q (by decide)⟩, fun q => absurd rfl q, rfl, nv, h⟩
  have es : (nI s).toNatClampNeg = s := cl (by omega)
  have s4 : vp_in (nI s) 4 := vin hs (by omega)
  unfold g_163 g_277 v_163 v_277 g_158
  rw [k2, k4, e', if_neg d10, es]
  by_cases y2 : v_107 x2 0 2 = 0
  · rw [if_pos y2, if_pos y2]
    exact ⟨fun q => absurd y2 q, fun _ q => absurd y2 q, rfl, nv, h⟩
  rw [if_neg y2, if_neg y2]
  rcases vnum (nv := 13) (by omega) x4 with ⟨y4, m, hm, rfl⟩ | y4
  rotate_left
  · rw [show nI 13 - 1 = 12 by decide] at y4
    rw [y4, if_neg d00, if_neg d00]
    exact ⟨fun _ q => absurd rfl q, fun _ _ q => absurd rfl q, rfl, nv, h⟩
  rw [show nI 13 - 1 = 12 by decide] at y4
  rw [y4, if_pos d10, if_pos d10]
  rcases kH_p (hh s hs) with ⟨h1, h2, h3⟩ | ⟨h1, n, hp⟩
  · rw [v158_m hs e h2, h1, if_neg (show ¬ (-11 : Int32) = 0 by decide), if_pos (rfl : (0 : Int32) = 0), if_neg d00]
    exact ⟨fun _ _ => ⟨fun _ => s4, fun q => absurd q (by decide)⟩, fun _ _ _ => ⟨s4, fun _ => ⟨s4, fun q => absurd rfl q⟩, fun q => absurd rfl q⟩, rfl, nv, h⟩
  have hne := kHp_ne hp
  have n3 : ¬ x2 = 3 := fun q => y2 (by rw [q]; decide)
  rw [v158_p hs e hne, h1, if_neg d10, hp.2.2.2.1]
  by_cases z : J 112 s = x2
  rotate_left
  · have z' : ¬ (x2 = 3 ∨ x2 = J 112 s) := fun q => q.elim n3 (fun q => z q.symm)
    rw [if_neg z', if_neg z, if_neg (show ¬ (-13 : Int32) = 0 by decide)]
    exact ⟨fun _ _ => ⟨fun _ => s4, fun q => absurd q (by decide)⟩, fun _ _ _ => ⟨s4, fun q => absurd q d10, fun _ => ⟨s4, fun q => absurd q z⟩⟩, rfl, nv, h⟩
  have z' : x2 = 3 ∨ x2 = J 112 s := Or.inr z.symm
  rw [if_pos z', if_pos z, if_pos d10]
  have u0 : v_48 I (58 + 4 * s) 0 0 = 1 := by
    rcases run_n (I := I) (b := 58 + 4 * s) hp.2.1 hp.1 0 0 with ⟨u, -⟩ | ⟨-, u⟩
    · exact u
    · exfalso; apply u; rw [t0]; omega
  rw [u0, if_neg d10, if_pos (rfl : (0 : Int32) = 0)]
  obtain ⟨g1, g2, y, nv', I', J', r1, r2, r3⟩ := shelve_lp hs (show m ≤ 12 by omega) (x3 := x3) m 0 400 0 nv I J (by omega) (by omega) (Or.inl rfl) h hp
  have n0 : nI 0 = 0 := rfl
  rw [n0] at g1 g2 r1 r2
  dsimp only [bx]
  rw [r1, r2]
  exact ⟨fun _ _ => ⟨fun _ => s4, fun _ => ⟨s4, g1⟩⟩, fun _ _ _ => ⟨s4, fun q => absurd q d10, fun _ => ⟨s4, fun _ => ⟨s4, fun _ => g2⟩⟩⟩, rfl, nv', r3⟩
end
