section
theorem saysS {S : Nat → List Int32 × List Int32} {cnt r v : Nat} {I J : WI} {L : WL} {w : Int32} (hc : cnt ≤ 6) (hT : ∀ r, r < cnt → TxtP (S r) I J r) (hM : kM S cnt J L) (hr : r < cnt) (h4 : J 74 4 = nI r) (hv : v < 12)
    (ok : okKey (nI r) w (J 84 (3 * v)) (J 84 (3 * v + 1)) (J 84 (3 * v + 2)) (J 85 v) (nI v) (J 86 v)) :
    g_214 J L w (nI v) ∧ (v_214 J L w (nI v)).1 = rv (if w = 0 then (S r).1 else (S r).2) (enF (J 84 (3 * v)) (J 84 (3 * v + 1)) (J 84 (3 * v + 2)) (J 85 v) (nI v) (J 86 v)) ∧ kM S cnt (v_214 J L w (nI v)).2.1 (v_214 J L w (nI v)).2.2 := by
  have e3 : (3 * nI v).toNatClampNeg = 3 * v := by rw [n30, cl (by omega)]
  have e31 : (3 * nI v + 1).toNatClampNeg = 3 * v + 1 := by rw [n31, cl (by omega)]
  have e32 : (3 * nI v + 2).toNatClampNeg = 3 * v + 2 := by rw [n32, cl (by omega)]
  have ev : (nI v).toNatClampNeg = v := cl (by omega)
  have ek : kyI J w (nI v) = keyF (nI r) w (J 84 (3 * v)) (J 84 (3 * v + 1)) (J 84 (3 * v + 2)) (J 85 v) (nI v) (J 86 v) := by
    unfold kyI; rw [e3, e31, e32, ev, h4]
  have en : enOK (enF (J 84 (3 * v)) (J 84 (3 * v + 1)) (J 84 (3 * v + 2)) (J 85 v) (nI v) (J 86 v)) (nmI J (nI v)) := by
    unfold nmI
    rw [e3, e31, e32, ev]
    refine ⟨?_, ?_, ?_, ?_, ?_, ?_⟩
    · exact ((up2_nk (by omega)).trans ((up2_nk (by omega)).trans ((up2_nk (by omega)).trans ((up2_nk (by omega)).trans ((up2_nk (by omega)).trans up2_pt))))).symm
    · exact ((up2_nk (by omega)).trans ((up2_nk (by omega)).trans ((up2_nk (by omega)).trans ((up2_nk (by omega)).trans up2_pt)))).symm
    · exact ((up2_nk (by omega)).trans ((up2_nk (by omega)).trans ((up2_nk (by omega)).trans up2_pt))).symm
    · exact ((up2_nk (by omega)).trans ((up2_nk (by omega)).trans up2_pt)).symm
    · exact ((up2_nk (by omega)).trans up2_pt).symm
    · exact up2_pt.symm
  have fn : ∀ c k, ¬ (c = 74 ∧ 19 ≤ k ∧ k ≤ 24) → nmI J (nI v) c k = J c k := fun c k h => by
    unfold nmI
    exact (up2_nk (by omega)).trans ((up2_nk (by omega)).trans ((up2_nk (by omega)).trans ((up2_nk (by omega)).trans ((up2_nk (by omega)).trans (up2_nk (by omega))))))
  have e4 : nmI J (nI v) 74 4 = nI r := (fn _ _ (by omega)).trans h4
  obtain ⟨t1, -, -, t2⟩ := tellS (I := I) (J := nmI J (nI v)) (r := r) (by omega) (TxtP_cg (hT r hr) (fun _ _ _ => rfl) (fun c k h => fn c k (by omega))) en L w
  obtain ⟨p, p1, p2⟩ := plc_in (kyI J w (nI v))
  have ep : (plc (kyI J w (nI v))).toNatClampNeg = p := by rw [p2, cl (by omega)]
  have hg : g_214 J L w (nI v) := by
    refine g214_e J L w (nI v) ?_ ?_ ?_ (vin hv (by omega)) ?_ (fun _ => ?_)
    · rw [n30]; exact vin (by omega) (by omega)
    · rw [n31]; exact vin (by omega) (by omega)
    · rw [n32]; exact vin (by omega) (by omega)
    · rw [p2]; exact vin p1 (by omega)
    · rw [e4]; exact t1
  refine ⟨hg, ?_⟩
  rw [v214_e, ep, bxd]
  by_cases z : lg_cmp (L 88 p) (kyI J w (nI v)) = 0
  · rw [if_pos z]
    have z' := (lg0 _ _).mp z
    have kM' : kM S cnt (nmI J (nI v)) L := fun h hh => by
      rcases hM h hh with a | ⟨r', a1, w', x, y, zz, g, v', c, a2, a3, a4⟩
      · exact Or.inl a
      · exact Or.inr ⟨r', a1, w', x, y, zz, g, v', c, a2, a3, (fn _ _ (by omega)).trans a4⟩
    refine ⟨?_, kM'⟩
    show nmI J (nI v) 89 p = _
    rcases hM p p1 with a | ⟨r', a1, w', x, y, zz, g, v', c, a2, a3, a4⟩
    · rw [a, ek] at z'
      exact absurd z'.symm (key_n0 ok)
    · rw [a3, ek] at z'
      obtain ⟨i1, i2, i3, i4, i5, i6, i7, i8⟩ := key_inj a2 ok z'
      have ir : r' = r := by
        have := congrArg Int32.toNatClampNeg i1
        rwa [cl (by omega), cl (by omega)] at this
      subst ir
      rw [fn _ _ (by omega), a4, i2, i3, i4, i5, i6, i7, i8]
  · rw [if_neg z, e4, bxd]
    have f1 : ∀ c k, c ≠ 74 → (v_193 (nmI J (nI v)) L (nI r) w).2.1 c k = J c k := fun c k h => (frI_v_193 (by omega)).trans (fn _ _ (by omega))
    have f2 : ∀ c k, c ≠ 74 → (v_193 (nmI J (nI v)) L (nI r) w).2.2 c k = L c k := fun c k h => frL_v_193 (by omega)
    generalize v_193 (nmI J (nI v)) L (nI r) w = Q at t2 f1 f2
    refine ⟨up2_pt.trans t2, fun h hh => ?_⟩
    show up2 Q.2.2 88 p (kyI J w (nI v)) 88 h = 0 ∨ ∃ r : Nat, r < cnt ∧ ∃ w' x y z g v' c : Int32, okKey (nI r) w' x y z g v' c ∧ up2 Q.2.2 88 p (kyI J w (nI v)) 88 h = keyF (nI r) w' x y z g v' c ∧ up2 Q.2.1 89 p Q.1 89 h = rv (if w' = 0 then (S r).1 else (S r).2) (enF x y z g v' c)
    by_cases y : h = p
    · subst y
      have e1 : up2 Q.2.2 88 h (kyI J w (nI v)) 88 h = kyI J w (nI v) := by simp [up2]
      rw [e1, up2_pt]
      exact Or.inr ⟨r, hr, w, _, _, _, _, _, _, ok, ek, t2⟩
    · have e1 : up2 Q.2.2 88 p (kyI J w (nI v)) 88 h = L 88 h := (up2_nk (by omega)).trans (f2 _ _ (by omega))
      have e2 : up2 Q.2.1 89 p Q.1 89 h = J 89 h := (up2_nk (by omega)).trans (f1 _ _ (by omega))
      rw [e1, e2]
      exact hM h hh
end
