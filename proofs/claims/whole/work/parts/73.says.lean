section
/-! what the reference says of a place: kept, or told by reading -/
def nmI (I : WI) (x2 : Int32) : WI := (up2 (up2 (up2 (up2 (up2 (up2 I 74 19 (I 84 (3 * x2).toNatClampNeg)) 74 20 (I 84 ((3 * x2) + 1).toNatClampNeg)) 74 21 (I 84 ((3 * x2) + 2).toNatClampNeg)) 74 22 (I 85 x2.toNatClampNeg)) 74 23 x2) 74 24 (I 86 x2.toNatClampNeg))
def kyI (I : WI) (x1 x2 : Int32) : Int64 := keyF (I 74 4) x1 (I 84 (3 * x2).toNatClampNeg) (I 84 ((3 * x2) + 1).toNatClampNeg) (I 84 ((3 * x2) + 2).toNatClampNeg) (I 85 x2.toNatClampNeg) x2 (I 86 x2.toNatClampNeg)
theorem v214_e (I : WI) (L : WL) (x1 x2 : Int32) : v_214 I L x1 x2 = (bx ((if (lg_cmp (L 88 (plc (kyI I x1 x2)).toNatClampNeg) (kyI I x1 x2)) = 0 then (nmI I x2, L) else (bx ((v_193 (nmI I x2) L (nmI I x2 74 4) x1) : Int32 × WI × WL) (fun p1 => ((up2 p1.2.1 89 (plc (kyI I x1 x2)).toNatClampNeg p1.1), (up2 p1.2.2 88 (plc (kyI I x1 x2)).toNatClampNeg (kyI I x1 x2)))))) : WI × WL) (fun p2 => ((p2.1 89 (plc (kyI I x1 x2)).toNatClampNeg), p2.1, p2.2))) := by
  unfold v_214
  rfl
theorem g214_e (I : WI) (L : WL) (x1 x2 : Int32) (h1 : vp_in (3 * x2) 36) (h2 : vp_in (3 * x2 + 1) 36) (h3 : vp_in (3 * x2 + 2) 36) (h4 : vp_in x2 12) (h5 : vp_in (plc (kyI I x1 x2)) 512) (h6 : ¬ lg_cmp (L 88 (plc (kyI I x1 x2)).toNatClampNeg) (kyI I x1 x2) = 0 → g_193 (nmI I x2) L (nmI I x2 74 4)) : g_214 I L x1 x2 := by
  unfold g_214
  exact ⟨h1, h2, h3, h4, h5, fun w => ⟨h6 w, h5, h5⟩, h5⟩
theorem getD_ext {a b : List Int32} (h : a.length = b.length) (hk : ∀ k, k < a.length → a.getD k 0 = b.getD k 0) : a = b := by
  refine List.ext_getElem h (fun i h1 h2 => ?_)
  have w := hk i h1
  rw [List.getD_eq_getElem?_getD, List.getD_eq_getElem?_getD, List.getElem?_eq_getElem h1, List.getElem?_eq_getElem h2] at w
  exact w
/-- text r of the class and of the reference: the steps S1, S2 -/
def TxtP (S : List Int32 × List Int32) (I J : WI) (r : Nat) : Prop :=
  (∃ n T I0 tt, bC I0 n T ∧ J 76 r = nI n ∧ (∀ i, i < n → J 75 (160 * r + i) = T i) ∧ (v_84 I0 tt (45 + 2 * r)).1 = -1 ∧ (v_84 I0 tt (45 + 2 * r)).2.1 (45 + 2 * r) 1 = nI (S.1.length + S.2.length) ∧ (v_84 I0 tt (45 + 2 * r)).2.1 (45 + 2 * r) 2 = nI S.1.length ∧ ∀ k, k < S.1.length + S.2.length → (v_84 I0 tt (45 + 2 * r)).2.1 (45 + 2 * r + 1) k = (S.1 ++ S.2).getD k 0) ∧
  S.1.length + S.2.length ≤ 160 ∧ I (45 + 2 * r) 1 = nI (S.1.length + S.2.length) ∧ I (45 + 2 * r) 2 = nI S.1.length ∧ ∀ k, k < S.1.length + S.2.length → I (45 + 2 * r + 1) k = (S.1 ++ S.2).getD k 0
theorem TxtP_cg {S : List Int32 × List Int32} {I J I' J' : WI} {r : Nat} (h : TxtP S I J r) (hI : ∀ c k, c = 45 + 2 * r ∨ c = 45 + 2 * r + 1 → I' c k = I c k) (hJ : ∀ c k, c = 75 ∨ c = 76 → J' c k = J c k) : TxtP S I' J' r := by
  obtain ⟨⟨n, T, I0, tt, a1, a2, a3, a4⟩, b1, b2, b3, b4⟩ := h
  exact ⟨⟨n, T, I0, tt, a1, (hJ _ _ (by omega)).trans a2, fun i hi => (hJ _ _ (by omega)).trans (a3 i hi), a4⟩, b1, (hI _ _ (by omega)).trans b2, (hI _ _ (by omega)).trans b3, fun k hk => (hI _ _ (by omega)).trans (b4 k hk)⟩
def rv (cs : List Int32) (en : Int32 → Int32) : Int32 := (runL en cs []).headD 0
def enF (x y z g v c : Int32) : Int32 → Int32 := fun s => if s = (-5) then v else if s = (-4) then g else if s = (-3) then z else if s = (-2) then y else if s = (-1) then x else c
theorem tellS {S : List Int32 × List Int32} {I J : WI} {r : Nat} (hr : r < 6) (h : TxtP S I J r) {en : Int32 → Int32} (hen : enOK en J) (L : WL) (w : Int32) :
    g_193 J L (nI r) ∧ (∀ R, runL en S.1 R = rv S.1 en :: R) ∧ (∀ R, runL en S.2 R = rv S.2 en :: R) ∧ (v_193 J L (nI r) w).1 = rv (if w = 0 then S.1 else S.2) en := by
  obtain ⟨⟨n, T, I0, tt, a1, a2, a3, a4, a5, a6, a7⟩, b1, -⟩ := h
  obtain ⟨-, g2, rd⟩ := readS (t := 45 + 2 * r) (by omega) (L := L) a1 hr a2 a3 hen tt w
  refine ⟨g2, ?_⟩
  rcases rd with ⟨fl, f1, f2, -⟩ | ⟨cs1, cs2, c1, c2, c3, c4, c5, c6, p, q, hp, hq, e⟩
  · have e2 : (-1 : Int32) = nI fl := a4.symm.trans f2
    have : (nI fl).toInt = (fl : Int) := Int32.toInt_ofNat_of_lt (by omega)
    rw [← e2] at this
    have z : (-1 : Int32).toInt = -1 := by decide
    omega
  · have c4 : (v_84 I0 tt (45 + 2 * r)).2.1 (45 + 2 * r) 1 = nI (cs1.length + cs2.length) := c4
    have c5 : (v_84 I0 tt (45 + 2 * r)).2.1 (45 + 2 * r) 2 = nI cs1.length := c5
    have l1 : cs1.length = S.1.length := by
      have := (a6.symm.trans c5)
      have := congrArg Int32.toNatClampNeg this
      rw [cl (by omega), cl (by omega)] at this
      exact this.symm
    have l2 : cs1.length + cs2.length = S.1.length + S.2.length := by
      have := (a5.symm.trans c4)
      have := congrArg Int32.toNatClampNeg this
      rw [cl (by omega), cl (by omega)] at this
      exact this.symm
    have ee : cs1 ++ cs2 = S.1 ++ S.2 := getD_ext (by rw [List.length_append, List.length_append]; exact l2) (fun k hk => by
      rw [List.length_append] at hk
      exact (c6 k hk).symm.trans (a7 k (by omega)))
    obtain ⟨e1, e2⟩ := List.append_inj ee l1
    subst e1 e2
    have r1 : rv S.1 en = p := by unfold rv; rw [hp []]; rfl
    have r2 : rv S.2 en = q := by unfold rv; rw [hq []]; rfl
    refine ⟨by rw [r1]; exact hp, by rw [r2]; exact hq, ?_⟩
    have e : (v_193 J L (nI r) w).1 = if w = 0 then p else q := e
    rw [e]
    by_cases z : w = 0
    · rw [if_pos z, if_pos z, r1]
    · rw [if_neg z, if_neg z, r2]
/-- what is kept is right -/
def kM (S : Nat → List Int32 × List Int32) (cnt : Nat) (J : WI) (L : WL) : Prop := ∀ h, h < 512 → L 88 h = 0 ∨ ∃ r : Nat, r < cnt ∧ ∃ w x y z g v c : Int32, okKey (nI r) w x y z g v c ∧ L 88 h = keyF (nI r) w x y z g v c ∧ J 89 h = rv (if w = 0 then (S r).1 else (S r).2) (enF x y z g v c)
end
