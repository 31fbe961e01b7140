section
/-! what fits, what a push is: the class's judge and the reference -/
def enR (J : WI) (v : Nat) : Int32 → Int32 := enF (J 84 (3 * v)) (J 84 (3 * v + 1)) (J 84 (3 * v + 2)) (J 85 v) (nI v) (J 86 v)
def FT (S : Nat → List Int32 × List Int32) (r : Nat) (J : WI) (v : Nat) : Prop := J 87 v = 0 ∧ ¬ rv (S r).1 (enR J v) = 0
def PU (S : Nat → List Int32 × List Int32) (r : Nat) (J : WI) (v : Nat) : Int32 := cq (rv (S r).2 (enR J v))
theorem nm_ok {J : WI} {v : Nat} (hv : v < 12) : enOK (enR J v) (nmI J (nI v)) := by
  have e3 : (3 * nI v).toNatClampNeg = 3 * v := by rw [n30, cl (by omega)]
  have e31 : (3 * nI v + 1).toNatClampNeg = 3 * v + 1 := by rw [n31, cl (by omega)]
  have e32 : (3 * nI v + 2).toNatClampNeg = 3 * v + 2 := by rw [n32, cl (by omega)]
  have ev : (nI v).toNatClampNeg = v := cl (by omega)
  unfold nmI
  rw [e3, e31, e32, ev]
  refine ⟨?_, ?_, ?_, ?_, ?_, ?_⟩
  · exact ((up2_nk (by omega)).trans ((up2_nk (by omega)).trans ((up2_nk (by omega)).trans ((up2_nk (by omega)).trans ((up2_nk (by omega)).trans up2_pt))))).symm
  · exact ((up2_nk (by omega)).trans ((up2_nk (by omega)).trans ((up2_nk (by omega)).trans ((up2_nk (by omega)).trans up2_pt)))).symm
  · exact ((up2_nk (by omega)).trans ((up2_nk (by omega)).trans ((up2_nk (by omega)).trans up2_pt))).symm
  · exact ((up2_nk (by omega)).trans ((up2_nk (by omega)).trans up2_pt)).symm
  · exact ((up2_nk (by omega)).trans up2_pt).symm
  · exact up2_pt.symm
theorem nm_fr {J : WI} {x : Int32} {c k : Nat} (h : ¬ (c = 74 ∧ 19 ≤ k ∧ k ≤ 24)) : nmI J x c k = J c k := by
  unfold nmI
  exact (up2_nk (by omega)).trans ((up2_nk (by omega)).trans ((up2_nk (by omega)).trans ((up2_nk (by omega)).trans ((up2_nk (by omega)).trans (up2_nk (by omega))))))
theorem cq_216 (x : Int32) : v_216 x 0 99 = cq x := by
  have t0 : (0 : Int32).toInt = 0 := by decide
  have t99 : (99 : Int32).toInt = 99 := by decide
  have d : (0 : Int32) < 99 := by decide
  unfold v_216 cq v_283 v_282
  by_cases a : (0 : Int32) ≤ x
  · by_cases b : x ≤ 99
    · rw [if_pos a, if_pos b]
      by_cases c : x < 99
      · rw [if_pos c]
        by_cases e : (0 : Int32) < x
        · rw [if_pos e]
        · rw [if_neg e]
          rw [Int32.le_iff_toInt_le] at a
          rw [Int32.lt_iff_toInt_lt] at e
          exact Int32.toInt_inj.mp (by omega)
      · rw [if_neg c, if_pos d]
        rw [Int32.le_iff_toInt_le] at b
        rw [Int32.lt_iff_toInt_lt] at c
        exact Int32.toInt_inj.mp (by omega)
    · have c : ¬ x < 99 := by
        rw [Int32.le_iff_toInt_le] at b
        rw [Int32.lt_iff_toInt_lt]
        omega
      rw [if_pos a, if_neg b, if_neg c, if_pos d]
  · have c : x < 99 := by
      rw [Int32.le_iff_toInt_le] at a
      rw [Int32.lt_iff_toInt_lt]
      omega
    have e : ¬ (0 : Int32) < x := by
      rw [Int32.le_iff_toInt_le] at a
      rw [Int32.lt_iff_toInt_lt]
      omega
    rw [if_neg a, if_pos c, if_neg e]
theorem v115_r {b cnt r : Nat} {I : WI} (hc : cnt ≤ 6) (hr : r < cnt) (h2 : I b 2 = nI r) (h9 : I 0 9 = nI cnt) : v_115 I b = 45 + 2 * r ∧ g_115 I b := by
  have e : ∃ q, v_107 (nI r) 0 (nI cnt - 1) = q ∧ q = 1 := by
    rcases vnum (nv := cnt) (by omega) (nI r) with ⟨a, -⟩ | a
    · exact ⟨_, rfl, a⟩
    · exfalso
      rcases v107_cases (nI r) 0 (nI cnt - 1) with ⟨b1, -⟩ | ⟨-, b2⟩
      · rw [b1] at a; exact absurd a (by decide)
      · apply b2
        have t0 : (0 : Int32).toInt = 0 := by decide
        have tr : (nI r).toInt = (r : Int) := Int32.toInt_ofNat_of_lt (by omega)
        rw [show (1 : Int32) = nI 1 from rfl, pk_sub_toInt (by omega) (by omega), tr, t0]
        omega
  obtain ⟨q, e1, e2⟩ := e
  unfold v_115 g_115
  rw [h2, h9, e1, e2, if_neg (by decide), bxd, bxd, bxd, cl (by omega)]
  exact ⟨rfl, vin (by omega) (by omega)⟩
theorem ok_R {b nv nc tc v r : Nat} {I J : WI} (hk : kR b nv nc tc I J) (ht : tc ≤ 6) (hr : r < tc) (hv : v < nv) (w : Int32) (hw : bt 0 1 w) : okKey (nI r) w (J 84 (3 * v)) (J 84 (3 * v + 1)) (J 84 (3 * v + 2)) (J 85 v) (nI v) (J 86 v) := by
  obtain ⟨-, -, kc, -, kp, kv, -, -, -⟩ := hk
  have h12 := kv.1
  have h4 := kc.1
  have tn : ∀ n : Nat, n < 100 → (nI n).toInt = (n : Int) := fun n h => Int32.toInt_ofNat_of_lt (by omega)
  refine ⟨⟨by rw [tn r (by omega)]; omega, by rw [tn r (by omega)]; omega⟩, hw, (kp _ (by omega)).2, (kp _ (by omega)).2, (kp _ (by omega)).2, (kv.2.2.2.1 v (by omega)).2.1, ⟨by rw [tn v (by omega)]; omega, by rw [tn v (by omega)]; omega⟩, ?_⟩
  rcases kv.2.2.2.2.1 v hv with ⟨a, -⟩ | ⟨c, c1, c2⟩
  · rw [a]; exact ⟨by decide, by decide⟩
  · rw [c2]; exact ⟨by rw [tn c (by omega)]; omega, by rw [tn c (by omega)]; omega⟩
/-- the class: weighed for a shelf -/
theorem weighR {S : Nat → List Int32 × List Int32} {b nv nc tc r : Nat} {I J : WI} (L : WL) (hb : b ≤ 21) (hk : kR b nv nc tc I J) (hT : ∀ r, r < tc → TxtP (S r) I J r) (ht : tc ≤ 6) (hr : r < tc) (h4 : J 74 4 = nI r) (h9 : I 0 9 = nI tc) :
    v_115 I b = 45 + 2 * r ∧ g_115 I b ∧ isT (45 + 2 * r) ∧ g_12 I b (45 + 2 * r) ∧ ∃ m, m < 2 ^ nv ∧ v_21 (v_12 I b (45 + 2 * r)) b = nI m ∧ ∀ v, v < nv → (m.testBit v = true ↔ FT S r J v) ∧ v_12 I b (45 + 2 * r) 37 v = PU S r J v := by
  have hk0 := hk
  obtain ⟨-, -, -, -, kp, kv, -, k2, -⟩ := hk
  have h12 := kv.1
  obtain ⟨a1, a2⟩ := v115_r (I := I) (b := b) ht hr (k2.trans h4) h9
  refine ⟨a1, a2, by unfold isT; omega, ?_⟩
  have ts : ∀ x, x < nv → (∀ R, runL (enR J x) (S r).1 R = rv (S r).1 (enR J x) :: R) ∧ (∀ R, runL (enR J x) (S r).2 R = rv (S r).2 (enR J x) :: R) := fun x hx => by
    obtain ⟨-, t1, t2, -⟩ := tellS (I := I) (J := nmI J (nI x)) (r := r) (by omega) (TxtP_cg (hT r hr) (fun _ _ _ => rfl) (fun c k h => nm_fr (by omega))) (nm_ok (show x < 12 by omega)) L 0
    exact ⟨t1, t2⟩
  obtain ⟨-, b1, b2, b3, b4⟩ := hT r hr
  obtain ⟨g, m, m1, m2, m3⟩ := weighS (r2 := 45 + 2 * r) (r1 := b) (en := enR J) (p := fun x => rv (S r).1 (enR J x)) (q := fun x => rv (S r).2 (enR J x)) (by omega) hb h12 b1 b2 b3 b4 kv.2.1 (fun x hx z z1 z2 => by
    have e3 : (3 * nI x).toNatClampNeg = 3 * x := by rw [n30, cl (by omega)]
    have e31 : (3 * nI x + 1).toNatClampNeg = 3 * x + 1 := by rw [n31, cl (by omega)]
    have e32 : (3 * nI x + 2).toNatClampNeg = 3 * x + 2 := by rw [n32, cl (by omega)]
    have ev : (nI x).toNatClampNeg = x := cl (by omega)
    unfold v_15 enR enF
    rw [e3, e31, e32, ev, (kp _ (by omega)).1, (kp _ (by omega)).1, (kp _ (by omega)).1, (kv.2.2.2.1 x (by omega)).1, (kv.2.2.2.1 x (by omega)).2.2]) (fun x hx => (ts x hx).1) (fun x hx => (ts x hx).2)
  refine ⟨g, ?_⟩
  obtain ⟨m', n1, n2, n3⟩ := kv.2.2.2.2.2.2
  refine ⟨m &&& m', Nat.and_lt_two_pow _ n1, ?_, fun v hv => ⟨?_, (m3 v hv).2⟩⟩
  · unfold v_21
    rw [m2, show v_12 I b (45 + 2 * r) b 12 = I b 12 from frI_v_12 (by omega) (by omega) (by omega), n2, nI_and]
  · rw [Nat.testBit_and, Bool.and_eq_true, (m3 v hv).1, n3 v hv, decide_eq_true_iff]
    exact ⟨fun w => ⟨w.2, w.1⟩, fun w => ⟨w.2, w.1⟩⟩
end
