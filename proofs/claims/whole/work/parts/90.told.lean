section
variable {S : Nat → List Int32 × List Int32} {nv nc tc r v : Nat} {I J : WI} {L : WL}
/-! told -/
theorem judged (h : WJ S 1 nv nc tc r I J L) (h9 : I 0 9 = nI tc) (hv : v < nv) : ∃ (A : WI) (m : Nat), (∀ x, g_114 I (nI v) x) ∧ (∀ x, v_114 I (nI v) x = (if ¬ x = 9 then (if ¬ x = 10 then v_22 A 1 (nI v) else A 37 v) else v_20 A 1 (nI v), A)) ∧
    m < 4096 ∧ v_21 A 1 = nI m ∧ (m.testBit v = true ↔ FT S r J v) ∧ A 37 v = PU S r J v ∧ WJ S 1 nv nc tc r A J L := by
  have h' := h
  obtain ⟨h1, h2, h3, h4, h5, h6⟩ := h
  have h12 : nv ≤ 12 := by obtain ⟨-, -, -, -, -, kv, -⟩ := h1; exact kv.1
  obtain ⟨a1, a2, a3, a4, m, m1, m2, m3⟩ := weighR (b := 1) L (by omega) h1 h2 h3 h5 h6 h9
  have fr : ∀ c k, c ≠ 35 → c ≠ 36 → c ≠ 37 → v_12 I 1 (45 + 2 * r) c k = I c k := fun c k x y z => frI_v_12 (by omega) y z
  have wA : WJ S 1 nv nc tc r (v_12 I 1 (45 + 2 * r)) J L := WJ_I h' (by omega) fr
  obtain ⟨k1, k2, k3, k4, k5, k6⟩ := wA
  obtain ⟨q1, q2⟩ := m3 v hv
  obtain ⟨f1, -⟩ := refFar k1 k2 k3 k4 k5 k6 hv q2
  refine ⟨v_12 I 1 (45 + 2 * r), m, fun x => ?_, fun x => ?_, p12 m1 h12, m2, q1, q2, k1, k2, k3, k4, k5, k6⟩
  · unfold g_114
    rw [a1, bxd, bxd]
    exact ⟨a2, a3, a4, fun _ => ⟨fun _ => f1, fun _ => vin (by omega) (by omega)⟩⟩
  · unfold v_114
    rw [a1, bxd, bxd]
    by_cases y : x = 9
    · have y' : ¬ ¬ x = 9 := fun w => w y
      rw [if_neg y', if_neg y']
      unfold v_20
      rw [m2, v111_eq (p12 m1 h12) (by omega)]
      cases m.testBit v
      · rw [if_neg (show ¬ (false = true) by decide), if_pos (show (0 : Int32) = 0 from rfl)]
      · rw [if_pos (show true = true from rfl), if_neg (show ¬ (1 : Int32) = 0 by decide)]
    · rw [if_pos y, if_pos y]
      by_cases y2 : x = 10
      · rw [if_neg (fun w => w y2), if_neg (fun w => w y2), cl (show v < 2 ^ 31 by omega)]
      · rw [if_pos y2, if_pos y2]
theorem RO_rf : RO J J := fun _ _ _ _ _ => rfl
/-! the values of told, by what is asked -/
theorem t113_3 {x : Int32} (e : v_110 I x = 1) : v_113 I x 3 = ((I 9 x.toNatClampNeg), I) := by
  unfold v_113
  rw [e, show v_107 3 0 12 = 1 by decide, if_neg d10, if_pos d10, if_pos (show (3 : Int32) ≤ 3 by decide), bxd, if_pos (rfl : (3 : Int32) = 3)]
theorem t210_3 {x : Int32} (e : v_179 J x = 1) : v_210 J L x 3 = ((J 85 x.toNatClampNeg), J, L) := by
  unfold v_210
  rw [e, show v_170 (Int32.toInt64 3) 0 12 = 1 by decide, if_neg d10, if_pos d10, if_neg (show ¬ (3 : Int32) = 12 by decide), show v_170 (Int32.toInt64 3) 6 8 = 0 by decide, if_pos (rfl : (0 : Int32) = 0), bxd, if_pos (rfl : (0 : Int32) = 0), if_pos (show (3 : Int32) ≤ 3 by decide), if_neg (show ¬ (6 : Int32) ≤ 3 by decide), if_neg (show ¬ ¬ (3 : Int32) = 3 by decide)]
theorem t113_4 {x : Int32} (e : v_110 I x = 1) : v_113 I x 4 = (if (v_61 I 1 x) = 0 then (1, I) else (0, I)) := by
  unfold v_113
  rw [e, show v_107 4 0 12 = 1 by decide, if_neg d10, if_pos d10, if_pos (show (3 : Int32) ≤ 4 by decide), bxd, if_neg (show ¬ (4 : Int32) = 3 by decide), if_pos (rfl : (4 : Int32) = 4)]
theorem t210_4 {x : Int32} (e : v_179 J x = 1) : v_210 J L x 4 = ((J 87 x.toNatClampNeg), J, L) := by
  unfold v_210
  rw [e, show v_170 (Int32.toInt64 4) 0 12 = 1 by decide, if_neg d10, if_pos d10, if_neg (show ¬ (4 : Int32) = 12 by decide), show v_170 (Int32.toInt64 4) 6 8 = 0 by decide, if_pos (rfl : (0 : Int32) = 0), bxd, if_pos (rfl : (0 : Int32) = 0), if_pos (show (3 : Int32) ≤ 4 by decide), if_neg (show ¬ (6 : Int32) ≤ 4 by decide), if_pos (show ¬ (4 : Int32) = 3 by decide), if_neg (show ¬ ¬ (4 : Int32) = 4 by decide)]
theorem t113_5 {x : Int32} (e : v_110 I x = 1) : v_113 I x 5 = ((I 10 x.toNatClampNeg), I) := by
  unfold v_113
  rw [e, show v_107 5 0 12 = 1 by decide, if_neg d10, if_pos d10, if_pos (show (3 : Int32) ≤ 5 by decide), bxd, if_neg (show ¬ (5 : Int32) = 3 by decide), if_neg (show ¬ (5 : Int32) = 4 by decide), if_pos (rfl : (5 : Int32) = 5)]
theorem t210_5 {x : Int32} (e : v_179 J x = 1) : v_210 J L x 5 = ((J 86 x.toNatClampNeg), J, L) := by
  unfold v_210
  rw [e, show v_170 (Int32.toInt64 5) 0 12 = 1 by decide, if_neg d10, if_pos d10, if_neg (show ¬ (5 : Int32) = 12 by decide), show v_170 (Int32.toInt64 5) 6 8 = 0 by decide, if_pos (rfl : (0 : Int32) = 0), bxd, if_pos (rfl : (0 : Int32) = 0), if_pos (show (3 : Int32) ≤ 5 by decide), if_neg (show ¬ (6 : Int32) ≤ 5 by decide), if_pos (show ¬ (5 : Int32) = 3 by decide), if_pos (show ¬ (5 : Int32) = 4 by decide)]
theorem t113_6 {x : Int32} (e : v_110 I x = 1) : v_113 I x 6 = (if (if (I 10 x.toNatClampNeg) = (-1) then 0 else 1 : Int32) = 0 then ((-99999), I) else ((v_62 I 1 x (6 - 6)), I)) := by
  unfold v_113
  rw [e, show v_107 6 0 12 = 1 by decide, if_neg d10, if_pos d10, if_pos (show (3 : Int32) ≤ 6 by decide), bxd, if_neg (show ¬ (6 : Int32) = 3 by decide), if_neg (show ¬ (6 : Int32) = 4 by decide), if_neg (show ¬ (6 : Int32) = 5 by decide), if_pos (rfl : (6 : Int32) = 6)]
theorem t210_6 {x : Int32} (e : v_179 J x = 1) : v_210 J L x 6 = (if ¬ (J 86 x.toNatClampNeg) = (-1) then ((v_211 J x (6 - 6)), J, L) else ((-99999), J, L)) := by
  unfold v_210
  rw [e, show v_170 (Int32.toInt64 6) 0 12 = 1 by decide, if_neg d10, if_pos d10, if_neg (show ¬ (6 : Int32) = 12 by decide), show v_170 (Int32.toInt64 6) 6 8 = 1 by decide, if_neg d10, bxd, if_neg d10, if_pos (show (3 : Int32) ≤ 6 by decide), if_pos (show (6 : Int32) ≤ 6 by decide), if_neg (show ¬ (9 : Int32) ≤ 6 by decide)]
theorem t113_7 {x : Int32} (e : v_110 I x = 1) : v_113 I x 7 = (if (if (I 10 x.toNatClampNeg) = (-1) then 0 else 1 : Int32) = 0 then ((-99999), I) else ((v_62 I 1 x (7 - 6)), I)) := by
  unfold v_113
  rw [e, show v_107 7 0 12 = 1 by decide, if_neg d10, if_pos d10, if_pos (show (3 : Int32) ≤ 7 by decide), bxd, if_neg (show ¬ (7 : Int32) = 3 by decide), if_neg (show ¬ (7 : Int32) = 4 by decide), if_neg (show ¬ (7 : Int32) = 5 by decide), if_neg (show ¬ (7 : Int32) = 6 by decide), if_pos (rfl : (7 : Int32) = 7)]
theorem t210_7 {x : Int32} (e : v_179 J x = 1) : v_210 J L x 7 = (if ¬ (J 86 x.toNatClampNeg) = (-1) then ((v_211 J x (7 - 6)), J, L) else ((-99999), J, L)) := by
  unfold v_210
  rw [e, show v_170 (Int32.toInt64 7) 0 12 = 1 by decide, if_neg d10, if_pos d10, if_neg (show ¬ (7 : Int32) = 12 by decide), show v_170 (Int32.toInt64 7) 6 8 = 1 by decide, if_neg d10, bxd, if_neg d10, if_pos (show (3 : Int32) ≤ 7 by decide), if_pos (show (6 : Int32) ≤ 7 by decide), if_neg (show ¬ (9 : Int32) ≤ 7 by decide)]
theorem t113_8 {x : Int32} (e : v_110 I x = 1) : v_113 I x 8 = (if (if (I 10 x.toNatClampNeg) = (-1) then 0 else 1 : Int32) = 0 then ((-99999), I) else ((v_62 I 1 x (8 - 6)), I)) := by
  unfold v_113
  rw [e, show v_107 8 0 12 = 1 by decide, if_neg d10, if_pos d10, if_pos (show (3 : Int32) ≤ 8 by decide), bxd, if_neg (show ¬ (8 : Int32) = 3 by decide), if_neg (show ¬ (8 : Int32) = 4 by decide), if_neg (show ¬ (8 : Int32) = 5 by decide), if_neg (show ¬ (8 : Int32) = 6 by decide), if_neg (show ¬ (8 : Int32) = 7 by decide), if_pos (rfl : (8 : Int32) = 8)]
theorem t210_8 {x : Int32} (e : v_179 J x = 1) : v_210 J L x 8 = (if ¬ (J 86 x.toNatClampNeg) = (-1) then ((v_211 J x (8 - 6)), J, L) else ((-99999), J, L)) := by
  unfold v_210
  rw [e, show v_170 (Int32.toInt64 8) 0 12 = 1 by decide, if_neg d10, if_pos d10, if_neg (show ¬ (8 : Int32) = 12 by decide), show v_170 (Int32.toInt64 8) 6 8 = 1 by decide, if_neg d10, bxd, if_neg d10, if_pos (show (3 : Int32) ≤ 8 by decide), if_pos (show (6 : Int32) ≤ 8 by decide), if_neg (show ¬ (9 : Int32) ≤ 8 by decide)]
theorem t113_9 {x : Int32} (e : v_110 I x = 1) : v_113 I x 9 = ((v_114 I x 9).1, (v_114 I x 9).2) := by
  unfold v_113
  rw [e, show v_107 9 0 12 = 1 by decide, if_neg d10, if_pos d10, if_pos (show (3 : Int32) ≤ 9 by decide), bxd, if_neg (show ¬ (9 : Int32) = 3 by decide), if_neg (show ¬ (9 : Int32) = 4 by decide), if_neg (show ¬ (9 : Int32) = 5 by decide), if_neg (show ¬ (9 : Int32) = 6 by decide), if_neg (show ¬ (9 : Int32) = 7 by decide), if_neg (show ¬ (9 : Int32) = 8 by decide), if_pos (rfl : (9 : Int32) = 9), bxd]
theorem t210_9 {x : Int32} (e : v_179 J x = 1) : v_210 J L x 9 = (if (v_213 J L x).1 = 0 then (0, (v_213 J L x).2.1, (v_213 J L x).2.2) else (1, (v_213 J L x).2.1, (v_213 J L x).2.2)) := by
  unfold v_210
  rw [e, show v_170 (Int32.toInt64 9) 0 12 = 1 by decide, if_neg d10, if_pos d10, if_neg (show ¬ (9 : Int32) = 12 by decide), show v_170 (Int32.toInt64 9) 6 8 = 0 by decide, if_pos (rfl : (0 : Int32) = 0), bxd, if_pos (rfl : (0 : Int32) = 0), if_pos (show (3 : Int32) ≤ 9 by decide), if_pos (show (6 : Int32) ≤ 9 by decide), if_pos (show (9 : Int32) ≤ 9 by decide), if_neg (show ¬ ¬ (9 : Int32) = 9 by decide), bxd]
theorem t113_10 {x : Int32} (e : v_110 I x = 1) : v_113 I x 10 = ((v_114 I x 10).1, (v_114 I x 10).2) := by
  unfold v_113
  rw [e, show v_107 10 0 12 = 1 by decide, if_neg d10, if_pos d10, if_pos (show (3 : Int32) ≤ 10 by decide), bxd, if_neg (show ¬ (10 : Int32) = 3 by decide), if_neg (show ¬ (10 : Int32) = 4 by decide), if_neg (show ¬ (10 : Int32) = 5 by decide), if_neg (show ¬ (10 : Int32) = 6 by decide), if_neg (show ¬ (10 : Int32) = 7 by decide), if_neg (show ¬ (10 : Int32) = 8 by decide), if_neg (show ¬ (10 : Int32) = 9 by decide), if_pos (rfl : (10 : Int32) = 10), bxd]
theorem t210_10 {x : Int32} (e : v_179 J x = 1) : v_210 J L x 10 = ((v_215 J L x).1, (v_215 J L x).2.1, (v_215 J L x).2.2) := by
  unfold v_210
  rw [e, show v_170 (Int32.toInt64 10) 0 12 = 1 by decide, if_neg d10, if_pos d10, if_neg (show ¬ (10 : Int32) = 12 by decide), show v_170 (Int32.toInt64 10) 6 8 = 0 by decide, if_pos (rfl : (0 : Int32) = 0), bxd, if_pos (rfl : (0 : Int32) = 0), if_pos (show (3 : Int32) ≤ 10 by decide), if_pos (show (6 : Int32) ≤ 10 by decide), if_pos (show (9 : Int32) ≤ 10 by decide), if_pos (show ¬ (10 : Int32) = 9 by decide), if_neg (show ¬ ¬ (10 : Int32) = 10 by decide), bxd]
theorem t113_11 {x : Int32} (e : v_110 I x = 1) : v_113 I x 11 = ((v_114 I x 11).1, (v_114 I x 11).2) := by
  unfold v_113
  rw [e, show v_107 11 0 12 = 1 by decide, if_neg d10, if_pos d10, if_pos (show (3 : Int32) ≤ 11 by decide), bxd, if_neg (show ¬ (11 : Int32) = 3 by decide), if_neg (show ¬ (11 : Int32) = 4 by decide), if_neg (show ¬ (11 : Int32) = 5 by decide), if_neg (show ¬ (11 : Int32) = 6 by decide), if_neg (show ¬ (11 : Int32) = 7 by decide), if_neg (show ¬ (11 : Int32) = 8 by decide), if_neg (show ¬ (11 : Int32) = 9 by decide), if_neg (show ¬ (11 : Int32) = 10 by decide), if_pos (rfl : (11 : Int32) = 11), bxd]
theorem t210_11 {x : Int32} (e : v_179 J x = 1) : v_210 J L x 11 = ((v_217 J L x).1, (v_217 J L x).2.1, (v_217 J L x).2.2) := by
  unfold v_210
  rw [e, show v_170 (Int32.toInt64 11) 0 12 = 1 by decide, if_neg d10, if_pos d10, if_neg (show ¬ (11 : Int32) = 12 by decide), show v_170 (Int32.toInt64 11) 6 8 = 0 by decide, if_pos (rfl : (0 : Int32) = 0), bxd, if_pos (rfl : (0 : Int32) = 0), if_pos (show (3 : Int32) ≤ 11 by decide), if_pos (show (6 : Int32) ≤ 11 by decide), if_pos (show (9 : Int32) ≤ 11 by decide), if_pos (show ¬ (11 : Int32) = 9 by decide), if_pos (show ¬ (11 : Int32) = 10 by decide), if_neg (show ¬ ¬ (11 : Int32) = 11 by decide), bxd]
theorem t113_12 {x : Int32} (e : v_110 I x = 1) : v_113 I x 12 = (if (if (I 10 x.toNatClampNeg) = (-1) then 0 else 1 : Int32) = 0 then ((-99999), I) else ((FP.f2i (v_63 I 1 x)), I)) := by
  unfold v_113
  rw [e, show v_107 12 0 12 = 1 by decide, if_neg d10, if_pos d10, if_pos (show (3 : Int32) ≤ 12 by decide), bxd, if_neg (show ¬ (12 : Int32) = 3 by decide), if_neg (show ¬ (12 : Int32) = 4 by decide), if_neg (show ¬ (12 : Int32) = 5 by decide), if_neg (show ¬ (12 : Int32) = 6 by decide), if_neg (show ¬ (12 : Int32) = 7 by decide), if_neg (show ¬ (12 : Int32) = 8 by decide), if_neg (show ¬ (12 : Int32) = 9 by decide), if_neg (show ¬ (12 : Int32) = 10 by decide), if_neg (show ¬ (12 : Int32) = 11 by decide), if_pos (rfl : (12 : Int32) = 12)]
theorem t210_12 {x : Int32} (e : v_179 J x = 1) : v_210 J L x 12 = (if ¬ (J 86 x.toNatClampNeg) = (-1) then ((FP.f2i (v_218 J x)), J, L) else ((-99999), J, L)) := by
  unfold v_210
  rw [e, show v_170 (Int32.toInt64 12) 0 12 = 1 by decide, if_neg d10, if_pos d10, if_pos (rfl : (12 : Int32) = 12), bxd, if_neg d10, if_pos (show (3 : Int32) ≤ 12 by decide), if_pos (show (6 : Int32) ≤ 12 by decide), if_pos (show (9 : Int32) ≤ 12 by decide), if_pos (show ¬ (12 : Int32) = 9 by decide), if_pos (show ¬ (12 : Int32) = 10 by decide), if_pos (show ¬ (12 : Int32) = 11 by decide)]
end
section
variable {S : Nat → List Int32 × List Int32} {nv nc tc r v : Nat} {I J : WI} {L : WL}
/-- what told has in common -/
def tldS (S : Nat → List Int32 × List Int32) (tc : Nat) (I J : WI) (L : WL) (x1 x2 : Int32) : Prop := (v_113 I x1 x2).1 = (v_210 J L x1 x2).1 ∧ RO J (v_210 J L x1 x2).2.1 ∧ kM S tc (v_210 J L x1 x2).2.1 (v_210 J L x1 x2).2.2
theorem told_lo (h : WJ S 1 nv nc tc r I J L) (hv : v < nv) (e1 : v_110 I (nI v) = 1) (e2 : v_179 J (nI v) = 1) {w : Nat} (hw : w < 3) : tldS S tc I J L (nI v) (nI w) := by
  obtain ⟨⟨-, -, -, -, hP, hV, -⟩, -, -, hM, -⟩ := h
  have h12 := hV.1
  have ha : v_107 (nI w) 0 12 = 1 ∧ v_170 (Int32.toInt64 (nI w)) 0 12 = 1 ∧ v_170 (Int32.toInt64 (nI w)) 6 8 = 0 ∧ ¬ 3 ≤ nI w ∧ ¬ nI w = 12 := by
    match w, hw with
    | 0, _ => decide
    | 1, _ => decide
    | 2, _ => decide
  obtain ⟨a1, a2, a3, a4, a5⟩ := ha
  have k : 3 * nI v + nI w = nI (3 * v + w) := by rw [n30, nI_add]
  have E1 : v_113 I (nI v) (nI w) = (I 8 (3 * v + w), I) := by
    unfold v_113
    rw [e1, a1, if_neg d10, if_pos d10, if_neg a4, k, cl (by omega)]
  have E2 : v_210 J L (nI v) (nI w) = (J 84 (3 * v + w), J, L) := by
    unfold v_210
    rw [e2, a2, if_neg d10, if_pos d10, if_neg a5, a3, if_pos (rfl : (0 : Int32) = 0), bxd, if_pos (rfl : (0 : Int32) = 0), if_neg a4, k, cl (by omega)]
  unfold tldS
  rw [E1, E2]
  exact ⟨(hP (3 * v + w) (by omega)).1, RO_rf, hM⟩
/-- codes -/
theorem told_cd (h : WJ S 1 nv nc tc r I J L) (hv : v < nv) {i : Nat} (hi : i < 3) {x : Int32} (hx : x - 6 = nI i) (E1 : v_113 I (nI v) x = (if (if (I 10 (nI v).toNatClampNeg) = (-1) then 0 else 1 : Int32) = 0 then ((-99999), I) else ((v_62 I 1 (nI v) (x - 6)), I)))
    (E2 : v_210 J L (nI v) x = (if ¬ (J 86 (nI v).toNatClampNeg) = (-1) then ((v_211 J (nI v) (x - 6)), J, L) else ((-99999), J, L))) : tldS S tc I J L (nI v) x := by
  obtain ⟨⟨hA, -, hC, -, hP, hV, -⟩, -, -, hM, -⟩ := h
  have h12 := hV.1
  have h4 := hC.1
  have ev : (nI v).toNatClampNeg = v := cl (by omega)
  have e9 := (hV.2.2.2.1 v (by omega)).2.2
  unfold tldS
  rw [E1, E2, ev, e9]
  rcases hV.2.2.2.2.1 v hv with ⟨a, -⟩ | ⟨c, c1, c2⟩
  · rw [a, if_pos rfl, if_pos rfl, if_neg (fun w => w rfl)]
    exact ⟨rfl, RO_rf, hM⟩
  · have n := nIm1 (show c < 2 ^ 31 by omega)
    rw [c2, if_neg n, if_neg d10, if_pos n, hx, (code_eq hA hC hP hV hv c1 c2 hi).2.2.1]
    exact ⟨rfl, RO_rf, hM⟩
theorem told_12 (h : WJ S 1 nv nc tc r I J L) (hv : v < nv) (e1 : v_110 I (nI v) = 1) (e2 : v_179 J (nI v) = 1) : tldS S tc I J L (nI v) 12 := by
  obtain ⟨⟨hA, hQ, hC, -, hP, hV, -⟩, -, -, hM, -⟩ := h
  have h12 := hV.1
  have h4 := hC.1
  have ev : (nI v).toNatClampNeg = v := cl (by omega)
  have e9 := (hV.2.2.2.1 v (by omega)).2.2
  unfold tldS
  rw [t113_12 e1, t210_12 e2, ev, e9]
  rcases hV.2.2.2.2.1 v hv with ⟨a, -⟩ | ⟨c, c1, c2⟩
  · rw [a, if_pos rfl, if_pos rfl, if_neg (fun w => w rfl)]
    exact ⟨rfl, RO_rf, hM⟩
  · have n := nIm1 (show c < 2 ^ 31 by omega)
    rw [c2, if_neg n, if_neg d10, if_pos n, (lowv hA hQ hC hP hV hv c1 c2).2.2.1]
    exact ⟨rfl, RO_rf, hM⟩
theorem told_w (h : WJ S 1 nv nc tc r I J L) (h9 : I 0 9 = nI tc) (hv : v < nv) (e1 : v_110 I (nI v) = 1) (e2 : v_179 J (nI v) = 1) {x : Int32} {w : Nat} (hw : w < 13) (hx : x = nI w) : tldS S tc I J L (nI v) x := by
  have h' := h
  obtain ⟨⟨-, -, hC, -, hP, hV, -⟩, h2, h3, hM, h5, h6⟩ := h
  have h12 := hV.1
  have h4 := hC.1
  have ev : (nI v).toNatClampNeg = v := cl (by omega)
  obtain ⟨A, m, -, j2, j3, j4, j5, j6, j7⟩ := judged h' h9 hv
  match w, hw, hx with
  | 0, _, hx => rw [hx]; exact told_lo h' hv e1 e2 (by omega)
  | 1, _, hx => rw [hx]; exact told_lo h' hv e1 e2 (by omega)
  | 2, _, hx => rw [hx]; exact told_lo h' hv e1 e2 (by omega)
  | 3, _, hx =>
    have hx : x = 3 := hx
    subst hx
    unfold tldS
    rw [t113_3 e1, t210_3 e2, ev]
    exact ⟨(hV.2.2.2.1 v (by omega)).1, RO_rf, hM⟩
  | 4, _, hx =>
    have hx : x = 4 := hx
    subst hx
    unfold tldS
    rw [t113_4 e1, t210_4 e2, ev]
    refine ⟨?_, RO_rf, hM⟩
    rcases (there_eq hV h4 hv).2 with ⟨a1, a2, -⟩ | ⟨a1, a2⟩
    · rw [a1, if_neg d10]; exact a2.symm
    · rw [a1, if_pos rfl]; exact a2.symm
  | 5, _, hx =>
    have hx : x = 5 := hx
    subst hx
    unfold tldS
    rw [t113_5 e1, t210_5 e2, ev]
    exact ⟨(hV.2.2.2.1 v (by omega)).2.2, RO_rf, hM⟩
  | 6, _, hx =>
    have hx : x = 6 := hx
    subst hx
    exact told_cd h' hv (i := 0) (by omega) (by decide) (t113_6 e1) (t210_6 e2)
  | 7, _, hx =>
    have hx : x = 7 := hx
    subst hx
    exact told_cd h' hv (i := 1) (by omega) (by decide) (t113_7 e1) (t210_7 e2)
  | 8, _, hx =>
    have hx : x = 8 := hx
    subst hx
    exact told_cd h' hv (i := 2) (by omega) (by decide) (t113_8 e1) (t210_8 e2)
  | 9, _, hx =>
    have hx : x = 9 := hx
    subst hx
    unfold tldS
    obtain ⟨-, f1, f2, f3⟩ := refFit h'.1 h2 h3 hM h5 h6 hv
    have f4 := ro213 (J := J) (L := L) (v := v)
    rw [t113_9 e1, t210_9 e2, j2, if_neg (show ¬ ¬ (9 : Int32) = 9 by decide)]
    have j8 : v_20 A 1 (nI v) = if m.testBit v then 1 else 0 := by
      unfold v_20
      rw [j4, v111_eq j3 (by omega)]
    rw [j8]
    revert f1 f2 f3 f4
    generalize v_213 J L (nI v) = Q
    intro f1 f2 f3 f4
    rcases f1 with f1 | f1
    · rw [f1, if_pos rfl, if_neg (fun w => absurd (f1.symm.trans (f2.mpr (j5.mp w))) (by decide))]
      exact ⟨rfl, f4, f3⟩
    · rw [f1, if_neg d10, if_pos (j5.mpr (f2.mp f1))]
      exact ⟨rfl, f4, f3⟩
  | 10, _, hx =>
    have hx : x = 10 := hx
    subst hx
    unfold tldS
    obtain ⟨-, f1, f2⟩ := refPush h'.1 h2 h3 hM h5 h6 hv
    have f4 := ro215 (J := J) (L := L) (v := v)
    rw [t113_10 e1, t210_10 e2, j2, if_pos (show ¬ (10 : Int32) = 9 by decide), if_neg (show ¬ ¬ (10 : Int32) = 10 by decide), j6]
    revert f1 f2 f4
    generalize v_215 J L (nI v) = Q
    intro f1 f2 f4
    exact ⟨f1.symm, f4, f2⟩
  | 11, _, hx =>
    have hx : x = 11 := hx
    subst hx
    unfold tldS
    obtain ⟨-, -, f1, f2⟩ := refFar j7.1 j7.2.1 h3 hM h5 h6 hv j6
    have f4 := ro217 (J := J) (L := L) (v := v)
    rw [t113_11 e1, t210_11 e2, j2, if_pos (show ¬ (11 : Int32) = 9 by decide), if_pos (show ¬ (11 : Int32) = 10 by decide)]
    revert f1 f2 f4
    generalize v_217 J L (nI v) = Q
    intro f1 f2 f4
    exact ⟨f1, f4, f2⟩
  | 12, _, hx =>
    have hx : x = 12 := hx
    subst hx
    exact told_12 h' hv e1 e2
end
