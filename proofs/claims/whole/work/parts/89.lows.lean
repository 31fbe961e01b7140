section
variable {b nv nc : Nat} {I J : WI}
/-! low bounds of vectors and of cells: the same of both, and sound -/
theorem cmpL0 {a c : UInt32} (ha : vf_n32 a) (hc : vf_n32 c) : Op.cmpValue (FP.fcmp a c) .l ≤ (0 : Int32) ↔ FP.Core.fkey a ≤ FP.Core.fkey c := by
  have e : FP.fcmp a c = some (compare (FP.Core.fkey a) (FP.Core.fkey c)) := FP.Core.fcmp_key ((vf_val a).mp ha) ((vf_val c).mp hc)
  rw [e]
  exact (cmpv _ _).1
theorem cmpG0 {a c : UInt32} (ha : vf_n32 a) (hc : vf_n32 c) : (0 : Int32) ≤ Op.cmpValue (FP.fcmp a c) .g ↔ FP.Core.fkey c ≤ FP.Core.fkey a := by
  have e : FP.fcmp a c = some (compare (FP.Core.fkey a) (FP.Core.fkey c)) := FP.Core.fcmp_key ((vf_val a).mp ha) ((vf_val c).mp hc)
  rw [e]
  generalize FP.Core.fkey a = x
  generalize FP.Core.fkey c = y
  rcases Int.lt_trichotomy x y with h | h | h
  · rw [(FP.Core.compare_lt_iff x y).mpr h]
    exact ⟨fun q => absurd q (by decide), fun q => by omega⟩
  · rw [(FP.Core.compare_eq_iff x y).mpr h]
    exact ⟨fun _ => by omega, fun _ => by decide⟩
  · rw [(FP.Core.compare_gt_iff x y).mpr h]
    exact ⟨fun _ => by omega, fun _ => by decide⟩
theorem n190 (n : Int32) : vf_n32 (v_190 n) := (g31 n).2
theorem snd_key {a : UInt32} {n : Int32} (ha : vf_n32 a) (h : ¬ FP.fcmp a (v_190 n) = some .gt) : FP.Core.fkey a ≤ FP.Core.fkey (v_190 n) :=
  (cmpL0 ha (n190 n)).mp (cmp_le0.mpr h)
/-- how far a vector's place is from the query -/
def dQ (J : WI) (v : Nat) : Int32 := v_185 J (v_184 (J 84 (3 * v)) (J 79 0)) (v_184 (J 84 (3 * v + 1)) (J 79 1)) (v_184 (J 84 (3 * v + 2)) (J 79 2))
theorem dQ_bt (hA : kA b I J) (hQ : kQ b I J) (hP : kP b I J) {v : Nat} (hv : v < 12) : bt 0 107784108 (dQ J v) :=
  meas_bt hA (far_bt (hP _ (by omega)).2 (hQ 0 (by omega)).2) (far_bt (hP _ (by omega)).2 (hQ 1 (by omega)).2) (far_bt (hP _ (by omega)).2 (hQ 2 (by omega)).2)
theorem lowv (hA : kA b I J) (hQ : kQ b I J) (hC : kC b nc I J) (hP : kP b I J) (hV : kV b nv nc I J) {v c : Nat} (hv : v < nv) (hc : c < nc) (he : J 86 v = nI c) : g_63 I b (nI v) ∧ g_218 J (nI v) ∧ v_63 I b (nI v) = v_218 J (nI v) ∧ vf_n32 (v_218 J (nI v)) ∧
    ∀ n : Int32, (dQ J v).toInt ≤ n.toInt → n.toInt ≤ 107784300 → FP.Core.fkey (v_218 J (nI v)) ≤ FP.Core.fkey (v_190 n) := by
  have h12 := hV.1
  obtain ⟨a0, b0, e0⟩ := span_eq hA hQ hC hP hV hv hc he (i := 0) (by omega)
  obtain ⟨a1, b1, e1⟩ := span_eq hA hQ hC hP hV hv hc he (i := 1) (by omega)
  obtain ⟨a2, b2, e2⟩ := span_eq hA hQ hC hP hV hv hc he (i := 2) (by omega)
  obtain ⟨c0, d0⟩ := span_bt hA hQ hC hP hV hv hc he (i := 0) (by omega)
  obtain ⟨c1, d1⟩ := span_bt hA hQ hC hP hV hv hc he (i := 1) (by omega)
  obtain ⟨c2, d2⟩ := span_bt hA hQ hC hP hV hv hc he (i := 2) (by omega)
  obtain ⟨l1, l2, l3, -⟩ := low_all hA c0 c1 c2
  have ln : vf_n32 (v_218 J (nI v)) := by
    have q : vf_n32 (v_25 I (b + 1) (v_219 J (nI v) (nI 0)) (v_219 J (nI v) (nI 1)) (v_219 J (nI v) (nI 2))) := l2.2.2.2.2.2.2
    rw [l1] at q
    exact q
  refine ⟨?_, ⟨b0, b1, b2, l3⟩, ?_, ln, fun n hn hn2 => ?_⟩
  · refine ⟨a0, a1, a2, ?_⟩
    show g_25 I (b + 1) (v_64 I b (nI v) (nI 0)) (v_64 I b (nI v) (nI 1)) (v_64 I b (nI v) (nI 2))
    rw [e0, e1, e2]
    exact l2
  · show v_25 I (b + 1) (v_64 I b (nI v) (nI 0)) (v_64 I b (nI v) (nI 1)) (v_64 I b (nI v) (nI 2)) = _
    rw [e0, e1, e2]
    exact l1
  · exact snd_key ln (low_snd hA c0 c1 c2 (far_bt (hP _ (by omega)).2 (hQ 0 (by omega)).2) (far_bt (hP _ (by omega)).2 (hQ 1 (by omega)).2) (far_bt (hP _ (by omega)).2 (hQ 2 (by omega)).2) d0 d1 d2 hn hn2)
theorem box_i (hQ : kQ b I J) (hC : kC b nc I J) (hB : kB b nc I J) (hP : kP b I J) (hV : kV b nv nc I J) (hN : kN nv nc J) {c i : Nat} (hc : c < nc) (h1 : J 83 c = 1) (hi : i < 3) :
    v_65 (I (b + 3) i) (I (b + 5) (3 * c + i)) (I (b + 6) (3 * c + i)) = v_226 J (nI c) (nI i) ∧ g_226 (nI c) (nI i) ∧ bt 0 1998 (v_226 J (nI c) (nI i)) ∧ ∀ v, v < nv → J 86 v = nI c → (v_226 J (nI c) (nI i)).toInt ≤ (v_184 (J 84 (3 * v + i)) (J 79 i)).toInt := by
  have h12 := hV.1
  have h4 := hC.1
  have k2 : 3 * nI c + nI i = nI (3 * c + i) := by rw [n30, nI_add]
  have q1 := hQ i hi
  have e : v_226 J (nI c) (nI i) = v_220 (J 79 i) (J 81 (3 * c + i)) (J 82 (3 * c + i)) := by
    unfold v_226
    rw [k2, cl (by omega), cl (by omega)]
  rw [e]
  rcases hB c hc with ⟨h0, -⟩ | ⟨-, hb⟩
  · rw [h1] at h0
    exact absurd h0 (by decide)
  obtain ⟨b1, b2, b3, b4, b5⟩ := hb i hi
  refine ⟨?_, ⟨vin hi (by omega), by rw [k2]; exact vin (by omega) (by omega)⟩, ?_, fun v hv hvc => ?_⟩
  · rw [b1, b2, q1.1]; rfl
  · exact v220_bt q1.2 (by omega) (Int.le_refl _) b4 (by omega) (by omega) (by omega)
  · have hn := (hN v hv c hc hvc).2 i hi
    exact (v220_le q1.2 (by omega) hn.1 hn.2 (by omega) (hP _ (by omega)).2).2
theorem lowc (hA : kA b I J) (hQ : kQ b I J) (hC : kC b nc I J) (hB : kB b nc I J) (hP : kP b I J) (hV : kV b nv nc I J) (hN : kN nv nc J) {c : Nat} (hc : c < nc) (h1 : J 83 c = 1) : g_68 I b (nI c) ∧ g_225 J (nI c) ∧ v_68 I b (nI c) = v_225 J (nI c) ∧ vf_n32 (v_225 J (nI c)) ∧
    ∀ v, v < nv → J 86 v = nI c → ∀ n : Int32, (dQ J v).toInt ≤ n.toInt → n.toInt ≤ 107784300 → FP.Core.fkey (v_225 J (nI c)) ≤ FP.Core.fkey (v_190 n) := by
  have h12 := hV.1
  have h4 := hC.1
  obtain ⟨e0, g0, c0, d0⟩ := box_i hQ hC hB hP hV hN hc h1 (i := 0) (by omega)
  obtain ⟨e1, g1, c1, d1⟩ := box_i hQ hC hB hP hV hN hc h1 (i := 1) (by omega)
  obtain ⟨e2, g2, c2, d2⟩ := box_i hQ hC hB hP hV hN hc h1 (i := 2) (by omega)
  obtain ⟨l1, l2, l3, -⟩ := low_all hA c0 c1 c2
  rw [Nat.add_zero] at e0
  have E0 : v_65 (I (b + 3) 0) (I (b + 5) (3 * nI c).toNatClampNeg) (I (b + 6) (3 * nI c).toNatClampNeg) = v_226 J (nI c) (nI 0) := by rw [n30, cl (by omega)]; exact e0
  have E1 : v_65 (I (b + 3) 1) (I (b + 5) (3 * nI c + 1).toNatClampNeg) (I (b + 6) (3 * nI c + 1).toNatClampNeg) = v_226 J (nI c) (nI 1) := by rw [n31, cl (by omega)]; exact e1
  have E2 : v_65 (I (b + 3) 2) (I (b + 5) (3 * nI c + 2).toNatClampNeg) (I (b + 6) (3 * nI c + 2).toNatClampNeg) = v_226 J (nI c) (nI 2) := by rw [n32, cl (by omega)]; exact e2
  have ln : vf_n32 (v_225 J (nI c)) := by
    have q : vf_n32 (v_25 I (b + 1) (v_226 J (nI c) (nI 0)) (v_226 J (nI c) (nI 1)) (v_226 J (nI c) (nI 2))) := l2.2.2.2.2.2.2
    rw [l1] at q
    exact q
  refine ⟨?_, ⟨g0, g1, g2, l3⟩, ?_, ln, fun v hv hvc n hn hn2 => ?_⟩
  · unfold g_68
    rw [E0, E1, E2]
    exact ⟨by rw [n30]; exact vin (by omega) (by omega), by rw [n31]; exact vin (by omega) (by omega), by rw [n32]; exact vin (by omega) (by omega), l2⟩
  · unfold v_68
    rw [E0, E1, E2, bxd]
    exact l1
  · exact snd_key ln (low_snd hA c0 c1 c2 (far_bt (hP _ (by omega)).2 (hQ 0 (by omega)).2) (far_bt (hP _ (by omega)).2 (hQ 1 (by omega)).2) (far_bt (hP _ (by omega)).2 (hQ 2 (by omega)).2) (d0 v hv hvc) (d1 v hv hvc) (d2 v hv hvc) hn hn2)
end
