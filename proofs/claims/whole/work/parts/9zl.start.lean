section
/-! where the law's loop begins: a new shelf, a new reference -/
def tx0 : List Int32 := [102, 105, 116, 115, 32, 49, 32, 59, 32, 97, 100, 100, 115, 32, 48, 32, 59, 32, 32, 32, 32, 32, 32, 32]
def I24 : WI := fun c k => if c = 31 ∧ k = 1 then 24 else if c = 32 then tx0.getD k 0 else 0
set_option maxRecDepth 100000 in
theorem t0_read : (v_84 I24 33 45).1 = -1 ∧ (v_84 I24 33 45).2.1 45 1 = 2 ∧ (v_84 I24 33 45).2.1 45 2 = 1 ∧ (v_84 I24 33 45).2.1 46 0 = 1 ∧ (v_84 I24 33 45).2.1 46 1 = 0 := by
  simp only [v_84, pcc_eq]
  decide +kernel
def bI : WI := cI_167 (cI_104 (fun _ _ => 0))
def bF : WF := fun _ _ => 0
def bL : WL := fun _ _ => 0
def bS : Nat → List Int32 × List Int32 := fun _ => ([1], [0])
theorem b_txt : TxtP (bS 0) bI bI 0 := by
  obtain ⟨e1, e2, e3, e4, e5⟩ := t0_read
  refine ⟨⟨24, fun k => tx0.getD k 0, I24, 33, ⟨by omega, rfl, fun i hi => ⟨rfl, ?_⟩⟩, by decide +kernel, ?_, e1, e2, e3, fun k hk => ?_⟩, by decide, by decide +kernel, by decide +kernel, fun k hk => ?_⟩
  · have h : ∀ i, i < 24 → (0 : Int) ≤ (tx0.getD i 0).toInt ∧ (tx0.getD i 0).toInt ≤ 255 := by decide +kernel
    exact h i hi
  · have h : ∀ i, i < 24 → bI 75 i = tx0.getD i 0 := by decide +kernel
    intro i hi
    rw [show 160 * 0 + i = i by omega]
    exact h i hi
  · match k, hk with
    | 0, _ => exact e4
    | 1, _ => exact e5
  · match k, hk with
    | 0, _ => decide +kernel
    | 1, _ => decide +kernel
theorem b_kR : kR 1 0 0 1 bI bI := by
  refine ⟨⟨?_, ?_⟩, ?_, ⟨by omega, ?_, ?_, ?_⟩, fun c hc => absurd hc (Nat.not_lt_zero _), ?_, ⟨by omega, ?_, ?_, ?_, fun v hv => absurd hv (Nat.not_lt_zero _), fun v hv => absurd hv (Nat.not_lt_zero _), 0, by decide, ?_, fun v hv => absurd hv (Nat.not_lt_zero _)⟩, fun v hv => absurd hv (Nat.not_lt_zero _), ?_, 0, by omega, ?_⟩
  · decide +kernel
  · unfold bt; decide +kernel
  · unfold kQ bt; decide +kernel
  · decide +kernel
  · decide +kernel
  · unfold bt; decide +kernel
  · unfold kP bt; decide +kernel
  · decide +kernel
  · decide +kernel
  · unfold bt; decide +kernel
  · decide +kernel
  · decide +kernel
  · decide +kernel
theorem b_T2 : T2 bI bI bF bF bL 33 := by
  refine ⟨bS, 0, 0, 1, 0, ⟨b_kR, fun r hr => ?_, by omega, fun h _ => Or.inl rfl, by omega, by decide +kernel⟩, by decide +kernel, by decide +kernel, ⟨0, by omega, by decide +kernel, by decide +kernel, fun i hi => absurd hi (Nat.not_lt_zero _)⟩, fun s hs => Or.inl ?_, Or.inl (by decide +kernel), Or.inl rfl⟩
  · have : r = 0 := by omega
    subst this
    exact b_txt
  · revert s
    decide +kernel
theorem okV_h {n q : Nat} (h : 1000 ≤ q) : okV n (.ref q) := Or.inr h
theorem law_go {l : LX} {d mc ms cc ss : Nat} {P : RP} (hc : cc + 117 ≤ mc) (hs : ss + 5461 ≤ ms) (hN : l.2.1 < 2 ^ 31) (hp : ∀ I F L t, P (some (.int 1)) SH (I, F, L, RT t)) : Wp l 287 (d + 200) mc ms P cc ss 0 [(0, .ref 1000050)] [] [] zW := by
  refine Wp_S0 ?_
  have hz : Zf 0 zW := Zf_0
  refine Wp_nw (ix := 7) (i := 0) (ci := 8) (N := 11) (n0 := 0) rfl rfl hz rfl rfl (by decide +kernel) (by omega) (by omega) (okR_l (okV_h (by omega)) okR_n) (by omega) ?_
  show Wp _ _ _ _ _ _ (cc + 1) (ss + 11) 3 [(0, .ref 1000050)] [.ref 0] ([] ++ [.inr 8]) zW
  have hz := Zf_le hz (show 0 ≤ 1 by omega)
  refine Wp_seg (is := [.dup]) (as := [0]) (pc' := 4) (lv' := [(0, .ref 1000050)]) (st' := [.ref 0, .ref 0]) (w' := zW) (G := _) (by decide +kernel) rfl ⟨trivial, trivial⟩ ?_
  refine Wp_ci (ix := 9) (i := 1) (n0 := 0) rfl rfl (nest := 0) (L2 := cL_104) rfl mk_104 mc_104 rfl (by decide +kernel) rfl mp_104 (Nat.le_of_ble_eq_true rfl) (by omega) (by omega) (con_104 (d := d + 196) hz) (okR_l (okV_h (by omega)) (okR_s (okV_r (by omega)) okR_n)) ?_
  refine Wp_seg (is := [.astore_n 1]) (as := [0]) (pc' := 8) (lv' := [(1, .ref 0), (0, .ref 1000050)]) (st' := []) (w' := (cI_104 (fun _ _ => 0), zW.2.1, zW.2.2.1, cR_104 nR)) (G := _) (by decide +kernel) rfl ⟨trivial, trivial⟩ ?_
  have hz := zf_104 hz
  refine Wp_nw (ix := 10) (i := 74) (ci := 9) (N := 69) (n0 := 0) rfl rfl hz rfl rfl (by decide +kernel) (by omega) (by omega) (okR_l (okV_r (by omega)) (okR_l (okV_h (by omega)) okR_n)) (by omega) ?_
  have hz := zf_75
  show Wp _ _ _ _ _ _ (cc + 1 + 73 + 1) (ss + 11 + 2388 + 69) 11 [(1, .ref 0), (0, .ref 1000050)] [.ref 74] ([] ++ ([.inr 8] ++ cL_104 ++ [.inr 9])) (cI_104 (fun _ _ => 0), zW.2.1, zW.2.2.1, cR_104 nR)
  refine Wp_seg (is := [.dup]) (as := [0]) (pc' := 12) (lv' := [(1, .ref 0), (0, .ref 1000050)]) (st' := [.ref 74, .ref 74]) (w' := (cI_104 (fun _ _ => 0), zW.2.1, zW.2.2.1, cR_104 nR)) (G := _) (by decide +kernel) rfl ⟨trivial, trivial⟩ ?_
  have c := con_167 (l := l) (d := d + 198) hz
  rw [← sh_167] at c
  refine Wp_ci (ix := 12) (i := 75) (n0 := 0) rfl rfl (nest := 0) (L2 := cL_167) rfl mk_167 mc_167 rfl (by decide +kernel) rfl mp_167 (Nat.le_of_ble_eq_true rfl) (by omega) (by omega) c (okR_l (okV_r (by omega)) (okR_l (okV_h (by omega)) (okR_s (okV_r (by omega)) okR_n))) ?_
  refine Wp_cast (sh' := SH) (w' := (bI, bF, bL, RT 33)) sh_167 rfl ?_
  refine Wp_seg (is := [.astore_n 2]) (as := [0]) (pc' := 16) (lv' := [(2, .ref 74), (1, .ref 0), (0, .ref 1000050)]) (st' := []) (w' := (bI, bF, bL, RT 33)) (G := _) (by decide +kernel) rfl ⟨trivial, trivial⟩ ?_
  refine Wp_sub (lv' := [(0, .ref 1000050), (1, .ref 0), (2, .ref 74)]) [2, 1, 0] rfl ?_
  have hcm : cc + 1 + 73 + 1 + 42 + 0 ≤ mc ∧ ss + 11 + 2388 + 69 + 2993 + 0 ≤ ms := ⟨by omega, by omega⟩
  exact bk_287_16 (law_lp (d := d) (mc := mc) (ms := ms) hcm hN hp l.2.1 0 bI bF bL 33 (Nat.zero_le _) (by omega) b_T2)
end
