section
/-! the constructors -/
theorem upR_pt {R : Nat → Nat → Option Nat} {c k : Nat} {x : Option Nat} : up2 R c k x c k = x := by simp [up2]
theorem fin_0_0_0 : finG 0 0 0 := Or.inr ⟨rfl, rfl, rfl⟩
theorem fin_11_1_0 : finG 11 1 0 := Or.inr ⟨rfl, rfl, rfl⟩
theorem fin_11_1_1 : finG 11 1 1 := Or.inl rfl
theorem fin_11_1_2 : finG 11 1 2 := Or.inl rfl
theorem fin_11_1_3 : finG 11 1 3 := Or.inr ⟨rfl, rfl, rfl⟩
theorem fin_24_2_0 : finG 24 2 0 := Or.inl rfl
theorem fin_24_2_1 : finG 24 2 1 := Or.inl rfl
theorem fin_24_2_2 : finG 24 2 2 := Or.inl rfl
theorem fin_24_2_3 : finG 24 2 3 := Or.inr ⟨rfl, rfl, rfl⟩
theorem fin_34_3_0 : finG 34 3 0 := Or.inr ⟨rfl, rfl, rfl⟩
theorem fin_34_3_1 : finG 34 3 1 := Or.inr ⟨rfl, rfl, rfl⟩
theorem fin_34_3_2 : finG 34 3 2 := Or.inr ⟨rfl, rfl, rfl⟩
theorem fin_34_3_3 : finG 34 3 3 := Or.inl rfl
theorem fin_34_3_4 : finG 34 3 4 := Or.inl rfl
theorem fin_34_3_5 : finG 34 3 5 := Or.inl rfl
theorem fin_34_3_6 : finG 34 3 6 := Or.inl rfl
theorem fin_43_4_0 : finG 43 4 0 := Or.inl rfl
theorem fin_43_4_1 : finG 43 4 1 := Or.inl rfl
theorem fin_43_4_2 : finG 43 4 2 := Or.inr ⟨rfl, rfl, rfl⟩
theorem fin_43_4_3 : finG 43 4 3 := Or.inr ⟨rfl, rfl, rfl⟩
theorem fin_43_4_4 : finG 43 4 4 := Or.inr ⟨rfl, rfl, rfl⟩
theorem fin_79_6_0 : finG 79 6 0 := Or.inr ⟨rfl, rfl, rfl⟩
theorem fin_79_6_1 : finG 79 6 1 := Or.inl rfl
theorem fin_79_6_2 : finG 79 6 2 := Or.inl rfl
/-- VectorShelf$Measure.<init> -/
def cI_24 (I : WI) (b n0 : Nat) : WI := (up2 (up2 (up2 (up2 (up2 (up2 I b 0 0) b 1 0) b 2 999999) n0 0 1) n0 1 1) n0 2 1)
def cR_24 (R : Nat → Nat → Option Nat) (b n0 : Nat) : Nat → Nat → Option Nat := (up2 R b 3 (some n0))
theorem zf_24 {I : WI} {F : WF} {G : WL} {R : Nat → Nat → Option Nat} {b n : Nat} (hz : Zf n (I, F, G, R)) (hb0 : b < n) : Zf (n + 1) (cI_24 I b n, F, G, cR_24 R b n) := by
  have hz := Zf_I (c := b) (k := 0) (x := 0) hz (by omega)
  have hz := Zf_I (c := b) (k := 1) (x := 0) hz (by omega)
  have hz := Zf_I (c := b) (k := 2) (x := 999999) hz (by omega)
  have hz := Zf_le hz (show n ≤ (n + 1) by omega)
  have hz := Zf_I (c := n) (k := 0) (x := 1) hz (by omega)
  have hz := Zf_I (c := n) (k := 1) (x := 1) hz (by omega)
  have hz := Zf_I (c := n) (k := 2) (x := 1) hz (by omega)
  have hz := Zf_R (c := b) (k := 3) (r := n) hz (by omega) (by omega) (by omega)
  exact hz
theorem con_24 {l : LX} {d n0 b : Nat} {S0 : List Sh} {I : WI} {F : WF} {G : WL} {R : Nat → Nat → Option Nat} (hn0 : S0.length = n0) (hle : n0 < 900) (hb : S0[b]? = some (.inr 2)) (hz : Zf n0 (I, F, G, R)) : Con l 24 (d + 1) 1 3 [.ref b] S0 (I, F, G, R) (poC (S0 ++ [.inl (.int, 3)]) (cI_24 I b n0, F, G, cR_24 R b n0)) := by
  have hb0 : b < n0 := by rw [← hn0]; exact (List.getElem?_eq_some_iff.mp hb).1
  refine con_of mk_24 (by decide) (Nat.le_of_ble_eq_true rfl) ?_
  refine Wp_S0 ?_
  show Wp _ _ _ _ _ _ 0 0 0 [(0, .ref b)] [] (S0 ++ []) (I, F, G, R)
  refine Wp_seg (is := [.aload_n 0]) (as := [0]) (pc' := 1) (lv' := [(0, .ref b)]) (st' := [.ref b]) (w' := (I, F, G, R)) (G := _) (by decide +kernel) rfl ⟨trivial, trivial⟩ ?_
  refine Wp_objInit oi_2 rfl (by decide +kernel) (by omega) (Nat.le_of_ble_eq_true rfl) ?_
  have hz := Zf_I (c := b) (k := 0) (x := 0) hz (by omega)
  have hz := Zf_I (c := b) (k := 1) (x := 0) hz (by omega)
  have hz := Zf_I (c := b) (k := 2) (x := 999999) hz (by omega)
  refine Wp_seg (is := [.aload_n 0, .iconst 0, .putfield 9, .aload_n 0, .iconst 0, .putfield 13, .aload_n 0, .ldc 16, .putfield 17, .aload_n 0, .iconst 3]) (as := [0, 0, 0, 0, 0, 0, 0, 0, 0, 0, 0]) (pc' := 22) (lv' := [(0, .ref b)]) (st' := [.int 3, .ref b]) (w' := ((up2 (up2 (up2 I b 0 0) b 1 0) b 2 999999), F, G, R)) (G := _) (by decide +kernel) rfl ⟨trivial, trivial, ⟨(sh_b hb), fin_24_2_0, (Or.inl rfl)⟩, trivial, trivial, ⟨(sh_b hb), fin_24_2_1, (Or.inl rfl)⟩, trivial, trivial, ⟨(sh_b hb), fin_24_2_2, (Or.inl rfl)⟩, trivial, trivial, trivial⟩ ?_
  refine Wp_na (i := 0) (at0 := .int) (ty := .int) (x := 3) (N := 3) (t0 := 0) hn0 rfl hz rfl ac_int rfl (by decide) rfl (by decide) (by decide) (by decide) (by decide +kernel) (by omega) (by omega) (okR_l (okV_r (by omega)) (okR_s (okV_r (by omega)) okR_n)) (by omega) ?_
  show Wp _ _ _ _ _ _ 1 3 24 [(0, .ref b)] [.ref n0, .ref b] (S0 ++ [.inl (.int, 3)]) ((up2 (up2 (up2 I b 0 0) b 1 0) b 2 999999), F, G, R)
  have hz := Zf_le hz (show n0 ≤ (n0 + 1) by omega)
  have hz := Zf_I (c := n0) (k := 0) (x := 1) hz (by omega)
  have hz := Zf_I (c := n0) (k := 1) (x := 1) hz (by omega)
  have hz := Zf_I (c := n0) (k := 2) (x := 1) hz (by omega)
  have hz := Zf_R (c := b) (k := 3) (r := n0) hz (by omega) (by omega) (by omega)
  refine Wp_seg (is := [.dup, .iconst 0, .iconst 1, .iastore, .dup, .iconst 1, .iconst 1, .iastore, .dup, .iconst 2, .iconst 1, .iastore, .putfield 20]) (as := [0, 0, 0, 0, 0, 0, 0, 0, 0, 0, 0, 0, 0]) (pc' := 39) (lv' := [(0, .ref b)]) (st' := []) (w' := ((up2 (up2 (up2 (up2 (up2 (up2 I b 0 0) b 1 0) b 2 999999) n0 0 1) n0 1 1) n0 2 1), F, G, (up2 R b 3 (some n0)))) (G := _) (by decide +kernel) rfl ⟨trivial, trivial, trivial, ⟨_, (sh_n (j := 0) hn0 rfl), vin (n := 0) (by decide) (by decide)⟩, trivial, trivial, trivial, ⟨_, (sh_n (j := 0) hn0 rfl), vin (n := 1) (by decide) (by decide)⟩, trivial, trivial, trivial, ⟨_, (sh_n (j := 0) hn0 rfl), vin (n := 2) (by decide) (by decide)⟩, ⟨(sh_b hb), fin_24_2_3⟩, trivial⟩ ?_
  exact Wp_ret (v := none) (show decode (mB 24) 39 = .ok (.return_, 1) by decide +kernel) ⟨rfl, rfl, rfl⟩
/-- VectorShelf$Text.<init> -/
def cI_79 (I : WI) (b n0 : Nat) : WI := (up2 (up2 (up2 (up2 I n0 0 1) n0 1 0) b 2 1) b 1 2)
def cR_79 (R : Nat → Nat → Option Nat) (b n0 : Nat) : Nat → Nat → Option Nat := (up2 R b 0 (some n0))
theorem zf_79 {I : WI} {F : WF} {G : WL} {R : Nat → Nat → Option Nat} {b n : Nat} (hz : Zf n (I, F, G, R)) (hb0 : b < n) : Zf (n + 1) (cI_79 I b n, F, G, cR_79 R b n) := by
  have hz := Zf_le hz (show n ≤ (n + 1) by omega)
  have hz := Zf_R (c := b) (k := 0) (r := n) hz (by omega) (by omega) (by omega)
  have hz := Zf_I (c := n) (k := 0) (x := 1) hz (by omega)
  have hz := Zf_I (c := n) (k := 1) (x := 0) hz (by omega)
  have hz := Zf_I (c := b) (k := 2) (x := 1) hz (by omega)
  have hz := Zf_I (c := b) (k := 1) (x := 2) hz (by omega)
  exact hz
theorem con_79 {l : LX} {d n0 b : Nat} {S0 : List Sh} {I : WI} {F : WF} {G : WL} {R : Nat → Nat → Option Nat} (hn0 : S0.length = n0) (hle : n0 < 900) (hb : S0[b]? = some (.inr 6)) (hz : Zf n0 (I, F, G, R)) : Con l 79 (d + 1) 1 160 [.ref b] S0 (I, F, G, R) (poC (S0 ++ [.inl (.int, 160)]) (cI_79 I b n0, F, G, cR_79 R b n0)) := by
  have hb0 : b < n0 := by rw [← hn0]; exact (List.getElem?_eq_some_iff.mp hb).1
  refine con_of mk_79 (by decide) (Nat.le_of_ble_eq_true rfl) ?_
  refine Wp_S0 ?_
  show Wp _ _ _ _ _ _ 0 0 0 [(0, .ref b)] [] (S0 ++ []) (I, F, G, R)
  refine Wp_seg (is := [.aload_n 0]) (as := [0]) (pc' := 1) (lv' := [(0, .ref b)]) (st' := [.ref b]) (w' := (I, F, G, R)) (G := _) (by decide +kernel) rfl ⟨trivial, trivial⟩ ?_
  refine Wp_objInit oi_6 rfl (by decide +kernel) (by omega) (Nat.le_of_ble_eq_true rfl) ?_
  refine Wp_seg (is := [.aload_n 0, .sipush 160]) (as := [0, 0]) (pc' := 8) (lv' := [(0, .ref b)]) (st' := [.int 160, .ref b]) (w' := (I, F, G, R)) (G := _) (by decide +kernel) rfl ⟨trivial, trivial, trivial⟩ ?_
  refine Wp_na (i := 0) (at0 := .int) (ty := .int) (x := 160) (N := 160) (t0 := 0) hn0 rfl hz rfl ac_int rfl (by decide) rfl (by decide) (by decide) (by decide) (by decide +kernel) (by omega) (by omega) (okR_l (okV_r (by omega)) (okR_s (okV_r (by omega)) okR_n)) (by omega) ?_
  show Wp _ _ _ _ _ _ 1 160 10 [(0, .ref b)] [.ref n0, .ref b] (S0 ++ [.inl (.int, 160)]) (I, F, G, R)
  have hz := Zf_le hz (show n0 ≤ (n0 + 1) by omega)
  have hz := Zf_R (c := b) (k := 0) (r := n0) hz (by omega) (by omega) (by omega)
  have hz := Zf_I (c := n0) (k := 0) (x := 1) hz (by omega)
  have hz := Zf_I (c := n0) (k := 1) (x := 0) hz (by omega)
  have hz := Zf_I (c := b) (k := 2) (x := 1) hz (by omega)
  have hz := Zf_I (c := b) (k := 1) (x := 2) hz (by omega)
  refine Wp_seg (is := [.putfield 9, .aload_n 0, .getfield 9, .iconst 0, .iconst 1, .iastore, .aload_n 0, .getfield 9, .iconst 1, .iconst 0, .iastore, .aload_n 0, .iconst 1, .putfield 15, .aload_n 0, .iconst 2, .putfield 19]) (as := [0, 0, n0, 0, 0, 0, 0, n0, 0, 0, 0, 0, 0, 0, 0, 0, 0]) (pc' := 37) (lv' := [(0, .ref b)]) (st' := []) (w' := ((up2 (up2 (up2 (up2 I n0 0 1) n0 1 0) b 2 1) b 1 2), F, G, (up2 R b 0 (some n0)))) (G := _) (by decide +kernel) rfl ⟨⟨(sh_b hb), fin_79_6_0⟩, trivial, ⟨(sh_b hb), (upR_pt)⟩, trivial, trivial, ⟨_, (sh_n (j := 0) hn0 rfl), vin (n := 0) (by decide) (by decide)⟩, trivial, ⟨(sh_b hb), (upR_pt)⟩, trivial, trivial, ⟨_, (sh_n (j := 0) hn0 rfl), vin (n := 1) (by decide) (by decide)⟩, trivial, trivial, ⟨(sh_b hb), fin_79_6_2, (Or.inl rfl)⟩, trivial, trivial, ⟨(sh_b hb), fin_79_6_1, (Or.inl rfl)⟩, trivial⟩ ?_
  exact Wp_ret (v := none) (show decode (mB 79) 37 = .ok (.return_, 1) by decide +kernel) ⟨rfl, rfl, rfl⟩
/-- VectorShelf$Sheet.<init> -/
def cI_43 (I : WI) (b n0 : Nat) : WI := (up2 (up2 I b 0 (-1)) b 1 0)
def cR_43 (R : Nat → Nat → Option Nat) (b n0 : Nat) : Nat → Nat → Option Nat := (up2 (up2 (up2 R b 2 (some n0)) b 3 (some (n0 + 1))) b 4 (some (n0 + 2)))
theorem zf_43 {I : WI} {F : WF} {G : WL} {R : Nat → Nat → Option Nat} {b n : Nat} (hz : Zf n (I, F, G, R)) (hb0 : b < n) : Zf (n + 3) (cI_43 I b n, F, G, cR_43 R b n) := by
  have hz := Zf_I (c := b) (k := 0) (x := (-1)) hz (by omega)
  have hz := Zf_I (c := b) (k := 1) (x := 0) hz (by omega)
  have hz := Zf_le hz (show n ≤ (n + 1) by omega)
  have hz := Zf_R (c := b) (k := 2) (r := n) hz (by omega) (by omega) (by omega)
  have hz := Zf_le hz (show (n + 1) ≤ (n + 2) by omega)
  have hz := Zf_R (c := b) (k := 3) (r := (n + 1)) hz (by omega) (by omega) (by omega)
  have hz := Zf_le hz (show (n + 2) ≤ (n + 3) by omega)
  have hz := Zf_R (c := b) (k := 4) (r := (n + 2)) hz (by omega) (by omega) (by omega)
  exact hz
theorem con_43 {l : LX} {d n0 b : Nat} {S0 : List Sh} {I : WI} {F : WF} {G : WL} {R : Nat → Nat → Option Nat} (hn0 : S0.length = n0) (hle : n0 < 900) (hb : S0[b]? = some (.inr 4)) (hz : Zf n0 (I, F, G, R)) : Con l 43 (d + 1) 3 120 [.ref b] S0 (I, F, G, R) (poC (S0 ++ [.inl (.float, 40), .inl (.byte, 40), .inl (.short, 40)]) (cI_43 I b n0, F, G, cR_43 R b n0)) := by
  have hb0 : b < n0 := by rw [← hn0]; exact (List.getElem?_eq_some_iff.mp hb).1
  refine con_of mk_43 (by decide) (Nat.le_of_ble_eq_true rfl) ?_
  refine Wp_S0 ?_
  show Wp _ _ _ _ _ _ 0 0 0 [(0, .ref b)] [] (S0 ++ []) (I, F, G, R)
  refine Wp_seg (is := [.aload_n 0]) (as := [0]) (pc' := 1) (lv' := [(0, .ref b)]) (st' := [.ref b]) (w' := (I, F, G, R)) (G := _) (by decide +kernel) rfl ⟨trivial, trivial⟩ ?_
  refine Wp_objInit oi_4 rfl (by decide +kernel) (by omega) (Nat.le_of_ble_eq_true rfl) ?_
  have hz := Zf_I (c := b) (k := 0) (x := (-1)) hz (by omega)
  have hz := Zf_I (c := b) (k := 1) (x := 0) hz (by omega)
  refine Wp_seg (is := [.aload_n 0, .iconst (-1), .putfield 11, .aload_n 0, .iconst 0, .putfield 15, .aload_n 0, .bipush 40]) (as := [0, 0, 0, 0, 0, 0, 0, 0]) (pc' := 17) (lv' := [(0, .ref b)]) (st' := [.int 40, .ref b]) (w' := ((up2 (up2 I b 0 (-1)) b 1 0), F, G, R)) (G := _) (by decide +kernel) rfl ⟨trivial, trivial, ⟨(sh_b hb), fin_43_4_0, (Or.inl rfl)⟩, trivial, trivial, ⟨(sh_b hb), fin_43_4_1, (Or.inl rfl)⟩, trivial, trivial, trivial⟩ ?_
  refine Wp_na (i := 0) (at0 := .float) (ty := .float) (x := 40) (N := 40) (t0 := 4) hn0 rfl hz rfl ac_float rfl (by decide) rfl (by decide) (by decide) (by decide) (by decide +kernel) (by omega) (by omega) (okR_l (okV_r (by omega)) (okR_s (okV_r (by omega)) okR_n)) (by omega) ?_
  show Wp _ _ _ _ _ _ 1 40 19 [(0, .ref b)] [.ref n0, .ref b] (S0 ++ [.inl (.float, 40)]) ((up2 (up2 I b 0 (-1)) b 1 0), F, G, R)
  have hz := Zf_le hz (show n0 ≤ (n0 + 1) by omega)
  have hz := Zf_R (c := b) (k := 2) (r := n0) hz (by omega) (by omega) (by omega)
  refine Wp_seg (is := [.putfield 18, .aload_n 0, .bipush 40]) (as := [0, 0, 0]) (pc' := 25) (lv' := [(0, .ref b)]) (st' := [.int 40, .ref b]) (w' := ((up2 (up2 I b 0 (-1)) b 1 0), F, G, (up2 R b 2 (some n0)))) (G := _) (by decide +kernel) rfl ⟨⟨(sh_b hb), fin_43_4_2⟩, trivial, trivial, trivial⟩ ?_
  refine Wp_na (i := 1) (at0 := .byte) (ty := .byte) (x := 40) (N := 40) (t0 := 2) hn0 rfl hz rfl ac_byte rfl (by decide) rfl (by decide) (by decide) (by decide) (by decide +kernel) (by omega) (by omega) (okR_l (okV_r (by omega)) (okR_s (okV_r (by omega)) okR_n)) (by omega) ?_
  show Wp _ _ _ _ _ _ 2 80 27 [(0, .ref b)] [.ref (n0 + 1), .ref b] (S0 ++ [.inl (.float, 40), .inl (.byte, 40)]) ((up2 (up2 I b 0 (-1)) b 1 0), F, G, (up2 R b 2 (some n0)))
  have hz := Zf_le hz (show (n0 + 1) ≤ (n0 + 2) by omega)
  have hz := Zf_R (c := b) (k := 3) (r := (n0 + 1)) hz (by omega) (by omega) (by omega)
  refine Wp_seg (is := [.putfield 22, .aload_n 0, .bipush 40]) (as := [0, 0, 0]) (pc' := 33) (lv' := [(0, .ref b)]) (st' := [.int 40, .ref b]) (w' := ((up2 (up2 I b 0 (-1)) b 1 0), F, G, (up2 (up2 R b 2 (some n0)) b 3 (some (n0 + 1))))) (G := _) (by decide +kernel) rfl ⟨⟨(sh_b hb), fin_43_4_3⟩, trivial, trivial, trivial⟩ ?_
  refine Wp_na (i := 2) (at0 := .short) (ty := .short) (x := 40) (N := 40) (t0 := 3) hn0 rfl hz rfl ac_short rfl (by decide) rfl (by decide) (by decide) (by decide) (by decide +kernel) (by omega) (by omega) (okR_l (okV_r (by omega)) (okR_s (okV_r (by omega)) okR_n)) (by omega) ?_
  show Wp _ _ _ _ _ _ 3 120 35 [(0, .ref b)] [.ref (n0 + 2), .ref b] (S0 ++ [.inl (.float, 40), .inl (.byte, 40), .inl (.short, 40)]) ((up2 (up2 I b 0 (-1)) b 1 0), F, G, (up2 (up2 R b 2 (some n0)) b 3 (some (n0 + 1))))
  have hz := Zf_le hz (show (n0 + 2) ≤ (n0 + 3) by omega)
  have hz := Zf_R (c := b) (k := 4) (r := (n0 + 2)) hz (by omega) (by omega) (by omega)
  refine Wp_seg (is := [.putfield 26]) (as := [0]) (pc' := 38) (lv' := [(0, .ref b)]) (st' := []) (w' := ((up2 (up2 I b 0 (-1)) b 1 0), F, G, (up2 (up2 (up2 R b 2 (some n0)) b 3 (some (n0 + 1))) b 4 (some (n0 + 2))))) (G := _) (by decide +kernel) rfl ⟨⟨(sh_b hb), fin_43_4_4⟩, trivial⟩ ?_
  exact Wp_ret (v := none) (show decode (mB 43) 38 = .ok (.return_, 1) by decide +kernel) ⟨rfl, rfl, rfl⟩
/-- VectorShelf$Company.<init> -/
def cI_0 (I : WI) (b n0 : Nat) : WI := I
def cR_0 (R : Nat → Nat → Option Nat) (b n0 : Nat) : Nat → Nat → Option Nat := (up2 R b 0 (some n0))
theorem zf_0 {I : WI} {F : WF} {G : WL} {R : Nat → Nat → Option Nat} {b n : Nat} (hz : Zf n (I, F, G, R)) (hb0 : b < n) : Zf (n + 1) (cI_0 I b n, F, G, cR_0 R b n) := by
  have hz := Zf_le hz (show n ≤ (n + 1) by omega)
  have hz := Zf_R (c := b) (k := 0) (r := n) hz (by omega) (by omega) (by omega)
  exact hz
theorem con_0 {l : LX} {d n0 b : Nat} {S0 : List Sh} {I : WI} {F : WF} {G : WL} {R : Nat → Nat → Option Nat} (hn0 : S0.length = n0) (hle : n0 < 900) (hb : S0[b]? = some (.inr 0)) (hz : Zf n0 (I, F, G, R)) : Con l 0 (d + 1) 1 12 [.ref b] S0 (I, F, G, R) (poC (S0 ++ [.inl (.int, 12)]) (cI_0 I b n0, F, G, cR_0 R b n0)) := by
  have hb0 : b < n0 := by rw [← hn0]; exact (List.getElem?_eq_some_iff.mp hb).1
  refine con_of mk_0 (by decide) (Nat.le_of_ble_eq_true rfl) ?_
  refine Wp_S0 ?_
  show Wp _ _ _ _ _ _ 0 0 0 [(0, .ref b)] [] (S0 ++ []) (I, F, G, R)
  refine Wp_seg (is := [.aload_n 0]) (as := [0]) (pc' := 1) (lv' := [(0, .ref b)]) (st' := [.ref b]) (w' := (I, F, G, R)) (G := _) (by decide +kernel) rfl ⟨trivial, trivial⟩ ?_
  refine Wp_objInit oi_0 rfl (by decide +kernel) (by omega) (Nat.le_of_ble_eq_true rfl) ?_
  refine Wp_seg (is := [.aload_n 0, .bipush 12]) (as := [0, 0]) (pc' := 7) (lv' := [(0, .ref b)]) (st' := [.int 12, .ref b]) (w' := (I, F, G, R)) (G := _) (by decide +kernel) rfl ⟨trivial, trivial, trivial⟩ ?_
  refine Wp_na (i := 0) (at0 := .int) (ty := .int) (x := 12) (N := 12) (t0 := 0) hn0 rfl hz rfl ac_int rfl (by decide) rfl (by decide) (by decide) (by decide) (by decide +kernel) (by omega) (by omega) (okR_l (okV_r (by omega)) (okR_s (okV_r (by omega)) okR_n)) (by omega) ?_
  show Wp _ _ _ _ _ _ 1 12 9 [(0, .ref b)] [.ref n0, .ref b] (S0 ++ [.inl (.int, 12)]) (I, F, G, R)
  have hz := Zf_le hz (show n0 ≤ (n0 + 1) by omega)
  have hz := Zf_R (c := b) (k := 0) (r := n0) hz (by omega) (by omega) (by omega)
  refine Wp_seg (is := [.putfield 9]) (as := [0]) (pc' := 12) (lv' := [(0, .ref b)]) (st' := []) (w' := (I, F, G, (up2 R b 0 (some n0)))) (G := _) (by decide +kernel) rfl ⟨⟨(sh_b hb), fin_0_0_0⟩, trivial⟩ ?_
  exact Wp_ret (v := none) (show decode (mB 0) 12 = .ok (.return_, 1) by decide +kernel) ⟨rfl, rfl, rfl⟩
/-- VectorShelf$Judge.<init> -/
def cI_11 (I : WI) (b n0 : Nat) : WI := (up2 (up2 I b 1 0) b 2 0)
def cR_11 (R : Nat → Nat → Option Nat) (b n0 : Nat) : Nat → Nat → Option Nat := (up2 (up2 R b 0 (some n0)) b 3 (some (n0 + 1)))
theorem zf_11 {I : WI} {F : WF} {G : WL} {R : Nat → Nat → Option Nat} {b n : Nat} (hz : Zf n (I, F, G, R)) (hb0 : b < n) : Zf (n + 2) (cI_11 I b n, F, G, cR_11 R b n) := by
  have hz := Zf_le hz (show n ≤ (n + 1) by omega)
  have hz := Zf_R (c := b) (k := 0) (r := n) hz (by omega) (by omega) (by omega)
  have hz := Zf_I (c := b) (k := 1) (x := 0) hz (by omega)
  have hz := Zf_I (c := b) (k := 2) (x := 0) hz (by omega)
  have hz := Zf_le hz (show (n + 1) ≤ (n + 2) by omega)
  have hz := Zf_R (c := b) (k := 3) (r := (n + 1)) hz (by omega) (by omega) (by omega)
  exact hz
theorem con_11 {l : LX} {d n0 b : Nat} {S0 : List Sh} {I : WI} {F : WF} {G : WL} {R : Nat → Nat → Option Nat} (hn0 : S0.length = n0) (hle : n0 < 900) (hb : S0[b]? = some (.inr 1)) (hz : Zf n0 (I, F, G, R)) : Con l 11 (d + 1) 2 172 [.ref b] S0 (I, F, G, R) (poC (S0 ++ [.inl (.int, 160), .inl (.int, 12)]) (cI_11 I b n0, F, G, cR_11 R b n0)) := by
  have hb0 : b < n0 := by rw [← hn0]; exact (List.getElem?_eq_some_iff.mp hb).1
  refine con_of mk_11 (by decide) (Nat.le_of_ble_eq_true rfl) ?_
  refine Wp_S0 ?_
  show Wp _ _ _ _ _ _ 0 0 0 [(0, .ref b)] [] (S0 ++ []) (I, F, G, R)
  refine Wp_seg (is := [.aload_n 0]) (as := [0]) (pc' := 1) (lv' := [(0, .ref b)]) (st' := [.ref b]) (w' := (I, F, G, R)) (G := _) (by decide +kernel) rfl ⟨trivial, trivial⟩ ?_
  refine Wp_objInit oi_1 rfl (by decide +kernel) (by omega) (Nat.le_of_ble_eq_true rfl) ?_
  refine Wp_seg (is := [.aload_n 0, .sipush 160]) (as := [0, 0]) (pc' := 8) (lv' := [(0, .ref b)]) (st' := [.int 160, .ref b]) (w' := (I, F, G, R)) (G := _) (by decide +kernel) rfl ⟨trivial, trivial, trivial⟩ ?_
  refine Wp_na (i := 0) (at0 := .int) (ty := .int) (x := 160) (N := 160) (t0 := 0) hn0 rfl hz rfl ac_int rfl (by decide) rfl (by decide) (by decide) (by decide) (by decide +kernel) (by omega) (by omega) (okR_l (okV_r (by omega)) (okR_s (okV_r (by omega)) okR_n)) (by omega) ?_
  show Wp _ _ _ _ _ _ 1 160 10 [(0, .ref b)] [.ref n0, .ref b] (S0 ++ [.inl (.int, 160)]) (I, F, G, R)
  have hz := Zf_le hz (show n0 ≤ (n0 + 1) by omega)
  have hz := Zf_R (c := b) (k := 0) (r := n0) hz (by omega) (by omega) (by omega)
  have hz := Zf_I (c := b) (k := 1) (x := 0) hz (by omega)
  have hz := Zf_I (c := b) (k := 2) (x := 0) hz (by omega)
  refine Wp_seg (is := [.putfield 9, .aload_n 0, .iconst 0, .putfield 15, .aload_n 0, .iconst 0, .putfield 19, .aload_n 0, .bipush 12]) (as := [0, 0, 0, 0, 0, 0, 0, 0, 0]) (pc' := 26) (lv' := [(0, .ref b)]) (st' := [.int 12, .ref b]) (w' := ((up2 (up2 I b 1 0) b 2 0), F, G, (up2 R b 0 (some n0)))) (G := _) (by decide +kernel) rfl ⟨⟨(sh_b hb), fin_11_1_0⟩, trivial, trivial, ⟨(sh_b hb), fin_11_1_1, (Or.inl rfl)⟩, trivial, trivial, ⟨(sh_b hb), fin_11_1_2, (Or.inl rfl)⟩, trivial, trivial, trivial⟩ ?_
  refine Wp_na (i := 1) (at0 := .int) (ty := .int) (x := 12) (N := 12) (t0 := 0) hn0 rfl hz rfl ac_int rfl (by decide) rfl (by decide) (by decide) (by decide) (by decide +kernel) (by omega) (by omega) (okR_l (okV_r (by omega)) (okR_s (okV_r (by omega)) okR_n)) (by omega) ?_
  show Wp _ _ _ _ _ _ 2 172 28 [(0, .ref b)] [.ref (n0 + 1), .ref b] (S0 ++ [.inl (.int, 160), .inl (.int, 12)]) ((up2 (up2 I b 1 0) b 2 0), F, G, (up2 R b 0 (some n0)))
  have hz := Zf_le hz (show (n0 + 1) ≤ (n0 + 2) by omega)
  have hz := Zf_R (c := b) (k := 3) (r := (n0 + 1)) hz (by omega) (by omega) (by omega)
  refine Wp_seg (is := [.putfield 22]) (as := [0]) (pc' := 31) (lv' := [(0, .ref b)]) (st' := []) (w' := ((up2 (up2 I b 1 0) b 2 0), F, G, (up2 (up2 R b 0 (some n0)) b 3 (some (n0 + 1))))) (G := _) (by decide +kernel) rfl ⟨⟨(sh_b hb), fin_11_1_3⟩, trivial⟩ ?_
  exact Wp_ret (v := none) (show decode (mB 11) 31 = .ok (.return_, 1) by decide +kernel) ⟨rfl, rfl, rfl⟩
/-- VectorShelf$Reading.<init> -/
def cI_34 (I : WI) (b n0 : Nat) : WI := (up2 (up2 (up2 (up2 I b 3 0) b 4 0) b 5 0) b 6 0)
def cR_34 (R : Nat → Nat → Option Nat) (b n0 : Nat) : Nat → Nat → Option Nat := (up2 (up2 (up2 R b 0 (some n0)) b 1 (some (n0 + 1))) b 2 (some (n0 + 2)))
theorem zf_34 {I : WI} {F : WF} {G : WL} {R : Nat → Nat → Option Nat} {b n : Nat} (hz : Zf n (I, F, G, R)) (hb0 : b < n) : Zf (n + 3) (cI_34 I b n, F, G, cR_34 R b n) := by
  have hz := Zf_le hz (show n ≤ (n + 1) by omega)
  have hz := Zf_R (c := b) (k := 0) (r := n) hz (by omega) (by omega) (by omega)
  have hz := Zf_le hz (show (n + 1) ≤ (n + 2) by omega)
  have hz := Zf_R (c := b) (k := 1) (r := (n + 1)) hz (by omega) (by omega) (by omega)
  have hz := Zf_le hz (show (n + 2) ≤ (n + 3) by omega)
  have hz := Zf_R (c := b) (k := 2) (r := (n + 2)) hz (by omega) (by omega) (by omega)
  have hz := Zf_I (c := b) (k := 3) (x := 0) hz (by omega)
  have hz := Zf_I (c := b) (k := 4) (x := 0) hz (by omega)
  have hz := Zf_I (c := b) (k := 5) (x := 0) hz (by omega)
  have hz := Zf_I (c := b) (k := 6) (x := 0) hz (by omega)
  exact hz
theorem con_34 {l : LX} {d n0 b : Nat} {S0 : List Sh} {I : WI} {F : WF} {G : WL} {R : Nat → Nat → Option Nat} (hn0 : S0.length = n0) (hle : n0 < 900) (hb : S0[b]? = some (.inr 3)) (hz : Zf n0 (I, F, G, R)) : Con l 34 (d + 1) 3 16 [.ref b] S0 (I, F, G, R) (poC (S0 ++ [.inl (.float, 4), .inl (.int, 6), .inl (.int, 6)]) (cI_34 I b n0, F, G, cR_34 R b n0)) := by
  have hb0 : b < n0 := by rw [← hn0]; exact (List.getElem?_eq_some_iff.mp hb).1
  refine con_of mk_34 (by decide) (Nat.le_of_ble_eq_true rfl) ?_
  refine Wp_S0 ?_
  show Wp _ _ _ _ _ _ 0 0 0 [(0, .ref b)] [] (S0 ++ []) (I, F, G, R)
  refine Wp_seg (is := [.aload_n 0]) (as := [0]) (pc' := 1) (lv' := [(0, .ref b)]) (st' := [.ref b]) (w' := (I, F, G, R)) (G := _) (by decide +kernel) rfl ⟨trivial, trivial⟩ ?_
  refine Wp_objInit oi_3 rfl (by decide +kernel) (by omega) (Nat.le_of_ble_eq_true rfl) ?_
  refine Wp_seg (is := [.aload_n 0, .iconst 4]) (as := [0, 0]) (pc' := 6) (lv' := [(0, .ref b)]) (st' := [.int 4, .ref b]) (w' := (I, F, G, R)) (G := _) (by decide +kernel) rfl ⟨trivial, trivial, trivial⟩ ?_
  refine Wp_na (i := 0) (at0 := .float) (ty := .float) (x := 4) (N := 4) (t0 := 4) hn0 rfl hz rfl ac_float rfl (by decide) rfl (by decide) (by decide) (by decide) (by decide +kernel) (by omega) (by omega) (okR_l (okV_r (by omega)) (okR_s (okV_r (by omega)) okR_n)) (by omega) ?_
  show Wp _ _ _ _ _ _ 1 4 8 [(0, .ref b)] [.ref n0, .ref b] (S0 ++ [.inl (.float, 4)]) (I, F, G, R)
  have hz := Zf_le hz (show n0 ≤ (n0 + 1) by omega)
  have hz := Zf_R (c := b) (k := 0) (r := n0) hz (by omega) (by omega) (by omega)
  refine Wp_seg (is := [.putfield 9, .aload_n 0, .bipush 6]) (as := [0, 0, 0]) (pc' := 14) (lv' := [(0, .ref b)]) (st' := [.int 6, .ref b]) (w' := (I, F, G, (up2 R b 0 (some n0)))) (G := _) (by decide +kernel) rfl ⟨⟨(sh_b hb), fin_34_3_0⟩, trivial, trivial, trivial⟩ ?_
  refine Wp_na (i := 1) (at0 := .int) (ty := .int) (x := 6) (N := 6) (t0 := 0) hn0 rfl hz rfl ac_int rfl (by decide) rfl (by decide) (by decide) (by decide) (by decide +kernel) (by omega) (by omega) (okR_l (okV_r (by omega)) (okR_s (okV_r (by omega)) okR_n)) (by omega) ?_
  show Wp _ _ _ _ _ _ 2 10 16 [(0, .ref b)] [.ref (n0 + 1), .ref b] (S0 ++ [.inl (.float, 4), .inl (.int, 6)]) (I, F, G, (up2 R b 0 (some n0)))
  have hz := Zf_le hz (show (n0 + 1) ≤ (n0 + 2) by omega)
  have hz := Zf_R (c := b) (k := 1) (r := (n0 + 1)) hz (by omega) (by omega) (by omega)
  refine Wp_seg (is := [.putfield 15, .aload_n 0, .bipush 6]) (as := [0, 0, 0]) (pc' := 22) (lv' := [(0, .ref b)]) (st' := [.int 6, .ref b]) (w' := (I, F, G, (up2 (up2 R b 0 (some n0)) b 1 (some (n0 + 1))))) (G := _) (by decide +kernel) rfl ⟨⟨(sh_b hb), fin_34_3_1⟩, trivial, trivial, trivial⟩ ?_
  refine Wp_na (i := 2) (at0 := .int) (ty := .int) (x := 6) (N := 6) (t0 := 0) hn0 rfl hz rfl ac_int rfl (by decide) rfl (by decide) (by decide) (by decide) (by decide +kernel) (by omega) (by omega) (okR_l (okV_r (by omega)) (okR_s (okV_r (by omega)) okR_n)) (by omega) ?_
  show Wp _ _ _ _ _ _ 3 16 24 [(0, .ref b)] [.ref (n0 + 2), .ref b] (S0 ++ [.inl (.float, 4), .inl (.int, 6), .inl (.int, 6)]) (I, F, G, (up2 (up2 R b 0 (some n0)) b 1 (some (n0 + 1))))
  have hz := Zf_le hz (show (n0 + 2) ≤ (n0 + 3) by omega)
  have hz := Zf_R (c := b) (k := 2) (r := (n0 + 2)) hz (by omega) (by omega) (by omega)
  have hz := Zf_I (c := b) (k := 3) (x := 0) hz (by omega)
  have hz := Zf_I (c := b) (k := 4) (x := 0) hz (by omega)
  have hz := Zf_I (c := b) (k := 5) (x := 0) hz (by omega)
  have hz := Zf_I (c := b) (k := 6) (x := 0) hz (by omega)
  refine Wp_seg (is := [.putfield 19, .aload_n 0, .iconst 0, .putfield 22, .aload_n 0, .iconst 0, .putfield 26, .aload_n 0, .iconst 0, .putfield 29, .aload_n 0, .iconst 0, .putfield 32]) (as := [0, 0, 0, 0, 0, 0, 0, 0, 0, 0, 0, 0, 0]) (pc' := 47) (lv' := [(0, .ref b)]) (st' := []) (w' := ((up2 (up2 (up2 (up2 I b 3 0) b 4 0) b 5 0) b 6 0), F, G, (up2 (up2 (up2 R b 0 (some n0)) b 1 (some (n0 + 1))) b 2 (some (n0 + 2))))) (G := _) (by decide +kernel) rfl ⟨⟨(sh_b hb), fin_34_3_2⟩, trivial, trivial, ⟨(sh_b hb), fin_34_3_3, (Or.inl rfl)⟩, trivial, trivial, ⟨(sh_b hb), fin_34_3_4, (Or.inl rfl)⟩, trivial, trivial, ⟨(sh_b hb), fin_34_3_5, (Or.inl rfl)⟩, trivial, trivial, ⟨(sh_b hb), fin_34_3_6, (Or.inl rfl)⟩, trivial⟩ ?_
  exact Wp_ret (v := none) (show decode (mB 34) 47 = .ok (.return_, 1) by decide +kernel) ⟨rfl, rfl, rfl⟩
end
