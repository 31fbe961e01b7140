section
theorem fin_52_5_0 : finG 52 5 0 := Or.inr ⟨rfl, rfl, rfl⟩
theorem fin_52_5_1 : finG 52 5 1 := Or.inl rfl
theorem fin_52_5_2 : finG 52 5 2 := Or.inl rfl
theorem fin_52_5_3 : finG 52 5 3 := Or.inr ⟨rfl, rfl, rfl⟩
theorem fin_52_5_4 : finG 52 5 4 := Or.inl rfl
theorem fin_52_5_5 : finG 52 5 5 := Or.inr ⟨rfl, rfl, rfl⟩
theorem fin_52_5_6 : finG 52 5 6 := Or.inr ⟨rfl, rfl, rfl⟩
theorem fin_52_5_7 : finG 52 5 7 := Or.inr ⟨rfl, rfl, rfl⟩
theorem fin_52_5_8 : finG 52 5 8 := Or.inl rfl
theorem fin_52_5_9 : finG 52 5 9 := Or.inr ⟨rfl, rfl, rfl⟩
theorem fin_52_5_10 : finG 52 5 10 := Or.inr ⟨rfl, rfl, rfl⟩
theorem fin_52_5_11 : finG 52 5 11 := Or.inr ⟨rfl, rfl, rfl⟩
theorem fin_52_5_12 : finG 52 5 12 := Or.inl rfl
theorem fin_82_7_0 : finG 82 7 0 := Or.inr ⟨rfl, rfl, rfl⟩
theorem fin_82_7_1 : finG 82 7 1 := Or.inl rfl
theorem fin_82_7_2 : finG 82 7 2 := Or.inl rfl
theorem fin_82_7_3 : finG 82 7 3 := Or.inl rfl
theorem fin_82_7_4 : finG 82 7 4 := Or.inl rfl
theorem fin_82_7_5 : finG 82 7 5 := Or.inl rfl
theorem fin_82_7_6 : finG 82 7 6 := Or.inl rfl
theorem fin_82_7_7 : finG 82 7 7 := Or.inl rfl
/-- VectorShelf$Shelf.<init> -/
def cI_52 (I : WI) (b n0 : Nat) : WI := (up2 (up2 (up2 (up2 (up2 (cI_24 I n0 (n0 + 1)) b 1 16) b 2 0) b 4 0) b 8 0) b 12 0)
def cR_52 (R : Nat → Nat → Option Nat) (b n0 : Nat) : Nat → Nat → Option Nat := (up2 (up2 (up2 (up2 (up2 (up2 (up2 (up2 (cR_24 R n0 (n0 + 1)) b 0 (some n0)) b 3 (some (n0 + 2))) b 5 (some (n0 + 3))) b 6 (some (n0 + 4))) b 7 (some (n0 + 5))) b 9 (some (n0 + 6))) b 10 (some (n0 + 7))) b 11 (some (n0 + 8)))
theorem zf_52 {I : WI} {F : WF} {G : WL} {R : Nat → Nat → Option Nat} {b n : Nat} (hz : Zf n (I, F, G, R)) (hb0 : b < n) : Zf (n + 9) (cI_52 I b n, F, G, cR_52 R b n) := by
  have hz := Zf_le hz (show n ≤ (n + 1) by omega)
  have hz2 := zf_24 (n := (n + 1)) (b := n) hz (by omega)
  have hz : Zf (n + 2) _ := hz2
  have hz := Zf_R (c := b) (k := 0) (r := n) hz (by omega) (by omega) (by omega)
  have hz := Zf_I (c := b) (k := 1) (x := 16) hz (by omega)
  have hz := Zf_I (c := b) (k := 2) (x := 0) hz (by omega)
  have hz := Zf_le hz (show (n + 2) ≤ (n + 3) by omega)
  have hz := Zf_R (c := b) (k := 3) (r := (n + 2)) hz (by omega) (by omega) (by omega)
  have hz := Zf_I (c := b) (k := 4) (x := 0) hz (by omega)
  have hz := Zf_le hz (show (n + 3) ≤ (n + 4) by omega)
  have hz := Zf_R (c := b) (k := 5) (r := (n + 3)) hz (by omega) (by omega) (by omega)
  have hz := Zf_le hz (show (n + 4) ≤ (n + 5) by omega)
  have hz := Zf_R (c := b) (k := 6) (r := (n + 4)) hz (by omega) (by omega) (by omega)
  have hz := Zf_le hz (show (n + 5) ≤ (n + 6) by omega)
  have hz := Zf_R (c := b) (k := 7) (r := (n + 5)) hz (by omega) (by omega) (by omega)
  have hz := Zf_I (c := b) (k := 8) (x := 0) hz (by omega)
  have hz := Zf_le hz (show (n + 6) ≤ (n + 7) by omega)
  have hz := Zf_R (c := b) (k := 9) (r := (n + 6)) hz (by omega) (by omega) (by omega)
  have hz := Zf_le hz (show (n + 7) ≤ (n + 8) by omega)
  have hz := Zf_R (c := b) (k := 10) (r := (n + 7)) hz (by omega) (by omega) (by omega)
  have hz := Zf_le hz (show (n + 8) ≤ (n + 9) by omega)
  have hz := Zf_R (c := b) (k := 11) (r := (n + 8)) hz (by omega) (by omega) (by omega)
  have hz := Zf_I (c := b) (k := 12) (x := 0) hz (by omega)
  exact hz
theorem con_52 {l : LX} {d n0 b : Nat} {S0 : List Sh} {I : WI} {F : WF} {G : WL} {R : Nat → Nat → Option Nat} (hn0 : S0.length = n0) (hle : n0 < 800) (hb : S0[b]? = some (.inr 5)) (hz : Zf n0 (I, F, G, R)) : Con l 52 (d + 2) 9 106 [.ref b] S0 (I, F, G, R) (poC (S0 ++ [.inr 2, .inl (.int, 3), .inl (.int, 3), .inl (.int, 12), .inl (.int, 12), .inl (.int, 12), .inl (.int, 36), .inl (.int, 12), .inl (.int, 12)]) (cI_52 I b n0, F, G, cR_52 R b n0)) := by
  have hb0 : b < n0 := by rw [← hn0]; exact (List.getElem?_eq_some_iff.mp hb).1
  refine con_of mk_52 (by decide) (Nat.le_of_ble_eq_true rfl) ?_
  refine Wp_S0 ?_
  show Wp _ _ _ _ _ _ 0 0 0 [(0, .ref b)] [] (S0 ++ []) (I, F, G, R)
  refine Wp_seg (is := [.aload_n 0]) (as := [0]) (pc' := 1) (lv' := [(0, .ref b)]) (st' := [.ref b]) (w' := (I, F, G, R)) (G := _) (by decide +kernel) rfl ⟨trivial, trivial⟩ ?_
  refine Wp_objInit oi_5 rfl (by decide +kernel) (by omega) (Nat.le_of_ble_eq_true rfl) ?_
  refine Wp_seg (is := [.aload_n 0]) (as := [0]) (pc' := 5) (lv' := [(0, .ref b)]) (st' := [.ref b]) (w' := (I, F, G, R)) (G := _) (by decide +kernel) rfl ⟨trivial, trivial⟩ ?_
  refine Wp_nw (ix := 9) (i := 0) (ci := 2) (N := 4) hn0 rfl hz rfl rfl (by decide +kernel) (by omega) (by omega) (okR_l (okV_r (by omega)) (okR_s (okV_r (by omega)) okR_n)) (by omega) ?_
  show Wp _ _ _ _ _ _ 1 4 8 [(0, .ref b)] [.ref n0, .ref b] (S0 ++ [.inr 2]) (I, F, G, R)
  have hz := Zf_le hz (show n0 ≤ (n0 + 1) by omega)
  refine Wp_seg (is := [.dup]) (as := [0]) (pc' := 9) (lv' := [(0, .ref b)]) (st' := [.ref n0, .ref n0, .ref b]) (w' := (I, F, G, R)) (G := _) (by decide +kernel) rfl ⟨trivial, trivial⟩ ?_
  have hz2 := zf_24 (n := (n0 + 1)) (b := n0) hz (by omega)
  refine Wp_ci (ix := 11) (i := 1) hn0 rfl (nest := 1) (L2 := [.inl (.int, 3)]) rfl mk_24 mc_24 rfl (by decide +kernel) rfl mp_24 (Nat.le_of_ble_eq_true rfl) (by omega) (by omega) (con_24 (n0 := (n0 + 1)) (b := n0) (d := d) (by rw [List.length_append, hn0]; rfl) (by omega) (sh_n (j := 0) hn0 rfl) hz) (okR_l (okV_r (by omega)) (okR_s (okV_r (by omega)) (okR_s (okV_r (by omega)) okR_n))) ?_
  have hz : Zf (n0 + 2) _ := hz2
  show Wp _ _ _ _ _ _ 2 7 12 [(0, .ref b)] [.ref n0, .ref b] (S0 ++ [.inr 2, .inl (.int, 3)]) ((cI_24 I n0 (n0 + 1)), F, G, (cR_24 R n0 (n0 + 1)))
  have hz := Zf_R (c := b) (k := 0) (r := n0) hz (by omega) (by omega) (by omega)
  have hz := Zf_I (c := b) (k := 1) (x := 16) hz (by omega)
  have hz := Zf_I (c := b) (k := 2) (x := 0) hz (by omega)
  refine Wp_seg (is := [.putfield 12, .aload_n 0, .bipush 16, .putfield 18, .aload_n 0, .iconst 0, .putfield 22, .aload_n 0, .iconst 3]) (as := [0, 0, 0, 0, 0, 0, 0, 0, 0]) (pc' := 28) (lv' := [(0, .ref b)]) (st' := [.int 3, .ref b]) (w' := ((up2 (up2 (cI_24 I n0 (n0 + 1)) b 1 16) b 2 0), F, G, (up2 (cR_24 R n0 (n0 + 1)) b 0 (some n0)))) (G := _) (by decide +kernel) rfl ⟨⟨(sh_b hb), fin_52_5_0⟩, trivial, trivial, ⟨(sh_b hb), fin_52_5_1, (Or.inl rfl)⟩, trivial, trivial, ⟨(sh_b hb), fin_52_5_2, (Or.inl rfl)⟩, trivial, trivial, trivial⟩ ?_
  refine Wp_na (i := 2) (at0 := .int) (ty := .int) (x := 3) (N := 3) (t0 := 0) hn0 rfl hz rfl ac_int rfl (by decide) rfl (by decide) (by decide) (by decide) (by decide +kernel) (by omega) (by omega) (okR_l (okV_r (by omega)) (okR_s (okV_r (by omega)) okR_n)) (by omega) ?_
  show Wp _ _ _ _ _ _ 3 10 30 [(0, .ref b)] [.ref (n0 + 2), .ref b] (S0 ++ [.inr 2, .inl (.int, 3), .inl (.int, 3)]) ((up2 (up2 (cI_24 I n0 (n0 + 1)) b 1 16) b 2 0), F, G, (up2 (cR_24 R n0 (n0 + 1)) b 0 (some n0)))
  have hz := Zf_le hz (show (n0 + 2) ≤ (n0 + 3) by omega)
  have hz := Zf_R (c := b) (k := 3) (r := (n0 + 2)) hz (by omega) (by omega) (by omega)
  have hz := Zf_I (c := b) (k := 4) (x := 0) hz (by omega)
  refine Wp_seg (is := [.putfield 25, .aload_n 0, .iconst 0, .putfield 29, .aload_n 0, .bipush 12]) (as := [0, 0, 0, 0, 0, 0]) (pc' := 41) (lv' := [(0, .ref b)]) (st' := [.int 12, .ref b]) (w' := ((up2 (up2 (up2 (cI_24 I n0 (n0 + 1)) b 1 16) b 2 0) b 4 0), F, G, (up2 (up2 (cR_24 R n0 (n0 + 1)) b 0 (some n0)) b 3 (some (n0 + 2))))) (G := _) (by decide +kernel) rfl ⟨⟨(sh_b hb), fin_52_5_3⟩, trivial, trivial, ⟨(sh_b hb), fin_52_5_4, (Or.inl rfl)⟩, trivial, trivial, trivial⟩ ?_
  refine Wp_na (i := 3) (at0 := .int) (ty := .int) (x := 12) (N := 12) (t0 := 0) hn0 rfl hz rfl ac_int rfl (by decide) rfl (by decide) (by decide) (by decide) (by decide +kernel) (by omega) (by omega) (okR_l (okV_r (by omega)) (okR_s (okV_r (by omega)) okR_n)) (by omega) ?_
  show Wp _ _ _ _ _ _ 4 22 43 [(0, .ref b)] [.ref (n0 + 3), .ref b] (S0 ++ [.inr 2, .inl (.int, 3), .inl (.int, 3), .inl (.int, 12)]) ((up2 (up2 (up2 (cI_24 I n0 (n0 + 1)) b 1 16) b 2 0) b 4 0), F, G, (up2 (up2 (cR_24 R n0 (n0 + 1)) b 0 (some n0)) b 3 (some (n0 + 2))))
  have hz := Zf_le hz (show (n0 + 3) ≤ (n0 + 4) by omega)
  have hz := Zf_R (c := b) (k := 5) (r := (n0 + 3)) hz (by omega) (by omega) (by omega)
  refine Wp_seg (is := [.putfield 32, .aload_n 0, .bipush 12]) (as := [0, 0, 0]) (pc' := 49) (lv' := [(0, .ref b)]) (st' := [.int 12, .ref b]) (w' := ((up2 (up2 (up2 (cI_24 I n0 (n0 + 1)) b 1 16) b 2 0) b 4 0), F, G, (up2 (up2 (up2 (cR_24 R n0 (n0 + 1)) b 0 (some n0)) b 3 (some (n0 + 2))) b 5 (some (n0 + 3))))) (G := _) (by decide +kernel) rfl ⟨⟨(sh_b hb), fin_52_5_5⟩, trivial, trivial, trivial⟩ ?_
  refine Wp_na (i := 4) (at0 := .int) (ty := .int) (x := 12) (N := 12) (t0 := 0) hn0 rfl hz rfl ac_int rfl (by decide) rfl (by decide) (by decide) (by decide) (by decide +kernel) (by omega) (by omega) (okR_l (okV_r (by omega)) (okR_s (okV_r (by omega)) okR_n)) (by omega) ?_
  show Wp _ _ _ _ _ _ 5 34 51 [(0, .ref b)] [.ref (n0 + 4), .ref b] (S0 ++ [.inr 2, .inl (.int, 3), .inl (.int, 3), .inl (.int, 12), .inl (.int, 12)]) ((up2 (up2 (up2 (cI_24 I n0 (n0 + 1)) b 1 16) b 2 0) b 4 0), F, G, (up2 (up2 (up2 (cR_24 R n0 (n0 + 1)) b 0 (some n0)) b 3 (some (n0 + 2))) b 5 (some (n0 + 3))))
  have hz := Zf_le hz (show (n0 + 4) ≤ (n0 + 5) by omega)
  have hz := Zf_R (c := b) (k := 6) (r := (n0 + 4)) hz (by omega) (by omega) (by omega)
  refine Wp_seg (is := [.putfield 35, .aload_n 0, .bipush 12]) (as := [0, 0, 0]) (pc' := 57) (lv' := [(0, .ref b)]) (st' := [.int 12, .ref b]) (w' := ((up2 (up2 (up2 (cI_24 I n0 (n0 + 1)) b 1 16) b 2 0) b 4 0), F, G, (up2 (up2 (up2 (up2 (cR_24 R n0 (n0 + 1)) b 0 (some n0)) b 3 (some (n0 + 2))) b 5 (some (n0 + 3))) b 6 (some (n0 + 4))))) (G := _) (by decide +kernel) rfl ⟨⟨(sh_b hb), fin_52_5_6⟩, trivial, trivial, trivial⟩ ?_
  refine Wp_na (i := 5) (at0 := .int) (ty := .int) (x := 12) (N := 12) (t0 := 0) hn0 rfl hz rfl ac_int rfl (by decide) rfl (by decide) (by decide) (by decide) (by decide +kernel) (by omega) (by omega) (okR_l (okV_r (by omega)) (okR_s (okV_r (by omega)) okR_n)) (by omega) ?_
  show Wp _ _ _ _ _ _ 6 46 59 [(0, .ref b)] [.ref (n0 + 5), .ref b] (S0 ++ [.inr 2, .inl (.int, 3), .inl (.int, 3), .inl (.int, 12), .inl (.int, 12), .inl (.int, 12)]) ((up2 (up2 (up2 (cI_24 I n0 (n0 + 1)) b 1 16) b 2 0) b 4 0), F, G, (up2 (up2 (up2 (up2 (cR_24 R n0 (n0 + 1)) b 0 (some n0)) b 3 (some (n0 + 2))) b 5 (some (n0 + 3))) b 6 (some (n0 + 4))))
  have hz := Zf_le hz (show (n0 + 5) ≤ (n0 + 6) by omega)
  have hz := Zf_R (c := b) (k := 7) (r := (n0 + 5)) hz (by omega) (by omega) (by omega)
  have hz := Zf_I (c := b) (k := 8) (x := 0) hz (by omega)
  refine Wp_seg (is := [.putfield 38, .aload_n 0, .iconst 0, .putfield 41, .aload_n 0, .bipush 36]) (as := [0, 0, 0, 0, 0, 0]) (pc' := 70) (lv' := [(0, .ref b)]) (st' := [.int 36, .ref b]) (w' := ((up2 (up2 (up2 (up2 (cI_24 I n0 (n0 + 1)) b 1 16) b 2 0) b 4 0) b 8 0), F, G, (up2 (up2 (up2 (up2 (up2 (cR_24 R n0 (n0 + 1)) b 0 (some n0)) b 3 (some (n0 + 2))) b 5 (some (n0 + 3))) b 6 (some (n0 + 4))) b 7 (some (n0 + 5))))) (G := _) (by decide +kernel) rfl ⟨⟨(sh_b hb), fin_52_5_7⟩, trivial, trivial, ⟨(sh_b hb), fin_52_5_8, (Or.inl rfl)⟩, trivial, trivial, trivial⟩ ?_
  refine Wp_na (i := 6) (at0 := .int) (ty := .int) (x := 36) (N := 36) (t0 := 0) hn0 rfl hz rfl ac_int rfl (by decide) rfl (by decide) (by decide) (by decide) (by decide +kernel) (by omega) (by omega) (okR_l (okV_r (by omega)) (okR_s (okV_r (by omega)) okR_n)) (by omega) ?_
  show Wp _ _ _ _ _ _ 7 82 72 [(0, .ref b)] [.ref (n0 + 6), .ref b] (S0 ++ [.inr 2, .inl (.int, 3), .inl (.int, 3), .inl (.int, 12), .inl (.int, 12), .inl (.int, 12), .inl (.int, 36)]) ((up2 (up2 (up2 (up2 (cI_24 I n0 (n0 + 1)) b 1 16) b 2 0) b 4 0) b 8 0), F, G, (up2 (up2 (up2 (up2 (up2 (cR_24 R n0 (n0 + 1)) b 0 (some n0)) b 3 (some (n0 + 2))) b 5 (some (n0 + 3))) b 6 (some (n0 + 4))) b 7 (some (n0 + 5))))
  have hz := Zf_le hz (show (n0 + 6) ≤ (n0 + 7) by omega)
  have hz := Zf_R (c := b) (k := 9) (r := (n0 + 6)) hz (by omega) (by omega) (by omega)
  refine Wp_seg (is := [.putfield 44, .aload_n 0, .bipush 12]) (as := [0, 0, 0]) (pc' := 78) (lv' := [(0, .ref b)]) (st' := [.int 12, .ref b]) (w' := ((up2 (up2 (up2 (up2 (cI_24 I n0 (n0 + 1)) b 1 16) b 2 0) b 4 0) b 8 0), F, G, (up2 (up2 (up2 (up2 (up2 (up2 (cR_24 R n0 (n0 + 1)) b 0 (some n0)) b 3 (some (n0 + 2))) b 5 (some (n0 + 3))) b 6 (some (n0 + 4))) b 7 (some (n0 + 5))) b 9 (some (n0 + 6))))) (G := _) (by decide +kernel) rfl ⟨⟨(sh_b hb), fin_52_5_9⟩, trivial, trivial, trivial⟩ ?_
  refine Wp_na (i := 7) (at0 := .int) (ty := .int) (x := 12) (N := 12) (t0 := 0) hn0 rfl hz rfl ac_int rfl (by decide) rfl (by decide) (by decide) (by decide) (by decide +kernel) (by omega) (by omega) (okR_l (okV_r (by omega)) (okR_s (okV_r (by omega)) okR_n)) (by omega) ?_
  show Wp _ _ _ _ _ _ 8 94 80 [(0, .ref b)] [.ref (n0 + 7), .ref b] (S0 ++ [.inr 2, .inl (.int, 3), .inl (.int, 3), .inl (.int, 12), .inl (.int, 12), .inl (.int, 12), .inl (.int, 36), .inl (.int, 12)]) ((up2 (up2 (up2 (up2 (cI_24 I n0 (n0 + 1)) b 1 16) b 2 0) b 4 0) b 8 0), F, G, (up2 (up2 (up2 (up2 (up2 (up2 (cR_24 R n0 (n0 + 1)) b 0 (some n0)) b 3 (some (n0 + 2))) b 5 (some (n0 + 3))) b 6 (some (n0 + 4))) b 7 (some (n0 + 5))) b 9 (some (n0 + 6))))
  have hz := Zf_le hz (show (n0 + 7) ≤ (n0 + 8) by omega)
  have hz := Zf_R (c := b) (k := 10) (r := (n0 + 7)) hz (by omega) (by omega) (by omega)
  refine Wp_seg (is := [.putfield 47, .aload_n 0, .bipush 12]) (as := [0, 0, 0]) (pc' := 86) (lv' := [(0, .ref b)]) (st' := [.int 12, .ref b]) (w' := ((up2 (up2 (up2 (up2 (cI_24 I n0 (n0 + 1)) b 1 16) b 2 0) b 4 0) b 8 0), F, G, (up2 (up2 (up2 (up2 (up2 (up2 (up2 (cR_24 R n0 (n0 + 1)) b 0 (some n0)) b 3 (some (n0 + 2))) b 5 (some (n0 + 3))) b 6 (some (n0 + 4))) b 7 (some (n0 + 5))) b 9 (some (n0 + 6))) b 10 (some (n0 + 7))))) (G := _) (by decide +kernel) rfl ⟨⟨(sh_b hb), fin_52_5_10⟩, trivial, trivial, trivial⟩ ?_
  refine Wp_na (i := 8) (at0 := .int) (ty := .int) (x := 12) (N := 12) (t0 := 0) hn0 rfl hz rfl ac_int rfl (by decide) rfl (by decide) (by decide) (by decide) (by decide +kernel) (by omega) (by omega) (okR_l (okV_r (by omega)) (okR_s (okV_r (by omega)) okR_n)) (by omega) ?_
  show Wp _ _ _ _ _ _ 9 106 88 [(0, .ref b)] [.ref (n0 + 8), .ref b] (S0 ++ [.inr 2, .inl (.int, 3), .inl (.int, 3), .inl (.int, 12), .inl (.int, 12), .inl (.int, 12), .inl (.int, 36), .inl (.int, 12), .inl (.int, 12)]) ((up2 (up2 (up2 (up2 (cI_24 I n0 (n0 + 1)) b 1 16) b 2 0) b 4 0) b 8 0), F, G, (up2 (up2 (up2 (up2 (up2 (up2 (up2 (cR_24 R n0 (n0 + 1)) b 0 (some n0)) b 3 (some (n0 + 2))) b 5 (some (n0 + 3))) b 6 (some (n0 + 4))) b 7 (some (n0 + 5))) b 9 (some (n0 + 6))) b 10 (some (n0 + 7))))
  have hz := Zf_le hz (show (n0 + 8) ≤ (n0 + 9) by omega)
  have hz := Zf_R (c := b) (k := 11) (r := (n0 + 8)) hz (by omega) (by omega) (by omega)
  have hz := Zf_I (c := b) (k := 12) (x := 0) hz (by omega)
  refine Wp_seg (is := [.putfield 50, .aload_n 0, .iconst 0, .putfield 53]) (as := [0, 0, 0, 0]) (pc' := 96) (lv' := [(0, .ref b)]) (st' := []) (w' := ((up2 (up2 (up2 (up2 (up2 (cI_24 I n0 (n0 + 1)) b 1 16) b 2 0) b 4 0) b 8 0) b 12 0), F, G, (up2 (up2 (up2 (up2 (up2 (up2 (up2 (up2 (cR_24 R n0 (n0 + 1)) b 0 (some n0)) b 3 (some (n0 + 2))) b 5 (some (n0 + 3))) b 6 (some (n0 + 4))) b 7 (some (n0 + 5))) b 9 (some (n0 + 6))) b 10 (some (n0 + 7))) b 11 (some (n0 + 8))))) (G := _) (by decide +kernel) rfl ⟨⟨(sh_b hb), fin_52_5_11⟩, trivial, trivial, ⟨(sh_b hb), fin_52_5_12, (Or.inl rfl)⟩, trivial⟩ ?_
  exact Wp_ret (v := none) (show decode (mB 52) 96 = .ok (.return_, 1) by decide +kernel) ⟨rfl, rfl, rfl⟩
/-- VectorShelf$TextReader.<init> -/
def cI_82 (I : WI) (b n0 : Nat) : WI := (cI_79 (up2 (up2 (up2 (up2 (up2 (up2 I b 1 0) b 2 0) b 3 0) b 4 256) b 5 0) b 6 (-1)) (n0 + 1) (n0 + 2))
def cR_82 (R : Nat → Nat → Option Nat) (b n0 : Nat) : Nat → Nat → Option Nat := (up2 (cR_79 (up2 R b 0 (some n0)) (n0 + 1) (n0 + 2)) b 7 (some (n0 + 1)))
theorem zf_82 {I : WI} {F : WF} {G : WL} {R : Nat → Nat → Option Nat} {b n : Nat} (hz : Zf n (I, F, G, R)) (hb0 : b < n) : Zf (n + 3) (cI_82 I b n, F, G, cR_82 R b n) := by
  have hz := Zf_le hz (show n ≤ (n + 1) by omega)
  have hz := Zf_R (c := b) (k := 0) (r := n) hz (by omega) (by omega) (by omega)
  have hz := Zf_I (c := b) (k := 1) (x := 0) hz (by omega)
  have hz := Zf_I (c := b) (k := 2) (x := 0) hz (by omega)
  have hz := Zf_I (c := b) (k := 3) (x := 0) hz (by omega)
  have hz := Zf_I (c := b) (k := 4) (x := 256) hz (by omega)
  have hz := Zf_I (c := b) (k := 5) (x := 0) hz (by omega)
  have hz := Zf_I (c := b) (k := 6) (x := (-1)) hz (by omega)
  have hz := Zf_le hz (show (n + 1) ≤ (n + 2) by omega)
  have hz2 := zf_79 (n := (n + 2)) (b := (n + 1)) hz (by omega)
  have hz : Zf (n + 3) _ := hz2
  have hz := Zf_R (c := b) (k := 7) (r := (n + 1)) hz (by omega) (by omega) (by omega)
  exact hz
theorem con_82 {l : LX} {d n0 b : Nat} {S0 : List Sh} {I : WI} {F : WF} {G : WL} {R : Nat → Nat → Option Nat} (hn0 : S0.length = n0) (hle : n0 < 800) (hb : S0[b]? = some (.inr 7)) (hz : Zf n0 (I, F, G, R)) : Con l 82 (d + 2) 3 323 [.ref b] S0 (I, F, G, R) (poC (S0 ++ [.inl (.int, 160), .inr 6, .inl (.int, 160)]) (cI_82 I b n0, F, G, cR_82 R b n0)) := by
  have hb0 : b < n0 := by rw [← hn0]; exact (List.getElem?_eq_some_iff.mp hb).1
  refine con_of mk_82 (by decide) (Nat.le_of_ble_eq_true rfl) ?_
  refine Wp_S0 ?_
  show Wp _ _ _ _ _ _ 0 0 0 [(0, .ref b)] [] (S0 ++ []) (I, F, G, R)
  refine Wp_seg (is := [.aload_n 0]) (as := [0]) (pc' := 1) (lv' := [(0, .ref b)]) (st' := [.ref b]) (w' := (I, F, G, R)) (G := _) (by decide +kernel) rfl ⟨trivial, trivial⟩ ?_
  refine Wp_objInit oi_7 rfl (by decide +kernel) (by omega) (Nat.le_of_ble_eq_true rfl) ?_
  refine Wp_seg (is := [.aload_n 0, .sipush 160]) (as := [0, 0]) (pc' := 8) (lv' := [(0, .ref b)]) (st' := [.int 160, .ref b]) (w' := (I, F, G, R)) (G := _) (by decide +kernel) rfl ⟨trivial, trivial, trivial⟩ ?_
  refine Wp_na (i := 0) (at0 := .int) (ty := .int) (x := 160) (N := 160) (t0 := 0) hn0 rfl hz rfl ac_int rfl (by decide) rfl (by decide) (by decide) (by decide) (by decide +kernel) (by omega) (by omega) (okR_l (okV_r (by omega)) (okR_s (okV_r (by omega)) okR_n)) (by omega) ?_
  show Wp _ _ _ _ _ _ 1 160 10 [(0, .ref b)] [.ref n0, .ref b] (S0 ++ [.inl (.int, 160)]) (I, F, G, R)
  have hz := Zf_le hz (show n0 ≤ (n0 + 1) by omega)
  have hz := Zf_R (c := b) (k := 0) (r := n0) hz (by omega) (by omega) (by omega)
  have hz := Zf_I (c := b) (k := 1) (x := 0) hz (by omega)
  have hz := Zf_I (c := b) (k := 2) (x := 0) hz (by omega)
  have hz := Zf_I (c := b) (k := 3) (x := 0) hz (by omega)
  have hz := Zf_I (c := b) (k := 4) (x := 256) hz (by omega)
  have hz := Zf_I (c := b) (k := 5) (x := 0) hz (by omega)
  have hz := Zf_I (c := b) (k := 6) (x := (-1)) hz (by omega)
  refine Wp_seg (is := [.putfield 9, .aload_n 0, .iconst 0, .putfield 15, .aload_n 0, .iconst 0, .putfield 19, .aload_n 0, .iconst 0, .putfield 22, .aload_n 0, .sipush 256, .putfield 25, .aload_n 0, .iconst 0, .putfield 28, .aload_n 0, .iconst (-1), .putfield 31, .aload_n 0]) (as := [0, 0, 0, 0, 0, 0, 0, 0, 0, 0, 0, 0, 0, 0, 0, 0, 0, 0, 0, 0]) (pc' := 46) (lv' := [(0, .ref b)]) (st' := [.ref b]) (w' := ((up2 (up2 (up2 (up2 (up2 (up2 I b 1 0) b 2 0) b 3 0) b 4 256) b 5 0) b 6 (-1)), F, G, (up2 R b 0 (some n0)))) (G := _) (by decide +kernel) rfl ⟨⟨(sh_b hb), fin_82_7_0⟩, trivial, trivial, ⟨(sh_b hb), fin_82_7_1, (Or.inl rfl)⟩, trivial, trivial, ⟨(sh_b hb), fin_82_7_2, (Or.inl rfl)⟩, trivial, trivial, ⟨(sh_b hb), fin_82_7_3, (Or.inl rfl)⟩, trivial, trivial, ⟨(sh_b hb), fin_82_7_4, (Or.inl rfl)⟩, trivial, trivial, ⟨(sh_b hb), fin_82_7_5, (Or.inl rfl)⟩, trivial, trivial, ⟨(sh_b hb), fin_82_7_6, (Or.inl rfl)⟩, trivial, trivial⟩ ?_
  refine Wp_nw (ix := 34) (i := 1) (ci := 6) (N := 3) hn0 rfl hz rfl rfl (by decide +kernel) (by omega) (by omega) (okR_l (okV_r (by omega)) (okR_s (okV_r (by omega)) okR_n)) (by omega) ?_
  show Wp _ _ _ _ _ _ 2 163 49 [(0, .ref b)] [.ref (n0 + 1), .ref b] (S0 ++ [.inl (.int, 160), .inr 6]) ((up2 (up2 (up2 (up2 (up2 (up2 I b 1 0) b 2 0) b 3 0) b 4 256) b 5 0) b 6 (-1)), F, G, (up2 R b 0 (some n0)))
  have hz := Zf_le hz (show (n0 + 1) ≤ (n0 + 2) by omega)
  refine Wp_seg (is := [.dup]) (as := [0]) (pc' := 50) (lv' := [(0, .ref b)]) (st' := [.ref (n0 + 1), .ref (n0 + 1), .ref b]) (w' := ((up2 (up2 (up2 (up2 (up2 (up2 I b 1 0) b 2 0) b 3 0) b 4 256) b 5 0) b 6 (-1)), F, G, (up2 R b 0 (some n0)))) (G := _) (by decide +kernel) rfl ⟨trivial, trivial⟩ ?_
  have hz2 := zf_79 (n := (n0 + 2)) (b := (n0 + 1)) hz (by omega)
  refine Wp_ci (ix := 36) (i := 2) hn0 rfl (nest := 0) (L2 := [.inl (.int, 160)]) rfl mk_79 mc_79 rfl (by decide +kernel) rfl mp_79 (Nat.le_of_ble_eq_true rfl) (by omega) (by omega) (con_79 (n0 := (n0 + 2)) (b := (n0 + 1)) (d := d) (by rw [List.length_append, hn0]; rfl) (by omega) (sh_n (j := 1) hn0 rfl) hz) (okR_l (okV_r (by omega)) (okR_s (okV_r (by omega)) (okR_s (okV_r (by omega)) okR_n))) ?_
  have hz : Zf (n0 + 3) _ := hz2
  show Wp _ _ _ _ _ _ 3 323 53 [(0, .ref b)] [.ref (n0 + 1), .ref b] (S0 ++ [.inl (.int, 160), .inr 6, .inl (.int, 160)]) ((cI_79 (up2 (up2 (up2 (up2 (up2 (up2 I b 1 0) b 2 0) b 3 0) b 4 256) b 5 0) b 6 (-1)) (n0 + 1) (n0 + 2)), F, G, (cR_79 (up2 R b 0 (some n0)) (n0 + 1) (n0 + 2)))
  have hz := Zf_R (c := b) (k := 7) (r := (n0 + 1)) hz (by omega) (by omega) (by omega)
  refine Wp_seg (is := [.putfield 37]) (as := [0]) (pc' := 56) (lv' := [(0, .ref b)]) (st' := []) (w' := ((cI_79 (up2 (up2 (up2 (up2 (up2 (up2 I b 1 0) b 2 0) b 3 0) b 4 256) b 5 0) b 6 (-1)) (n0 + 1) (n0 + 2)), F, G, (up2 (cR_79 (up2 R b 0 (some n0)) (n0 + 1) (n0 + 2)) b 7 (some (n0 + 1))))) (G := _) (by decide +kernel) rfl ⟨⟨(sh_b hb), fin_82_7_7⟩, trivial⟩ ?_
  exact Wp_ret (v := none) (show decode (mB 82) 56 = .ok (.return_, 1) by decide +kernel) ⟨rfl, rfl, rfl⟩
end
