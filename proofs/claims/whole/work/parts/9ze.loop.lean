section
variable {l : LX} {d mc ms cc ss : Nat} {P : RP}
/-! the law's loop -/
theorem law_n {N : Nat} (hN : N < 2 ^ 31) : (Int32.ofNat N - 6).toInt = (N : Int) - 6 := by
  have e : Int32.ofNat N = nI N := rfl
  rw [e, Int32.toInt_sub, nI_toInt hN, show (6 : Int32).toInt = 6 by decide]
  exact Int.bmod_eq_of_le (by omega) (by omega)
theorem law_lp (hcm : cc + 0 ≤ mc ∧ ss + 0 ≤ ms) (hN : l.2.1 < 2 ^ 31) (hp : ∀ I F L t, P (some (.int 1)) SH (I, F, L, RT t)) : ∀ (m x : Nat) (I : WI) (F : WF) (L : WL) (t : Nat), x ≤ l.2.1 → l.2.1 ≤ x + m → T2 I I F F L t → Wp l 287 (d + 200) mc ms P cc ss 18 [(0, .ref 1000050), (1, .ref 0), (2, .ref 74), (3, .int (nI x))] [] SH (I, F, L, RT t) := by
  intro m
  induction m with
  | zero =>
    intro x I F L t hx hm h
    refine bk_287_18 (bk_287_21 (fun _ => bk_287_1617 (hp I F L t)) (fun z => absurd ?_ z))
    rw [Int32.lt_iff_toInt_lt, law_n hN, nI_toInt (by omega)]
    omega
  | succ m ih =>
    intro x I F L t hx hm h
    refine bk_287_18 (bk_287_21 (fun _ => bk_287_1617 (hp I F L t)) (fun z => ?_))
    have z1 : x + 6 ≤ l.2.1 := by
      have : ¬ (Int32.ofNat l.2.1 - 6).toInt < (nI x).toInt := fun w => z (Int32.lt_iff_toInt_lt.mpr w)
      rw [law_n hN, nI_toInt (by omega)] at this
      omega
    have vq : ∀ i, i < 6 → vp_in (nI x + nI i) l.2.1 := fun i hi => by rw [nI_add]; exact vp_in_nI (by omega) (by omega)
    have q0 : vp_in (nI x) l.2.1 := vp_in_nI (by omega) (by omega)
    have q1 : vp_in (nI x + 1) l.2.1 := vq 1 (by omega)
    have q2 : vp_in (nI x + 2) l.2.1 := vq 2 (by omega)
    have q3 : vp_in (nI x + 3) l.2.1 := vq 3 (by omega)
    have q4 : vp_in (nI x + 4) l.2.1 := vq 4 (by omega)
    have q5 : vp_in (nI x + 5) l.2.1 := vq 5 (by omega)
    have nx : ∀ (I : WI) (F : WF) (L : WL) (t : Nat), T2 I I F F L t → Wp l 287 (d + 200) mc ms P cc ss 1611 [(0, .ref 1000050), (1, .ref 0), (2, .ref 74), (3, .int (nI x))] [] SH (I, F, L, RT t) := fun I F L t w => by
      have := ih (x + 6) I F L t z1 (by omega) w
      rw [← nI_add] at this
      exact bk_287_1611 this
    refine bk_287_27 q0 (bk_287_30
      (fun _ => lc_0 hcm (cs_0 h q1 q2 q3).1 (fun r hr => by rw [hr]; exact nx _ _ _ _ (cs_0 h q1 q2 q3).2))
      (fun _ => lc_1 hcm (cs_1 h q1 q2 q3 q4).1 (fun r hr => by rw [hr]; exact nx _ _ _ _ (cs_1 h q1 q2 q3 q4).2))
      (fun _ => lc_2 hcm (cs_2 h q1 q2 q3 q4).1 (fun r hr => by rw [hr]; exact nx _ _ _ _ (cs_2 h q1 q2 q3 q4).2))
      (fun _ => lc_3 hcm (cs_3 h q1 q2).1 (fun r hr => by rw [hr]; exact nx _ _ _ _ (cs_3 h q1 q2).2))
      (fun _ => lc_4 hcm (cs_4 h q1 q2).1 (fun r hr => by rw [hr]; exact nx _ _ _ _ (cs_4 h q1 q2).2))
      (fun _ => lc_5 hcm (cs_5 h q1 q2).1 (fun r hr => by rw [hr]; exact nx _ _ _ _ (cs_5 h q1 q2).2))
      (fun _ => lc_6 hcm (cs_6 h q1 q2).1 (fun r hr => by rw [hr]; exact nx _ _ _ _ (cs_6 h q1 q2).2))
      (fun _ => lc_7 hcm (cs_7 h q1 q2 q3).1 (fun r hr => by rw [hr]; exact nx _ _ _ _ (cs_7 h q1 q2 q3).2))
      (fun _ => lc_8 hcm (cs_8 h q1 q2).1 (fun r hr => by rw [hr]; exact nx _ _ _ _ (cs_8 h q1 q2).2))
      (fun _ => lc_9 hcm (cs_9 h q1).1 (fun r hr => by rw [hr]; exact nx _ _ _ _ (cs_9 h q1).2))
      (fun _ => lc_10 hcm (cs_10 h q1).1 (fun r hr => by rw [hr]; exact nx _ _ _ _ (cs_10 h q1).2))
      (fun _ => lc_11 hcm (cs_11 h).1 (fun r hr => by rw [hr]; exact nx _ _ _ _ (cs_11 h).2))
      (fun _ => lc_12 hcm (cs_12 h q1).1 (fun r hr => by rw [hr]; exact nx _ _ _ _ (cs_12 h q1).2))
      (fun _ => lc_13 hcm (cs_13 h).1 (fun r hr => by rw [hr]; exact nx _ _ _ _ (cs_13 h).2))
      (fun _ => lc_14 hcm (cs_14 h q1).1 (fun r hr => by rw [hr]; exact nx _ _ _ _ (cs_14 h q1).2))
      (fun _ => lc_15 hcm (cs_15 h q1 q2).1 (fun r hr => by rw [hr]; exact nx _ _ _ _ (cs_15 h q1 q2).2))
      (fun _ => lc_16 hcm (cs_16 h q1 q2).1 (fun r hr => by rw [hr]; exact nx _ _ _ _ (cs_16 h q1 q2).2))
      (fun _ => lc_17 hcm (cs_17 h q1).1 (fun r hr => by rw [hr]; exact nx _ _ _ _ (cs_17 h q1).2))
      (fun _ => lc_18 hcm (cs_18 h q1 q2).1 (fun r hr => by rw [hr]; exact nx _ _ _ _ (cs_18 h q1 q2).2))
      (fun _ => lc_19 hcm (cs_19 h q1).1 (fun r hr => by rw [hr]; exact nx _ _ _ _ (cs_19 h q1).2))
      (fun _ => lc_20 hcm (cs_20 h q1).1 (fun r hr => by rw [hr]; exact nx _ _ _ _ (cs_20 h q1).2))
      (fun _ => lc_21 hcm (cs_21 h q1 q2).1 (fun r hr => by rw [hr]; exact nx _ _ _ _ (cs_21 h q1 q2).2))
      (fun _ => lc_22 hcm (cs_22 h q1).1 (fun r hr => by rw [hr]; exact nx _ _ _ _ (cs_22 h q1).2))
      (fun _ => lc_23 hcm (cs_23 h q1).1 (fun r hr => by rw [hr]; exact nx _ _ _ _ (cs_23 h q1).2))
      (fun _ => lc_24 hcm (cs_24 h q1 q2).1 (fun r hr => by rw [hr]; exact nx _ _ _ _ (cs_24 h q1 q2).2))
      (fun _ => lc_25 hcm (cs_25 h q1).1 (fun r hr => by rw [hr]; exact nx _ _ _ _ (cs_25 h q1).2))
      (fun _ => lc_26 hcm (cs_26 h q1 q2 q3 q4).1 (fun r hr => by rw [hr]; exact nx _ _ _ _ (cs_26 h q1 q2 q3 q4).2))
      (fun _ => lc_27 hcm (cs_27 h q1 q2).1 (fun r hr => by rw [hr]; exact nx _ _ _ _ (cs_27 h q1 q2).2))
      (fun _ => lc_28 hcm (cs_28 h q1 q2).1 (fun r hr => by rw [hr]; exact nx _ _ _ _ (cs_28 h q1 q2).2))
      (fun _ => lc_29 hcm (cs_29 h q1 q2).1 (fun r hr => by rw [hr]; exact nx _ _ _ _ (cs_29 h q1 q2).2))
      (fun _ => lc_30 hcm (cs_30 h).1 (fun r hr => by rw [hr]; exact nx _ _ _ _ (cs_30 h).2))
      (fun _ => lc_31 hcm (cs_31 h).1 (fun r hr => by rw [hr]; exact nx _ _ _ _ (cs_31 h).2))
      (fun _ => lc_32 hcm (cs_32 h q1).1 (fun r hr => by rw [hr]; exact nx _ _ _ _ (cs_32 h q1).2))
      (fun _ => lc_33 hcm (cs_33 h q1 q2 q3).1 (fun r hr => by rw [hr]; exact nx _ _ _ _ (cs_33 h q1 q2 q3).2))
      (fun _ => lc_34 hcm (cs_34 h q1 q2 q3).1 (fun r hr => by rw [hr]; exact nx _ _ _ _ (cs_34 h q1 q2 q3).2))
      (fun _ => lc_35 hcm (cs_35 h q1 q2).1 (fun r hr => by rw [hr]; exact nx _ _ _ _ (cs_35 h q1 q2).2))
      (fun _ => lc_36 hcm (cs_36 h q1 q2).1 (fun r hr => by rw [hr]; exact nx _ _ _ _ (cs_36 h q1 q2).2))
      (fun _ => lc_37 hcm (cs_37 h q1 q2 q3 q4 q5).1 (fun r hr => by rw [hr]; exact nx _ _ _ _ (cs_37 h q1 q2 q3 q4 q5).2))
      (fun _ => lc_38 hcm (cs_38 h q1 q2 q3).1 (fun r hr => by rw [hr]; exact nx _ _ _ _ (cs_38 h q1 q2 q3).2))
      (fun _ => lc_39 hcm (cs_39 h q1 q2 q3 q4).1 (fun r hr => by rw [hr]; exact nx _ _ _ _ (cs_39 h q1 q2 q3 q4).2))
      (fun _ => lc_40 hcm (cs_40 h q1 q2).1 (fun r hr => by rw [hr]; exact nx _ _ _ _ (cs_40 h q1 q2).2))
      (fun _ => lc_41 hcm (cs_41 h q1 q2 q3).1 (fun r hr => by rw [hr]; exact nx _ _ _ _ (cs_41 h q1 q2 q3).2))
      (fun _ => lc_42 hcm (cs_42 h q1).1 (fun r hr => by rw [hr]; exact nx _ _ _ _ (cs_42 h q1).2))
      (fun _ _ _ _ _ _ _ _ _ _ _ _ _ _ _ _ _ _ _ _ _ _ _ _ _ _ _ _ _ _ _ _ _ _ _ _ _ _ _ _ _ _ _ => nx I F L t h))
end
