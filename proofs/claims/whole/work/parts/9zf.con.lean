section
variable {l : LX} {id d mc ms : Nat} {P : RP} {cc ss pc ix n m i j n0 : Nat} {lv : List (Nat × Value)} {st rest : List Value} {sh S0 L L2 : List Sh} {w w2 : Wd} {I : WI} {F : WF} {G : WL} {R : Nat → Nat → Option Nat}
/-! constructors: over growing shapes -/
/-- nothing at n and beyond; no reference to n or beyond -/
def Zf (n : Nat) (w : Wd) : Prop := (∀ c k, n ≤ c → w.1 c k = 0 ∧ w.2.1 c k = 0 ∧ w.2.2.1 c k = 0 ∧ w.2.2.2 c k = none) ∧ ∀ c k r, w.2.2.2 c k = some r → r < n ∧ k < 80
theorem Zf_new (h : Zf n w) : newW n w = w := by
  obtain ⟨a, b, c, e⟩ := w
  unfold newW
  refine Prod.ext ?_ (Prod.ext ?_ (Prod.ext ?_ ?_)) <;> funext q k <;> dsimp only <;> split
  · rename_i z; subst z; exact (h.1 q k (Nat.le_refl _)).1.symm
  · rfl
  · rename_i z; subst z; exact (h.1 q k (Nat.le_refl _)).2.1.symm
  · rfl
  · rename_i z; subst z; exact (h.1 q k (Nat.le_refl _)).2.2.1.symm
  · rfl
  · rename_i z; subst z; exact (h.1 q k (Nat.le_refl _)).2.2.2.symm
  · rfl
theorem Zf_noR (h : Zf n w) : noR n w := fun c k e => absurd (h.2 c k n e).1 (Nat.lt_irrefl _)
theorem Zf_le (h : Zf n w) (hm : n ≤ m) : Zf m w := ⟨fun c k hc => h.1 c k (Nat.le_trans hm hc), fun c k r hr => ⟨Nat.lt_of_lt_of_le (h.2 c k r hr).1 hm, (h.2 c k r hr).2⟩⟩
theorem Zf_I {c k : Nat} {x : Int32} (h : Zf n (I, F, G, R)) (hc : c < n) : Zf n (up2 I c k x, F, G, R) := by
  refine ⟨fun q j hq => ⟨?_, (h.1 q j hq).2⟩, h.2⟩
  show up2 I c k x q j = 0
  rw [up2_nk (by omega)]
  exact (h.1 q j hq).1
theorem Zf_R {c k r : Nat} (h : Zf n (I, F, G, R)) (hc : c < n) (hr : r < n) (hk : k < 80) : Zf n (I, F, G, up2 R c k (some r)) := by
  refine ⟨fun q j hq => ⟨(h.1 q j hq).1, (h.1 q j hq).2.1, (h.1 q j hq).2.2.1, ?_⟩, fun q j x hx => ?_⟩
  · show up2 R c k (some r) q j = none
    rw [up2_nk (by omega)]
    exact (h.1 q j hq).2.2.2
  · have hx : up2 R c k (some r) q j = some x := hx
    by_cases z : q = c ∧ j = k
    · obtain ⟨rfl, rfl⟩ := z
      have e : up2 R q j (some r) q j = some r := by simp [up2]
      rw [e] at hx
      cases hx
      exact ⟨hr, hk⟩
    · rw [up2_nk z] at hx
      exact h.2 q j x hx
theorem okR_n : okR n [] [] := ⟨fun _ h => (nomatch h), fun _ h => (nomatch h)⟩
theorem okR_l {q : Nat} {v : Value} (hv : okV n v) (h : okR n lv st) : okR n ((q, v) :: lv) st := ⟨fun x hx => by
  rcases List.mem_cons.mp hx with rfl | hx
  · exact hv
  · exact h.1 x hx, h.2⟩
theorem okR_s {v : Value} (hv : okV n v) (h : okR n lv st) : okR n lv (v :: st) := ⟨h.1, fun x hx => by
  rcases List.mem_cons.mp hx with rfl | hx
  · exact hv
  · exact h.2 x hx⟩
theorem okV_r {q : Nat} (h : q < n) : okV n (.ref q) := Or.inl h
theorem sh_b {b : Nat} {x : Sh} (h : S0[b]? = some x) : (S0 ++ L)[b]? = some x := by
  rw [List.getElem?_append_left (List.getElem?_eq_some_iff.mp h).1]; exact h
theorem sh_n {x : Sh} (hn : S0.length = n0) (h : L[j]? = some x) : (S0 ++ L)[n0 + j]? = some x := by
  rw [List.getElem?_append_right (by omega), hn, Nat.add_sub_cancel_left]; exact h
theorem Wp_S0 (k : Wp l id d mc ms P cc ss pc lv st (S0 ++ []) w) : Wp l id d mc ms P cc ss pc lv st S0 w := by
  rw [List.append_nil] at k; exact k
def poC (s : List Sh) (w : Wd) : RP := fun v s1 w1 => v = none ∧ s1 = s ∧ w1 = w
theorem Wp_nw {ci N : Nat} (hn0 : S0.length = n0) (hi : L.length = i) (hz : Zf (n0 + i) w) (hk0 : kFind (mO id) ix = some ci) (hnf : nF ci = N) (hd : decode (mB id) pc = .ok (.new ix, 3)) (hc : cc + 1 ≤ mc) (hs : ss + N ≤ ms) (hok : okR (n0 + i) lv st) (hlen : n0 + i < 1000)
    (kk : Wp l id d mc ms P (cc + 1) (ss + N) (pc + 3) lv (.ref (n0 + i) :: st) (S0 ++ (L ++ [.inr ci])) w) : Wp l id d mc ms P cc ss pc lv st (S0 ++ L) w := by
  have hl : (S0 ++ L).length = n0 + i := by rw [List.length_append, hn0, hi]
  subst hnf
  refine Wp_new hk0 hd hc hs (by rw [hl]; exact hok) (by rw [hl]; exact Zf_noR hz) (by rw [hl]; exact hlen) ?_
  rw [hl, Zf_new hz, List.append_assoc]
  exact kk
theorem Wp_na {at0 : ArrayType} {ty : FieldType} {x : Int32} {N t0 : Nat} (hn0 : S0.length = n0) (hi : L.length = i) (hz : Zf (n0 + i) w) (hty : newarray.typeOf at0 = ty) (hac : Cond.arrayClass ty ∈ gTbl) (ht0 : tysL[t0]? = some ty) (hkd : kd ty ≠ 3 ∧ kd ty ≠ 4) (hst0 : st = .int x :: rest) (hn : ¬ x < 0) (hN : x.toNatClampNeg = N) (hby : N * componentBytes ty ≤ 536870912) (hd : decode (mB id) pc = .ok (.newarray at0, 2)) (hc : cc + 1 ≤ mc) (hs : ss + N ≤ ms) (hok : okR (n0 + i) lv rest) (hlen : n0 + i < 1000)
    (kk : Wp l id d mc ms P (cc + 1) (ss + N) (pc + 2) lv (.ref (n0 + i) :: rest) (S0 ++ (L ++ [.inl (ty, N)])) w) : Wp l id d mc ms P cc ss pc lv st (S0 ++ L) w := by
  have hl : (S0 ++ L).length = n0 + i := by rw [List.length_append, hn0, hi]
  refine Wp_newa hty hac ht0 hkd hst0 hn hN hby hd hc hs (by rw [hl]; exact hok) (by rw [hl]; exact Zf_noR hz) (by rw [hl]; exact hlen) ?_
  rw [hl, Zf_new hz, List.append_assoc]
  exact kk
theorem Wp_nq {ci : Nat} {q : vw_C} {x : Int32} {N t0 : Nat} (hn0 : S0.length = n0) (hi : L.length = i) (hz : Zf (n0 + i) w) (hk0 : kFind (mO id) ix = some ci) (hq0 : clsT[ci]? = some q) (hao : q.1 = "VectorShelf$Text" ∨ q.1 = "VectorShelf$Sheet") (ht0 : tysL[t0]? = some (.object q.1)) (hst0 : st = .int x :: rest) (hn : ¬ x < 0) (hN : x.toNatClampNeg = N) (hby : N * 4 ≤ 536870912) (hd : decode (mB id) pc = .ok (.anewarray ix, 3)) (hc : cc + 1 ≤ mc) (hs : ss + N ≤ ms) (hok : okR (n0 + i) lv rest) (hlen : n0 + i < 1000)
    (kk : Wp l id d mc ms P (cc + 1) (ss + N) (pc + 3) lv (.ref (n0 + i) :: rest) (S0 ++ (L ++ [.inl (.object q.1, N)])) w) : Wp l id d mc ms P cc ss pc lv st (S0 ++ L) w := by
  have hl : (S0 ++ L).length = n0 + i := by rw [List.length_append, hn0, hi]
  refine Wp_newq hk0 hq0 hao ht0 hst0 hn hN hby hd hc hs (by rw [hl]; exact hok) (by rw [hl]; exact Zf_noR hz) (by rw [hl]; exact hlen) ?_
  rw [hl, Zf_new hz, List.append_assoc]
  exact kk
theorem Wp_ci {nest b k d' mc' ms' : Nat} (hn0 : S0.length = n0) (hi : L.length = i) (hl0 : lFind (mO id) ix = some (k, nest)) (hk : mCk k = true) (hc : Cond.code (mN k) (mB k) (mL k) (mR k) ∈ gTbl) (hv : (mW k).1 = 2) (hd : decode (mB id) pc = .ok (.invokespecial ix, 3)) (hst0 : st = .ref b :: rest) (hn : 0 = mP k) (hrest : (rest.map fun v => v.category).sum ≤ 8) (hdd : d' + 1 ≤ d) (hcm : cc + mc' ≤ mc ∧ ss + ms' ≤ ms)
    (hcon : Con l k d' mc' ms' [.ref b] (S0 ++ L) w (poC ((S0 ++ L) ++ L2) w2)) (hok : okR (n0 + i) lv rest)
    (kk : Wp l id d mc ms P (cc + mc') (ss + ms') (pc + 3) lv rest (S0 ++ (L ++ L2)) w2) : Wp l id d mc ms P cc ss pc lv st (S0 ++ L) w := by
  have hl : (S0 ++ L).length = n0 + i := by rw [List.length_append, hn0, hi]
  refine Wp_callI (As := []) hl0 hk hc hv hd (by rw [hst0]; rfl) hn hrest hdd hcm hcon (Or.inr (by rw [hl]; exact hok)) (fun v s1 w1 hP => ?_)
  obtain ⟨rfl, rfl, rfl⟩ := hP
  rw [List.append_assoc]
  exact kk
end
