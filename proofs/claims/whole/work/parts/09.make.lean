section
set_option maxRecDepth 100000 in
theorem ac_int : Cond.arrayClass .int ∈ gTbl := g_in (i := 169) rfl rfl
set_option maxRecDepth 100000 in
theorem ac_float : Cond.arrayClass .float ∈ gTbl := g_in (i := 339) rfl rfl
set_option maxRecDepth 100000 in
theorem ac_byte : Cond.arrayClass .byte ∈ gTbl := g_in (i := 378) rfl rfl
set_option maxRecDepth 100000 in
theorem ac_short : Cond.arrayClass .short ∈ gTbl := g_in (i := 379) rfl rfl
set_option maxRecDepth 100000 in
theorem ac_boolean : Cond.arrayClass .boolean ∈ gTbl := g_in (i := 1384) rfl rfl
set_option maxRecDepth 100000 in
theorem ac_long : Cond.arrayClass .long ∈ gTbl := g_in (i := 1385) rfl rfl
set_option maxRecDepth 100000 in
theorem oi_8 : Cond.methodLink (cN 8) 1 Lib.objectInit ∈ gTbl := g_in (i := 134) rfl rfl
set_option maxRecDepth 100000 in
theorem oi_5 : Cond.methodLink (cN 5) 3 Lib.objectInit ∈ gTbl := g_in (i := 142) rfl rfl
set_option maxRecDepth 100000 in
theorem oi_2 : Cond.methodLink (cN 2) 1 Lib.objectInit ∈ gTbl := g_in (i := 148) rfl rfl
set_option maxRecDepth 100000 in
theorem oi_7 : Cond.methodLink (cN 7) 3 Lib.objectInit ∈ gTbl := g_in (i := 239) rfl rfl
set_option maxRecDepth 100000 in
theorem oi_6 : Cond.methodLink (cN 6) 3 Lib.objectInit ∈ gTbl := g_in (i := 245) rfl rfl
set_option maxRecDepth 100000 in
theorem oi_1 : Cond.methodLink (cN 1) 3 Lib.objectInit ∈ gTbl := g_in (i := 292) rfl rfl
set_option maxRecDepth 100000 in
theorem oi_3 : Cond.methodLink (cN 3) 3 Lib.objectInit ∈ gTbl := g_in (i := 312) rfl rfl
set_option maxRecDepth 100000 in
theorem oi_0 : Cond.methodLink (cN 0) 3 Lib.objectInit ∈ gTbl := g_in (i := 345) rfl rfl
set_option maxRecDepth 100000 in
theorem oi_4 : Cond.methodLink (cN 4) 3 Lib.objectInit ∈ gTbl := g_in (i := 359) rfl rfl
set_option maxRecDepth 100000 in
theorem oi_9 : Cond.methodLink (cN 9) 7 Lib.objectInit ∈ gTbl := g_in (i := 1171) rfl rfl
set_option maxRecDepth 100000 in
theorem cp_2 : Cond.methodLink (cN 2) 24 arraycopyName ∈ gTbl := g_in (i := 990) rfl rfl
set_option maxRecDepth 100000 in
theorem cp_5 : Cond.methodLink (cN 5) 60 arraycopyName ∈ gTbl := g_in (i := 993) rfl rfl
set_option maxRecDepth 100000 in
theorem cp_4 : Cond.methodLink (cN 4) 47 arraycopyName ∈ gTbl := g_in (i := 1133) rfl rfl
set_option maxRecDepth 100000 in
theorem cp_ini : Cond.initialized "java/lang/System" ∈ gTbl := g_in (i := 128) rfl rfl
set_option maxRecDepth 100000 in
theorem oi_inst : Cond.instanceMethod Lib.objectInit ∈ gTbl := g_in (i := 135) rfl rfl
set_option maxRecDepth 100000 in
theorem oi_code : Cond.code Lib.objectInit ⟨#[0xb1]⟩ 1 none ∈ gTbl := g_in (i := 136) rfl rfl
set_option maxRecDepth 100000 in
theorem cp_stat : Cond.static arraycopyName ∈ gTbl := g_in (i := 991) rfl rfl
set_option maxRecDepth 100000 in
theorem cp_nat : Cond.native arraycopyName ∈ gTbl := g_in (i := 992) rfl rfl
set_option maxRecDepth 100000 in
theorem ab_link : Cond.fieldLink (cN 2) 30 "VectorShelf$Measure" "ABOVE" "[I" ∈ gTbl := g_in (i := 1164) rfl rfl
def kFind (o ix : Nat) : Option Nat := ((kT o).find? (fun e => e.1 == ix)).map (fun e => e.2.1)
theorem kFind_spec {o ix ci : Nat} (ho : o < 13) (h : kFind o ix = some ci) : ∃ q : vw_C, clsT[ci]? = some q ∧ Cond.classLink (cN o) ix q.1 ∈ gTbl ∧ Cond.instantiable q.1 q.2.2 ∈ gTbl ∧ Cond.initialized q.1 ∈ gTbl := by
  unfold kFind at h
  cases h1 : (kT o).find? (fun e => e.1 == ix) with
  | none => rw [h1] at h; cases h
  | some e =>
    rw [h1] at h
    have hm := List.mem_of_find?_eq_some h1
    have he := List.find?_some h1
    have hc := List.all_eq_true.mp (k_all o ho) e hm
    unfold kCk at hc
    simp only [decide_eq_true_eq] at hc
    simp only [beq_iff_eq] at he
    simp only [Option.map_some, Option.some.injEq] at h
    obtain ⟨hc1, hc2, hc3, hc4⟩ := hc
    obtain ⟨e1, e2, e3⟩ := e
    dsimp only at h he hc1 hc2 hc3 hc4
    subst h; subst he
    have hl : e2 < clsT.length := hc1
    have hg : clsT.getD e2 (RX0, TX0, 0) = clsT[e2] := by rw [List.getD_eq_getElem?_getD, List.getElem?_eq_getElem hl]; rfl
    rw [hg] at hc2 hc3 hc4
    exact ⟨clsT[e2], List.getElem?_eq_getElem hl, g_in hc2 rfl, g_in hc3 rfl, g_in hc4 rfl⟩
/-- a new cell: all its places are 0 or null -/
def newW (n : Nat) (w : Wd) : Wd := (fun c k => if c = n then 0 else w.1 c k, fun c k => if c = n then 0 else w.2.1 c k, fun c k => if c = n then 0 else w.2.2.1 c k, fun c k => if c = n then none else w.2.2.2 c k)
def adN (ad : Nat → Nat) (n q : Nat) : Nat → Nat := fun i => if i = n then q else ad i
/-- no cell holds the next one -/
def noR (n : Nat) (w : Wd) : Prop := ∀ c k, w.2.2.2 c k ≠ some n
theorem cell_new {tyC : FieldType → ClassId} {ad : Nat → Nat} {w : Wd} {n q i : Nat} (hi : i ≠ n) (hR : noR n w) (c : Sh) : cellV tyC (adN ad n q) (newW n w) i c = cellV tyC ad w i c := by
  have hm : ∀ k, (w.2.2.2 i k).map (adN ad n q) = (w.2.2.2 i k).map ad := by
    intro k
    cases h : w.2.2.2 i k with
    | none => rfl
    | some x =>
      have : x ≠ n := fun e => hR i k (by rw [h, e])
      simp [adN, this]
  cases c with
  | inl p => simp [cellV, contA, newW, hi, hm]
  | inr ci =>
    simp only [cellV]
    congr 2
    apply List.map_congr_left
    intro k _
    unfold fval
    split
    · simp [newW, hi]; rfl
    · simp [newW, hi]; rfl
    · simp [newW, hi]; rfl
    · rfl
    · have := hm k
      simp only [newW, hi, if_false]
      cases h : w.2.2.2 i k with
      | none => rfl
      | some x => rw [h] at this; simp only [Option.map_some, Option.some.injEq] at this; simp [va_rf, cvv, this]
theorem wl_push {tyC : FieldType → ClassId} {ad : Nat → Nat} {w : Wd} {sh : List Sh} {q : Nat} {c : Sh} (hR : noR sh.length w) : wl tyC (adN ad sh.length q) (sh ++ [c]) (newW sh.length w) = wl tyC ad sh w ++ [(q, cellV tyC (adN ad sh.length q) (newW sh.length w) sh.length c)] := by
  unfold wl
  rw [List.length_append, List.length_singleton, List.range_succ, List.map_append]
  congr 1
  · apply List.map_congr_left
    intro i hi
    have hi : i < sh.length := List.mem_range.mp hi
    have hne : i ≠ sh.length := Nat.ne_of_lt hi
    rw [cell_new hne hR]
    simp [adN, hne, List.getElem?_append_left hi]
  · simp [adN]
theorem agr_new {ad0 ad : Nat → Nat} {n0 n q : Nat} (h : agr ad0 ad n0 n) : agr ad0 (adN ad n q) n0 (n + 1) := by
  refine ⟨Nat.le_succ_of_le h.1, fun i hi => ?_⟩
  have : i ≠ n := by have := h.1; omega
  simp only [adN, this, if_false]
  exact h.2 i (by omega)
theorem cvv_new {ad : Nat → Nat} {n q : Nat} (hn : n < 1000) {v : Value} (hv : okV n v) : cvv (adN ad n q) v = cvv ad v := by
  cases v with
  | ref i =>
    have hv : i < n ∨ 1000 ≤ i := hv
    have : i ≠ n := by rcases hv with h | h; exact Nat.ne_of_lt h; exact fun e => by rw [e] at h; exact absurd h (Nat.not_le.mpr hn)
    simp [cvv, adN, this]
  | _ => rfl
theorem lvc_new {ad : Nat → Nat} {n q : Nat} (hn : n < 1000) {lv : List (Nat × Value)} {st : List Value} (h : okR n lv st) : lvc (adN ad n q) lv = lvc ad lv ∧ st.map (cvv (adN ad n q)) = st.map (cvv ad) :=
  ⟨List.map_congr_left fun x hx => by rw [cvv_new hn (h.1 x hx)], List.map_congr_left fun x hx => cvv_new hn (h.2 x hx)⟩
section
variable {l : LX} {id d mc ms : Nat} {P : RP} {cc ss pc ix : Nat} {lv : List (Nat × Value)} {st rest : List Value} {sh : List Sh} {w : Wd}
theorem Wp_new {ci : Nat} (hk0 : kFind (mO id) ix = some ci) (hd : decode (mB id) pc = .ok (.new ix, 3)) (hc : cc + 1 ≤ mc) (hs : ss + nF ci ≤ ms) (hok : okR sh.length lv st) (hR0 : noR sh.length w) (hlen : sh.length < 1000)
    (kk : Wp l id d mc ms P (cc + 1) (ss + nF ci) (pc + 3) lv (.ref sh.length :: st) (sh ++ [.inr ci]) (newW sh.length w)) : Wp l id d mc ms P cc ss pc lv st sh w := by
  intro D tyC B0 ad0 n0 p e R s m args below meth c Q hF hK hB hR hst hret H locs ls ad hA hW hS hl hcc
  obtain ⟨q, hq, h1, h2, h3⟩ := kFind_spec hF.2.2.2.2.2.2.2.2 hk0
  obtain ⟨hin, hty, hnm⟩ := cls_facts _ q hq
  have hts := hF.2.2.2.2.2.1
  have hnF := nF_of hq
  rw [hnF] at hs kk
  refine va_new (ci := ci) (fs := (List.range q.2.2).map (fun k => defaultValue (fty ci k))) (C := q.1) (T := q.2.1) (N := q.2.2) hF.1 hF.2.1 hts hin _ hty hF.2.2.2.2.1 (hts _ h1) (hts _ h2) (hts _ h3) hK hW.2.1 hW.2.2.1 hS (fun x hx => Nat.le_trans hB hx) hq (fun j hj => by simp [vp_V, hj]) (Nat.le_trans hc hR.2.2.1) (Nat.le_trans hs hR.2.2.2) hd (fun a H1 hP1 hD1 hS1 => ?_)
  have hcell : cellV tyC (adN ad sh.length a) (newW sh.length w) sh.length (.inr ci) = .inr (ci, (List.range q.2.2).map (fun k => defaultValue (fty ci k))) := by
    simp only [cellV, hnF]
    congr 2
    apply List.map_congr_left
    intro k _
    unfold fval
    cases fty ci k <;> simp [kd, newW, va_rf, cvv, defaultValue]
  rw [← hcell, ← wl_push hR0] at hP1 hD1
  have hkk := kk D tyC B0 ad0 n0 p e R s m args below meth c Q hF hK hB hR hst hret H1 locs ls (adN ad sh.length a) (by rw [List.length_append]; exact agr_new hA) ⟨by rw [List.length_append]; exact hlen, hP1, hD1, fun x hx => by
    rcases List.mem_append.mp hx with hx | hx
    · exact hW.2.2.2 x hx
    · rw [List.mem_singleton.mp hx]; exact (List.getElem?_eq_some_iff.mp hq).1⟩ hS1 (by rw [(lvc_new hlen hok).1]; exact hl) ⟨hc, hs⟩
  have he : (Value.ref sh.length :: st).map (cvv (adN ad sh.length a)) = .ref a :: st.map (cvv ad) := by
    rw [List.map_cons, (lvc_new hlen hok).2]
    simp [cvv, adN]
  rw [he] at hkk
  exact hkk
theorem ra_uniq {U : State} {c1 c2 : ClassId} {ty : FieldType} (h1 : va_RA U c1 ty) (h2 : va_RA U c2 ty) : c1 = c2 := by
  cases ty with
  | object C =>
    obtain ⟨_, _, _, _, _, a1⟩ := h1
    obtain ⟨_, _, _, _, _, a2⟩ := h2
    exact Option.some.inj (a1.symm.trans a2)
  | _ => exact Option.some.inj (h1.symm.trans h2)
theorem Wp_newa {at0 : ArrayType} {ty : FieldType} {n : Int32} {N t0 : Nat} (hty : newarray.typeOf at0 = ty) (hac : Cond.arrayClass ty ∈ gTbl) (ht0 : tysL[t0]? = some ty) (hkd : kd ty ≠ 3 ∧ kd ty ≠ 4) (hst0 : st = .int n :: rest) (hn : ¬ n < 0) (hN : n.toNatClampNeg = N) (hby : N * componentBytes ty ≤ 536870912) (hd : decode (mB id) pc = .ok (.newarray at0, 2)) (hc : cc + 1 ≤ mc) (hs : ss + N ≤ ms) (hok : okR sh.length lv rest) (hR0 : noR sh.length w) (hlen : sh.length < 1000)
    (kk : Wp l id d mc ms P (cc + 1) (ss + N) (pc + 2) lv (.ref sh.length :: rest) (sh ++ [.inl (ty, N)]) (newW sh.length w)) : Wp l id d mc ms P cc ss pc lv st sh w := by
  intro D tyC B0 ad0 n0 p e R s m args below meth c Q hF hK hB hR hst hret H locs ls ad hA hW hS hl hcc
  have hts := hF.2.2.2.2.2.1
  subst hst0
  have hct : ∀ a : Nat, contA (adN ad sh.length a) (newW sh.length w) sh.length ty = contA (fun x => x) (fun _ _ => 0, fun _ _ => 0, fun _ _ => 0, fun _ _ => none) 0 ty := by
    intro a
    unfold contA newW
    simp
  refine va_newa (a0 := (N, contA (fun x => x) (fun _ _ => 0, fun _ _ => 0, fun _ _ => 0, fun _ _ => none) 0 ty)) hF.1 hF.2.1 (by rw [hty]; exact hts _ hac) hty hK hW.2.1 hW.2.2.1 hS (fun x hx => Nat.le_trans hB hx) (fun cA => by revert hkd; cases ty <;> simp [kd, contA, vp_cell, defaultValue]) hn hN hby (Nat.le_trans hc hR.2.2.1) (Nat.le_trans hs hR.2.2.2) hd (fun a cA H1 hK1 hP1 hD1 hS1 => ?_)
  have hcA : cA = tyC ty := ra_uniq (hK1.2 (tyL tyC).length (cA, ty) (by simp)).2 (hK.2 t0 _ (tyL_at ht0)).2
  subst hcA
  have hcell : cellV tyC (adN ad sh.length a) (newW sh.length w) sh.length (.inl (ty, N)) = .inl (tyC ty, N, contA (fun x => x) (fun _ _ => 0, fun _ _ => 0, fun _ _ => 0, fun _ _ => none) 0 ty) := by
    simp only [cellV, hct]
  rw [← hcell, ← wl_push hR0] at hP1 hD1
  have hkk := kk D tyC B0 ad0 n0 p e R s m args below meth c Q hF hK hB hR hst hret H1 locs ls (adN ad sh.length a) (by rw [List.length_append]; exact agr_new hA) ⟨by rw [List.length_append]; exact hlen, hP1, hD1, fun x hx => by
    rcases List.mem_append.mp hx with hx | hx
    · exact hW.2.2.2 x hx
    · rw [List.mem_singleton.mp hx]; exact List.mem_of_getElem? ht0⟩ hS1 (by rw [(lvc_new hlen hok).1]; exact hl) ⟨hc, hs⟩
  have he : (Value.ref sh.length :: rest).map (cvv (adN ad sh.length a)) = .ref a :: rest.map (cvv ad) := by
    rw [List.map_cons, (lvc_new hlen hok).2]
    simp [cvv, adN]
  rw [he] at hkk
  exact hkk
theorem Wp_newq {ci : Nat} {q : vw_C} {n : Int32} {N t0 : Nat} (hk0 : kFind (mO id) ix = some ci) (hq0 : clsT[ci]? = some q) (hao : q.1 = "VectorShelf$Text" ∨ q.1 = "VectorShelf$Sheet") (ht0 : tysL[t0]? = some (.object q.1)) (hst0 : st = .int n :: rest) (hn : ¬ n < 0) (hN : n.toNatClampNeg = N) (hby : N * 4 ≤ 536870912) (hd : decode (mB id) pc = .ok (.anewarray ix, 3)) (hc : cc + 1 ≤ mc) (hs : ss + N ≤ ms) (hok : okR sh.length lv rest) (hR0 : noR sh.length w) (hlen : sh.length < 1000)
    (kk : Wp l id d mc ms P (cc + 1) (ss + N) (pc + 3) lv (.ref sh.length :: rest) (sh ++ [.inl (.object q.1, N)]) (newW sh.length w)) : Wp l id d mc ms P cc ss pc lv st sh w := by
  intro D tyC B0 ad0 n0 p e R s m args below meth c Q hF hK hB hR hst hret H locs ls ad hA hW hS hl hcc
  obtain ⟨q', hq, h1, h2, h3⟩ := kFind_spec hF.2.2.2.2.2.2.2.2 hk0
  have : q' = q := Option.some.inj (hq.symm.trans hq0)
  subst this
  have hts := hF.2.2.2.2.2.1
  subst hst0
  have hAO : va_AO q'.1 s := by
    rcases hao with h | h
    · rw [h]; exact hst.2.1
    · rw [h]; exact hst.2.2.1
  refine va_newq hF.1 hF.2.1 hF.2.2.2.2.1 (hts _ h1) hAO hK hW.2.1 hW.2.2.1 hS (fun x hx => Nat.le_trans hB hx) hn hN hby (Nat.le_trans hc hR.2.2.1) (Nat.le_trans hs hR.2.2.2) hd (fun a cA H1 hK1 hP1 hD1 hS1 => ?_)
  have hcA : cA = tyC (.object q'.1) := ra_uniq (hK1.2 (tyL tyC).length (cA, .object q'.1) (by simp)).2 (hK.2 t0 _ (tyL_at ht0)).2
  subst hcA
  have hcell : cellV tyC (adN ad sh.length a) (newW sh.length w) sh.length (.inl (.object q'.1, N)) = .inl (tyC (.object q'.1), N, .inr (.inr (.inr (.inr (fun _ => none))))) := by
    simp [cellV, contA, kd, newW]
  rw [← hcell, ← wl_push hR0] at hP1 hD1
  have hkk := kk D tyC B0 ad0 n0 p e R s m args below meth c Q hF hK hB hR hst hret H1 locs ls (adN ad sh.length a) (by rw [List.length_append]; exact agr_new hA) ⟨by rw [List.length_append]; exact hlen, hP1, hD1, fun x hx => by
    rcases List.mem_append.mp hx with hx | hx
    · exact hW.2.2.2 x hx
    · rw [List.mem_singleton.mp hx]; exact List.mem_of_getElem? ht0⟩ hS1 (by rw [(lvc_new hlen hok).1]; exact hl) ⟨hc, hs⟩
  have he : (Value.ref sh.length :: rest).map (cvv (adN ad sh.length a)) = .ref a :: rest.map (cvv ad) := by
    rw [List.map_cons, (lvc_new hlen hok).2]
    simp [cvv, adN]
  rw [he] at hkk
  exact hkk
theorem Wp_aast {ci c0 v n t0 : Nat} {q : vw_C} {j : Int32} (hq : clsT[ci]? = some q) (ht0 : tysL[t0]? = some (.object q.1)) (hst0 : st = .ref v :: .int j :: .ref c0 :: rest) (hc0 : sh[c0]? = some (.inl (.object q.1, n))) (hv : sh[v]? = some (.inr ci)) (hin : vp_in j n) (hd : decode (mB id) pc = .ok (.aastore, 1))
    (kk : Wp l id d mc ms P cc ss (pc + 1) lv rest sh (w.1, w.2.1, w.2.2.1, up2 w.2.2.2 c0 j.toNatClampNeg (some v))) : Wp l id d mc ms P cc ss pc lv st sh w := by
  intro D tyC B0 ad0 n0 p e R s m args below meth c Q hF hK hB hR hst hret H locs ls ad hA hW hS hl hcc
  subst hst0
  exact va_astq hF.1 hF.2.1 hK hW.2.1 hW.2.2.1 hS _ t0 _ ci (wl_get hc0) (tyL_at ht0) (wl_get hv) hq hin hd (fun H1 locs1 hP1 hD1 hS1 => kk D tyC B0 ad0 n0 p e R s m args below meth c Q hF hK hB hR hst hret H1 locs1 ls ad hA (wok_set hW hc0 (fun i hi => by simp [up2_ne hi]) (by
    simp only [cellV, contA, kd, up2_at]
    congr 7
    funext k
    unfold va_up
    split <;> rfl) hP1 hD1) hS1 hl hcc)
theorem Wp_objInit {b : Nat} (hlk : Cond.methodLink (cN (mO id)) ix Lib.objectInit ∈ gTbl) (hst0 : st = .ref b :: rest) (hd : decode (mB id) pc = .ok (.invokespecial ix, 3)) (hd1 : 1 ≤ d) (hrest : (rest.map fun v => v.category).sum ≤ 8)
    (kk : Wp l id d mc ms P cc ss (pc + 3) lv rest sh w) : Wp l id d mc ms P cc ss pc lv st sh w := by
  intro D tyC B0 ad0 n0 p e R s m args below meth c Q hF hK hB hR hst hret H locs ls ad hA hW hS hl hcc
  subst hst0
  have hts := hF.2.2.2.2.2.1
  have hcat : ((rest.map (cvv ad)).map fun v => v.category).sum ≤ 8 := by rw [List.map_map]; simpa [Function.comp_def, cvv_cat] using hrest
  exact W.objInit hF.1 hF.2.1 hF.2.2.2.2.1 (hts _ hlk) (hts _ oi_inst) (hts _ oi_code) rfl (by rw [hF.2.2.1]; exact hl.1) rfl hd (Nat.le_trans hd1 hR.1) (by have h2 := hR.2.1; show 2 * 0 + _ + 12 ≤ _; omega) (kk D tyC B0 ad0 n0 p e R s m args below meth c Q hF hK hB hR hst hret H locs ls ad hA hW hS hl hcc)
def upR {α : Type} (f : Nat → Nat → α) (c : Nat) (g : Nat → α) : Nat → Nat → α := fun c' => if c' = c then g else f c'
theorem Wp_copyI {ty : FieldType} {a0 a1 n0 n1 t0 : Nat} {sp dp n : Int32} (hlk : Cond.methodLink (cN (mO id)) ix arraycopyName ∈ gTbl) (hst0 : st = .int n :: .int dp :: .ref a1 :: .int sp :: .ref a0 :: rest) (h0 : sh[a0]? = some (.inl (ty, n0))) (h1 : sh[a1]? = some (.inl (ty, n1))) (ht0 : tysL[t0]? = some ty) (hkd : kd ty = 0)
    (g1 : ¬ sp < 0) (g2 : ¬ dp < 0) (g3 : ¬ n < 0) (g4 : sp.toNatClampNeg + n.toNatClampNeg ≤ n0) (g5 : dp.toNatClampNeg + n.toNatClampNeg ≤ n1) (hfit : ∀ i, i < n.toNatClampNeg → fits ty (.int (w.1 a0 (sp.toNatClampNeg + i))) = true)
    (hd : decode (mB id) pc = .ok (.invokestatic ix, 3)) (hd1 : 1 ≤ d) (hrest : (rest.map fun v => v.category).sum ≤ 8)
    (kk : Wp l id d mc ms P cc ss (pc + 3) lv rest sh (upR w.1 a1 (va_cpy (w.1 a0) (w.1 a1) sp.toNatClampNeg dp.toNatClampNeg n.toNatClampNeg), w.2.1, w.2.2.1, w.2.2.2)) : Wp l id d mc ms P cc ss pc lv st sh w := by
  intro D tyC B0 ad0 n0' p e R s m args below meth c Q hF hK hB hR hst hret H locs ls ad hA hW hS hl hcc
  subst hst0
  have hts := hF.2.2.2.2.2.1
  have hcat : ((rest.map (cvv ad)).map fun v => v.category).sum ≤ 8 := by rw [List.map_map]; simpa [Function.comp_def, cvv_cat] using hrest
  have e0 : (wl tyC ad sh w)[a0]? = some (ad a0, .inl (tyC ty, n0, .inl (w.1 a0))) := by rw [wl_get h0]; simp [cellV, contA, hkd]
  have e1 : (wl tyC ad sh w)[a1]? = some (ad a1, .inl (tyC ty, n1, .inl (w.1 a1))) := by rw [wl_get h1]; simp [cellV, contA, hkd]
  have hpr : refKind ty = false := by revert hkd; cases ty <;> simp [kd, refKind]
  exact va_copyi hF.1 hF.2.1 (by rw [hF.2.2.1]; exact hl.1.symm) hF.2.2.2.2.1 (hts _ hlk) (hts _ cp_nat) (hts _ cp_stat) (hts _ cp_ini) hK hW.2.1 hW.2.2.1 hS a0 a1 t0 t0 e0 e1 (tyL_at ht0) (tyL_at ht0) hpr g1 g2 g3 g4 g5 hfit (Nat.le_trans hd1 hR.1) (by have h2 := hR.2.1; show _ + (5 + 2 + 11) ≤ R.locals; omega) hd (fun H1 locs1 hP1 hD1 hS1 => kk D tyC B0 ad0 n0' p e R s m args below meth c Q hF hK hB hR hst hret H1 locs1 ls ad hA (wok_set hW h1 (fun i hi => by simp [upR, hi]) (by simp [cellV, contA, hkd, upR]) hP1 hD1) hS1 hl hcc)
theorem Wp_copyF {a0 a1 n0 n1 : Nat} {sp dp n : Int32} (hlk : Cond.methodLink (cN (mO id)) ix arraycopyName ∈ gTbl) (hst0 : st = .int n :: .int dp :: .ref a1 :: .int sp :: .ref a0 :: rest) (h0 : sh[a0]? = some (.inl (.float, n0))) (h1 : sh[a1]? = some (.inl (.float, n1)))
    (g1 : ¬ sp < 0) (g2 : ¬ dp < 0) (g3 : ¬ n < 0) (g4 : sp.toNatClampNeg + n.toNatClampNeg ≤ n0) (g5 : dp.toNatClampNeg + n.toNatClampNeg ≤ n1)
    (hd : decode (mB id) pc = .ok (.invokestatic ix, 3)) (hd1 : 1 ≤ d) (hrest : (rest.map fun v => v.category).sum ≤ 8)
    (kk : Wp l id d mc ms P cc ss (pc + 3) lv rest sh (w.1, upR w.2.1 a1 (va_cpy (w.2.1 a0) (w.2.1 a1) sp.toNatClampNeg dp.toNatClampNeg n.toNatClampNeg), w.2.2.1, w.2.2.2)) : Wp l id d mc ms P cc ss pc lv st sh w := by
  intro D tyC B0 ad0 n0' p e R s m args below meth c Q hF hK hB hR hst hret H locs ls ad hA hW hS hl hcc
  subst hst0
  have hts := hF.2.2.2.2.2.1
  have hcat : ((rest.map (cvv ad)).map fun v => v.category).sum ≤ 8 := by rw [List.map_map]; simpa [Function.comp_def, cvv_cat] using hrest
  exact va_copyf hF.1 hF.2.1 (by rw [hF.2.2.1]; exact hl.1.symm) hF.2.2.2.2.1 (hts _ hlk) (hts _ cp_nat) (hts _ cp_stat) (hts _ cp_ini) hK hW.2.1 hW.2.2.1 hS a0 a1 4 4 (wl_get h0) (wl_get h1) (tyL_at rfl) (tyL_at rfl) rfl g1 g2 g3 g4 g5 (fun _ _ => rfl) (Nat.le_trans hd1 hR.1) (by have h2 := hR.2.1; show _ + (5 + 2 + 11) ≤ R.locals; omega) hd (fun H1 locs1 hP1 hD1 hS1 => kk D tyC B0 ad0 n0' p e R s m args below meth c Q hF hK hB hR hst hret H1 locs1 ls ad hA (wok_set hW h1 (fun i hi => by simp [upR, hi]) (by simp [cellV, contA, kd, upR]) hP1 hD1) hS1 hl hcc)
end
end
