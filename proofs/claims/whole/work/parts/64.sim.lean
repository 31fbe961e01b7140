section
/-! what a row of steps does to a stack -/
def tv (s a : Int32) : Int32 := if ¬ s = -7 then v_17 (if ¬ a = 0 then 0 else 1) else -a
def stp1 (en : Int32 → Int32) (s : Int32) (st : List Int32) : List Int32 :=
  if s < 0 then (if s < -6 then (if s < -8 then (match st with
    | b :: a :: r => v_19 s a b :: r
    | x => x) else (match st with
    | a :: r => tv s a :: r
    | [] => [])) else en s :: st) else s :: st
def runL (en : Int32 → Int32) : List Int32 → List Int32 → List Int32
  | [], st => st
  | s :: cs, st => runL en cs (stp1 en s st)
theorem runL_app (en : Int32 → Int32) : ∀ (a b st : List Int32), runL en (a ++ b) st = runL en b (runL en a st) := by
  intro a
  induction a with
  | nil => intro b st; rfl
  | cons x a ih => intro b st; exact ih b (stp1 en x st)
section
variable {en : Int32 → Int32} {n r t o : Nat} {T : Nat → Int32}
/-- read so far, from st0 on: the steps that came, and what they come to -/
def AcS (en : Int32 → Int32) (n r : Nat) (T : Nat → Int32) (t o : Nat) (I0 : WI) (s0 st0 st : Nat) (I J : WI) (L : WL) (v : Int32) : Prop :=
  ∃ s cs, NF en n r T t o st s I J L ∧ s + st0 ≤ st + s0 ∧ s = s0 + cs.length ∧ (∀ k, k < s0 → I (t + 1) k = I0 (t + 1) k) ∧ (∀ k, k < cs.length → I (t + 1) (s0 + k) = cs.getD k 0) ∧ ∀ R, runL en cs R = v :: R
def Ac (en : Int32 → Int32) (n r : Nat) (T : Nat → Int32) (t o : Nat) (I0 : WI) (s0 st0 : Nat) (I J : WI) (L : WL) (v : Int32) : Prop := ∃ st, st0 < st ∧ AcS en n r T t o I0 s0 st0 st I J L v
def Rs (en : Int32 → Int32) (n r : Nat) (T : Nat → Int32) (t o : Nat) (I0 : WI) (s0 st0 : Nat) (I : WI) (q : Int32 × WI × WL) : Prop := FTs t I q.2.1 ∨ Ac en n r T t o I0 s0 st0 I q.2.1 q.2.2 q.1
def Sim (en : Int32 → Int32) (n r : Nat) (T : Nat → Int32) (t o : Nat) (c : WI → WI) (gc : WI → Prop) (f : WI → WL → Int32 × WI × WL) (gf : WI → WL → Prop) : Prop :=
  ∀ I J L st s, NF en n r T t o st s I J L → s ≤ st → gc I ∧ gf J L ∧ Rs en n r T t o I s st (c I) (f J L)
theorem getD_app {a b : List Int32} {k : Nat} : (a ++ b).getD k 0 = if k < a.length then a.getD k 0 else b.getD (k - a.length) 0 := by
  rw [List.getD_eq_getElem?_getD, List.getD_eq_getElem?_getD, List.getD_eq_getElem?_getD]
  by_cases h : k < a.length
  · rw [if_pos h, List.getElem?_append_left h]
  · rw [if_neg h, List.getElem?_append_right (by omega)]
/-- more steps behind those that came: an operand, then what joins it -/
theorem AcS_more {I0 I1 I2 J2 : WI} {L2 : WL} {s0 st0 st st1 st2 s1 : Nat} {v w u op : Int32} {cs1 : List Int32} (ht : 45 ≤ t ∧ t ≤ 55) (h0 : s0 ≤ st0)
    (a1 : s1 + st0 ≤ st + s0) (a2 : s1 = s0 + cs1.length) (a3 : ∀ k, k < s0 → I1 (t + 1) k = I0 (t + 1) k) (a4 : ∀ k, k < cs1.length → I1 (t + 1) (s0 + k) = cs1.getD k 0) (a5 : ∀ R, runL en cs1 R = v :: R)
    (hst : st < st1) (h : AcS en n r T t o I1 s1 st1 st2 I2 J2 L2 w) (hst2 : st1 < st2) (hop : ∀ R, stp1 en op (w :: v :: R) = u :: R) :
    g_81 I2 t ∧ AcS en n r T t o I0 s0 st0 st2 (v_81 I2 t op) J2 L2 u := by
  obtain ⟨s2, cs2, b1, b2, b3, b4, b5, b6⟩ := h
  have hn := b1.2.2.1.1
  have h160 := b1.1.1
  obtain ⟨c1, c2, c3, c4⟩ := addS ht b1 (show s2 < 160 by omega) op
  refine ⟨c1, s2 + 1, cs1 ++ cs2 ++ [op], c2, by omega, ?_, fun k hk => ?_, fun k hk => ?_, fun R => ?_⟩
  · rw [List.length_append, List.length_append]; show s2 + 1 = s0 + (cs1.length + cs2.length + 1); omega
  · rw [c3, if_neg (by omega), b4 k (by omega)]; exact a3 k hk
  · rw [List.length_append, List.length_append] at hk
    have hk : k < cs1.length + cs2.length + 1 := hk
    rw [c3, getD_app, List.length_append, getD_app]
    by_cases z : k < cs1.length
    · rw [if_neg (by omega), if_pos (by omega), if_pos z, b4 (s0 + k) (by omega)]; exact a4 k z
    · by_cases y : k < cs1.length + cs2.length
      · rw [if_neg (by omega), if_pos y, if_neg z, ← b5 (k - cs1.length) (by omega), show s1 + (k - cs1.length) = s0 + k by omega]
      · rw [if_pos (by omega), if_neg y, show k - (cs1.length + cs2.length) = 0 by omega]; rfl
  · rw [runL_app, runL_app, a5, b6]
    exact hop R
/-- a row of operands, one joined after the other -/
theorem loopS {c : WI → WI} {gc : WI → Prop} {f : WI → WL → Int32 × WI × WL} {gf : WI → WL → Prop} (ht : 45 ≤ t ∧ t ≤ 55) (sim : Sim en n r T t o c gc f gf)
    {lc : Nat → Int32 → WI → WI} {glc : Nat → Int32 → WI → Prop} {lr : Nat → Int32 → WI → WL → Int32 × WI × WL} {glr : Nat → Int32 → WI → WL → Prop} {tok : WI → Prop} {tokR gt : WI → WL → Prop} {op : WI → Int32} {jn : WL → Int32 → Int32 → Int32}
    (hc1 : ∀ k x I, ¬ (160 : Int32) ≤ x → tok I → lc (k + 1) x I = lc k (x + 1) (v_81 (c (v_85 I)) t (op I))) (hc0 : ∀ k x I, ¬ tok I → lc (k + 1) x I = I)
    (hg1 : ∀ k x I, (tok I → g_85 I ∧ gc (v_85 I) ∧ g_81 (c (v_85 I)) t ∧ glc k (x + 1) (v_81 (c (v_85 I)) t (op I))) → glc (k + 1) x I)
    (hr1 : ∀ k v J L, tokR J L → lr (k + 1) v J L = lr k (jn L v (f (v_194 J L).1 (v_194 J L).2).1) (f (v_194 J L).1 (v_194 J L).2).2.1 (f (v_194 J L).1 (v_194 J L).2).2.2) (hr0 : ∀ k v J L, ¬ tokR J L → lr (k + 1) v J L = (v, J, L))
    (hgr : ∀ k v J L, gt J L → (tokR J L → g_194 J L ∧ gf (v_194 J L).1 (v_194 J L).2 ∧ glr k (jn L v (f (v_194 J L).1 (v_194 J L).2).1) (f (v_194 J L).1 (v_194 J L).2).2.1 (f (v_194 J L).1 (v_194 J L).2).2.2) → glr (k + 1) v J L)
    (hT : ∀ st s I J L, NF en n r T t o st s I J L → (tok I ∧ tokR J L ∧ nxt n st I J ∧ ∀ a b R, stp1 en (op I) (b :: a :: R) = jn L a b :: R) ∨ (¬ tok I ∧ ¬ tokR J L))
    (hF : ∀ I J L, FTs t I J → ¬ tok I ∧ ¬ tokR J L ∧ gt J L) (hgt : ∀ st s I J L, NF en n r T t o st s I J L → gt J L) {I0 : WI} {s0 st0 : Nat} (h0 : s0 ≤ st0) :
    (∀ k m x v I J L, FTs t I J → glc (k + 1) x I ∧ glr (m + 1) v J L ∧ Rs en n r T t o I0 s0 st0 (lc (k + 1) x I) (lr (m + 1) v J L)) ∧
    ∀ d st kc kr x v I J L, n - st ≤ d → d < kc → d < kr → x ≤ st → st0 < st → AcS en n r T t o I0 s0 st0 st I J L v → glc kc (nI x) I ∧ glr kr v J L ∧ Rs en n r T t o I0 s0 st0 (lc kc (nI x) I) (lr kr v J L) := by
  have fault : ∀ k m x v I J L, FTs t I J → glc (k + 1) x I ∧ glr (m + 1) v J L ∧ Rs en n r T t o I0 s0 st0 (lc (k + 1) x I) (lr (m + 1) v J L) := by
    intro k m x v I J L h
    obtain ⟨f1, f2, f3⟩ := hF I J L h
    refine ⟨hg1 k x I (fun q => absurd q f1), hgr m v J L f3 (fun q => absurd q f2), Or.inl ?_⟩
    rw [hc0 k x I f1, hr0 m v J L f2]
    exact h
  refine ⟨fault, ?_⟩
  intro d
  induction d with
  | zero =>
    intro st kc kr x v I J L hd hkc hkr hx hst h
    obtain ⟨kc, rfl⟩ : ∃ q, kc = q + 1 := ⟨kc - 1, by omega⟩
    obtain ⟨kr, rfl⟩ : ∃ q, kr = q + 1 := ⟨kr - 1, by omega⟩
    have h' := h
    obtain ⟨s, cs, b1, -⟩ := h
    rcases hT st s I J L b1 with ⟨-, -, ⟨e, e1, e2, -⟩, -⟩ | ⟨t1, t2⟩
    · omega
    · refine ⟨hg1 kc _ I (fun q => absurd q t1), hgr kr v J L (hgt st s I J L b1) (fun q => absurd q t2), Or.inr ?_⟩
      rw [hc0 kc _ I t1, hr0 kr v J L t2]
      exact ⟨st, hst, h'⟩
  | succ d ih =>
    intro st kc kr x v I J L hd hkc hkr hx hst h
    obtain ⟨kc, rfl⟩ : ∃ q, kc = q + 1 := ⟨kc - 1, by omega⟩
    obtain ⟨kr, rfl⟩ : ∃ q, kr = q + 1 := ⟨kr - 1, by omega⟩
    have h' := h
    obtain ⟨s, cs, b1, b2, b3, b4, b5, b6⟩ := h
    have h160 := b1.1.1
    rcases hT st s I J L b1 with ⟨t1, t2, t3, t4⟩ | ⟨t1, t2⟩
    · have t3' := t3
      obtain ⟨e, e1, e2, -⟩ := t3'
      obtain ⟨g1, g2, st', s1, s2, s3⟩ := adv ht b1 t3
      obtain ⟨m1, m2, m3⟩ := sim _ _ _ st' s s2 (by omega)
      have hx160 : ¬ (160 : Int32) ≤ nI x := fun q => by
        have := (nI_leI (a := 160) (b := x) (by omega) (by omega)).mp q
        omega
      rw [hc1 kc _ I hx160 t1, hr1 kr v J L t2, nI_1]
      rcases m3 with m3 | ⟨st'', u1, u2⟩
      · obtain ⟨w1, w2⟩ := addF ht m3 (op I)
        obtain ⟨kc, rfl⟩ : ∃ q, kc = q + 1 := ⟨kc - 1, by omega⟩
        obtain ⟨kr, rfl⟩ : ∃ q, kr = q + 1 := ⟨kr - 1, by omega⟩
        obtain ⟨z1, z2, z3⟩ := fault kc kr (nI (x + 1)) (jn L v (f (v_194 J L).1 (v_194 J L).2).1) _ _ (f (v_194 J L).1 (v_194 J L).2).2.2 w2
        exact ⟨hg1 _ _ I (fun _ => ⟨g1, m1, w1, by rw [nI_1]; exact z1⟩), hgr _ v J L (hgt st s I J L b1) (fun _ => ⟨g2, m2, z2⟩), z3⟩
      · obtain ⟨w1, w2⟩ := AcS_more (I0 := I0) (I1 := v_85 I) (s0 := s0) (st0 := st0) (st := st) (s1 := s) (v := v) (op := op I) (cs1 := cs) ht h0 b2 b3 (fun k hk => (s3 k).trans (b4 k hk)) (fun k hk => (s3 _).trans (b5 k hk)) b6 s1 u2 u1 (fun R => t4 v _ R)
        obtain ⟨z1, z2, z3⟩ := ih st'' kc kr (x + 1) (jn L v (f (v_194 J L).1 (v_194 J L).2).1) _ _ _ (by omega) (by omega) (by omega) (by omega) (by omega) w2
        exact ⟨hg1 _ _ I (fun _ => ⟨g1, m1, w1, by rw [nI_1]; exact z1⟩), hgr _ v J L (hgt st s I J L b1) (fun _ => ⟨g2, m2, z2⟩), z3⟩
    · refine ⟨hg1 kc _ I (fun q => absurd q t1), hgr kr v J L (hgt st s I J L b1) (fun q => absurd q t2), Or.inr ?_⟩
      rw [hc0 kc _ I t1, hr0 kr v J L t2]
      exact ⟨st, hst, h'⟩
end
end
