section
variable {b nv nc : Nat} {I J : WI}
/-! what lies outside of a span that holds a place is no farther than the place; the measure grows with its differences -/
theorem v220_le {q lo hi p : Int32} (hq : bt (-999) 999 q) (h1 : -10000 ≤ lo.toInt) (h2 : lo.toInt ≤ p.toInt) (h3 : p.toInt ≤ hi.toInt) (h4 : hi.toInt ≤ 10000) (hp : bt (-999) 999 p) : bt 0 1998 (v_220 q lo hi) ∧ (v_220 q lo hi).toInt ≤ (v_184 p q).toInt := by
  refine ⟨v220_bt hq h1 h2 h3 h4 hp.1 hp.2, ?_⟩
  have h0 := (far_bt hp hq).1
  obtain ⟨q1, q2⟩ := hq
  obtain ⟨p1, p2⟩ := hp
  have t0 : (0 : Int32).toInt = 0 := by decide
  unfold v_220
  by_cases a : lo ≤ q
  · rw [if_pos a]
    by_cases c : q ≤ hi
    · rw [if_pos c, t0]; omega
    · rw [if_neg c]
      rw [Int32.le_iff_toInt_le] at c
      have d : p ≤ q := by rw [Int32.le_iff_toInt_le]; omega
      unfold v_184
      rw [if_pos d, ti_sub (by omega) (by omega), ti_sub (by omega) (by omega)]
      omega
  · rw [if_neg a]
    rw [Int32.le_iff_toInt_le] at a
    have d : ¬ p ≤ q := by rw [Int32.le_iff_toInt_le]; omega
    unfold v_184
    rw [if_neg d, ti_sub (by omega) (by omega), ti_sub (by omega) (by omega)]
    omega
theorem cl_code {f : Int32} : ((if (-128) ≤ f then (if f ≤ 127 then f else 127) else (-128)) = (-128 : Int32) ∧ f.toInt ≤ -128) ∨ ((if (-128) ≤ f then (if f ≤ 127 then f else 127) else (-128)) = (127 : Int32) ∧ 127 ≤ f.toInt) ∨
    ((if (-128) ≤ f then (if f ≤ 127 then f else 127) else (-128)) = f ∧ -128 < f.toInt ∧ f.toInt < 127 ∧ ¬ f = -128 ∧ ¬ f = 127) := by
  have t1 : (-128 : Int32).toInt = -128 := by decide
  have t2 : (127 : Int32).toInt = 127 := by decide
  by_cases x : (-128 : Int32) ≤ f
  · rw [if_pos x]
    by_cases y : f ≤ 127
    · rw [if_pos y]
      rw [Int32.le_iff_toInt_le] at x y
      by_cases z : f = -128
      · left
        exact ⟨z, by rw [z, t1]; omega⟩
      · by_cases z2 : f = 127
        · right; left
          exact ⟨z2, by rw [z2, t2]; omega⟩
        · right; right
          have n1 : ¬ f.toInt = -128 := fun e => z (Int32.toInt_inj.mp (by omega))
          have n2 : ¬ f.toInt = 127 := fun e => z2 (Int32.toInt_inj.mp (by omega))
          exact ⟨rfl, by omega, by omega, z, z2⟩
    · rw [if_neg y]
      rw [Int32.le_iff_toInt_le] at y
      right; left
      exact ⟨rfl, by omega⟩
  · rw [if_neg x]
    rw [Int32.le_iff_toInt_le] at x
    left
    exact ⟨rfl, by omega⟩
/-- the span of a code holds the place -/
theorem span_in {p cc s : Int32} (hp : bt (-999) 999 p) (hcc : bt (-999) 999 cc) (hs : bt 1 64 s) {k : Int32} (hk : k = (if (-128) ≤ v_212 (p - cc) s then (if v_212 (p - cc) s ≤ 127 then v_212 (p - cc) s else 127) else (-128))) :
    -10000 ≤ (if ¬ k = -128 then cc + k * s else -999 : Int32).toInt ∧ (if ¬ k = -128 then cc + k * s else -999 : Int32).toInt ≤ p.toInt ∧ p.toInt ≤ (if ¬ k = 127 then ((cc + k * s) + s) - 1 else 999 : Int32).toInt ∧ (if ¬ k = 127 then ((cc + k * s) + s) - 1 else 999 : Int32).toInt ≤ 10000 := by
  obtain ⟨p1, p2⟩ := hp
  obtain ⟨c1, c2⟩ := hcc
  obtain ⟨s1, s2⟩ := hs
  have t1 : (-128 : Int32).toInt = -128 := by decide
  have t2 : (127 : Int32).toInt = 127 := by decide
  have t3 : (-999 : Int32).toInt = -999 := by decide
  have t4 : (999 : Int32).toInt = 999 := by decide
  have t5 : (1 : Int32).toInt = 1 := by decide
  have es : (p - cc).toInt = p.toInt - cc.toInt := ti_sub (by omega) (by omega)
  obtain ⟨f1, f2⟩ := flo_f (s := p - cc) (n := s) (by omega) (by omega) (by omega)
  rw [es] at f1 f2
  revert hk f1 f2
  generalize v_212 (p - cc) s = f
  intro hk f1 f2
  rcases cl_code (f := f) with ⟨e, h⟩ | ⟨e, h⟩ | ⟨e, h, h', n1, n2⟩
  · rw [e] at hk
    rw [hk]
    have m := Int.mul_le_mul_of_nonneg_right h (show 0 ≤ s.toInt by omega)
    have e1 : ((-128 : Int32) * s).toInt = -128 * s.toInt := by rw [ti_mul (by rw [t1]; omega) (by rw [t1]; omega), t1]
    have e2 : (cc + (-128 : Int32) * s).toInt = cc.toInt + -128 * s.toInt := by rw [ti_add (by omega) (by omega), e1]
    have e3 : ((cc + (-128 : Int32) * s) + s).toInt = cc.toInt + -128 * s.toInt + s.toInt := by rw [ti_add (by omega) (by omega), e2]
    have e4 : (((cc + (-128 : Int32) * s) + s) - 1).toInt = cc.toInt + -128 * s.toInt + s.toInt - 1 := by rw [ti_sub (by omega) (by omega), e3, t5]
    rw [if_neg (by decide), if_pos (by decide), e4, t3]
    generalize f.toInt * s.toInt = Q at f1 f2 m
    omega
  · rw [e] at hk
    rw [hk]
    have m := Int.mul_le_mul_of_nonneg_right h (show 0 ≤ s.toInt by omega)
    have e1 : ((127 : Int32) * s).toInt = 127 * s.toInt := by rw [ti_mul (by rw [t2]; omega) (by rw [t2]; omega), t2]
    have e2 : (cc + (127 : Int32) * s).toInt = cc.toInt + 127 * s.toInt := by rw [ti_add (by omega) (by omega), e1]
    rw [if_pos (by decide), if_neg (by decide), e2, t4]
    generalize f.toInt * s.toInt = Q at f1 f2 m
    omega
  · rw [e] at hk
    rw [hk]
    have e1 : (f * s).toInt = f.toInt * s.toInt := ti_mul (by omega) (by omega)
    have e2 : (cc + f * s).toInt = cc.toInt + f.toInt * s.toInt := by rw [ti_add (by omega) (by omega), e1]
    have e3 : ((cc + f * s) + s).toInt = cc.toInt + f.toInt * s.toInt + s.toInt := by rw [ti_add (by omega) (by omega), e2]
    have e4 : (((cc + f * s) + s) - 1).toInt = cc.toInt + f.toInt * s.toInt + s.toInt - 1 := by rw [ti_sub (by omega) (by omega), e3, t5]
    rw [if_pos n1, if_pos n2, e4, e2]
    generalize f.toInt * s.toInt = Q at f1 f2
    omega
theorem span_bt (hA : kA b I J) (hQ : kQ b I J) (hC : kC b nc I J) (hP : kP b I J) (hV : kV b nv nc I J) {v c i : Nat} (hv : v < nv) (hc : c < nc) (he : J 86 v = nI c) (hi : i < 3) : bt 0 1998 (v_219 J (nI v) (nI i)) ∧ (v_219 J (nI v) (nI i)).toInt ≤ (v_184 (J 84 (3 * v + i)) (J 79 i)).toInt := by
  have h12 := hV.1
  have h4 := hC.1
  have ev : (nI v).toNatClampNeg = v := cl (by omega)
  have k1 : 3 * nI v + nI i = nI (3 * v + i) := by rw [n30, nI_add]
  have k2 : 3 * nI c + nI i = nI (3 * c + i) := by rw [n30, nI_add]
  have p1 := (hP (3 * v + i) (by omega)).2
  have p2 := (hC.2.2.2 (3 * c + i) (by omega)).2
  have q1 := (hQ i hi).2
  obtain ⟨k, hk⟩ : ∃ k, k = v_211 J (nI v) (nI i) := ⟨_, rfl⟩
  have hk2 := hk
  unfold v_211 at hk2
  rw [ev, he, k1, k2, cl (by omega), cl (by omega)] at hk2
  obtain ⟨a1, a2, a3, a4⟩ := span_in p1 p2 hA.2.1 hk2
  unfold v_219
  simp only [bx]
  rw [← hk, ev, he, k2, cl (show i < 2 ^ 31 by omega), cl (show 3 * c + i < 2 ^ 31 by omega)]
  exact v220_le q1 a1 a2 a3 a4 p1
/-- terms grow -/
theorem trm_mono (hA : kA b I J) {d e : Int32} (hd : bt 0 1998 d) (he : bt 0 1998 e) (h : d.toInt ≤ e.toInt) : (trm J d).toInt ≤ (trm J e).toInt := by
  obtain ⟨d1, d2⟩ := hd
  obtain ⟨e1, e2⟩ := he
  obtain ⟨s1, s2⟩ := hA.2.2.1
  have t0 : (0 : Int32).toInt = 0 := by decide
  unfold trm v_188
  by_cases z : v_187 J = 0
  · rw [if_pos z, if_pos z]; exact h
  · rw [if_neg z, if_neg z]
    by_cases x : d ≤ J 78 1
    · rw [if_pos x]
      by_cases y : e ≤ J 78 1
      · rw [if_pos y]; omega
      · rw [if_neg y]
        rw [Int32.le_iff_toInt_le] at y
        rw [ti_sub (by omega) (by omega), t0]; omega
    · rw [Int32.le_iff_toInt_le] at x
      have y : ¬ e ≤ J 78 1 := by rw [Int32.le_iff_toInt_le]; omega
      rw [if_neg (by rw [Int32.le_iff_toInt_le]; exact x), if_neg y, ti_sub (by omega) (by omega), ti_sub (by omega) (by omega)]
      omega
theorem term_mono (hA : kA b I J) {i : Nat} (hi : i < 3) {d e : Int32} (hd : bt 0 1998 d) (he : bt 0 1998 e) (h : d.toInt ≤ e.toInt) : (v_186 J d (nI i)).toInt ≤ (v_186 J e (nI i)).toInt := by
  have m := trm_mono hA hd he h
  have b1 := trm_bt hA hd
  have b2 := trm_bt hA he
  obtain ⟨-, -, -, -, -, c5⟩ := hA
  have ew : (4 + nI i).toNatClampNeg = 4 + i := by rw [show (4 : Int32) = nI 4 from rfl, nI_add, cl (by omega)]
  have hw := c5 i hi
  unfold v_186
  simp only [bx]
  rw [ew]
  unfold trm at m b1 b2
  revert m b1 b2
  generalize (if v_187 J = 0 then d else v_188 J d) = p
  generalize (if v_187 J = 0 then e else v_188 J e) = q
  intro m b1 b2
  obtain ⟨x1, y1⟩ := mul_bt b1 b1 (by decide)
  obtain ⟨x2, y2⟩ := mul_bt b2 b2 (by decide)
  have hw0 := bt_w hw (show (0 : Int) ≤ 1 by decide) (Int.le_refl _)
  obtain ⟨x3, y3⟩ := mul_bt y1 hw0 (by decide)
  obtain ⟨x4, y4⟩ := mul_bt y2 hw0 (by decide)
  have sq : (p * p).toInt ≤ (q * q).toInt := by
    rw [x1, x2]
    exact Int.mul_le_mul m m b1.1 b2.1
  split
  · exact m
  · split
    · split
      · rw [x3, x4]
        exact Int.mul_le_mul_of_nonneg_right sq hw0.1
      · exact sq
    · exact m
theorem meas_mono (hA : kA b I J) {d e f d' e' f' : Int32} (hd : bt 0 1998 d) (he : bt 0 1998 e) (hf : bt 0 1998 f) (hd' : bt 0 1998 d') (he' : bt 0 1998 e') (hf' : bt 0 1998 f') (h1 : d.toInt ≤ d'.toInt) (h2 : e.toInt ≤ e'.toInt) (h3 : f.toInt ≤ f'.toInt) : (v_185 J d e f).toInt ≤ (v_185 J d' e' f').toInt := by
  have m1 : (v_186 J d 0).toInt ≤ (v_186 J d' 0).toInt := term_mono hA (i := 0) (by omega) hd hd' h1
  have m2 : (v_186 J e 1).toInt ≤ (v_186 J e' 1).toInt := term_mono hA (i := 1) (by omega) he he' h2
  have m3 : (v_186 J f 2).toInt ≤ (v_186 J f' 2).toInt := term_mono hA (i := 2) (by omega) hf hf' h3
  have a1 : bt 0 35928036 (v_186 J d 0) := term_bt hA (i := 0) (by omega) hd
  have a2 : bt 0 35928036 (v_186 J e 1) := term_bt hA (i := 1) (by omega) he
  have a3 : bt 0 35928036 (v_186 J f 2) := term_bt hA (i := 2) (by omega) hf
  have b1 : bt 0 35928036 (v_186 J d' 0) := term_bt hA (i := 0) (by omega) hd'
  have b2 : bt 0 35928036 (v_186 J e' 1) := term_bt hA (i := 1) (by omega) he'
  have b3 : bt 0 35928036 (v_186 J f' 2) := term_bt hA (i := 2) (by omega) hf'
  have t1 : (1 : Int32).toInt = 1 := by decide
  have t4 : (4 : Int32).toInt = 4 := by decide
  have hc := hA.2.2.2.1
  unfold v_185
  by_cases z4 : J 78 3 = 4
  · have z : ¬ ¬ J 78 3 = 4 := fun w => w z4
    rw [if_neg z, if_neg z]
    simp only [bx]
    rw [term_d (Or.inr z4), term_d (Or.inr z4), term_d (Or.inr z4), term_d (Or.inr z4), term_d (Or.inr z4), term_d (Or.inr z4)]
    have q1 := max_bt (max_bt hd he) hf
    have q2 := max_bt (max_bt hd' he') hf'
    have q3 : (if (if d ≤ e then e else d) ≤ f then f else (if d ≤ e then e else d)).toInt ≤ (if (if d' ≤ e' then e' else d') ≤ f' then f' else (if d' ≤ e' then e' else d')).toInt := by
      simp only [Int32.le_iff_toInt_le]
      by_cases x : d.toInt ≤ e.toInt
      · rw [if_pos x]
        by_cases x' : d'.toInt ≤ e'.toInt
        · rw [if_pos x']
          split <;> split <;> omega
        · rw [if_neg x']
          split <;> split <;> omega
      · rw [if_neg x]
        by_cases x' : d'.toInt ≤ e'.toInt
        · rw [if_pos x']
          split <;> split <;> omega
        · rw [if_neg x']
          split <;> split <;> omega
    revert q1 q2 q3
    generalize (if (if d ≤ e then e else d) ≤ f then f else (if d ≤ e then e else d)) = g
    generalize (if (if d' ≤ e' then e' else d') ≤ f' then f' else (if d' ≤ e' then e' else d')) = g'
    intro q1 q2 q3
    obtain ⟨q1, q1'⟩ := q1
    obtain ⟨q2, q2'⟩ := q2
    have w1 : (4 * g).toInt = 4 * g.toInt := by rw [ti_mul (by rw [t4]; omega) (by rw [t4]; omega), t4]
    have w2 : (4 * g').toInt = 4 * g'.toInt := by rw [ti_mul (by rw [t4]; omega) (by rw [t4]; omega), t4]
    rw [ti_add (by omega) (by omega), ti_add (by omega) (by omega), w1, w2]
    omega
  · rw [if_pos z4, if_pos z4]
    by_cases z2 : J 78 3 = 2
    · have z : ¬ ¬ J 78 3 = 2 := fun w => w z2
      rw [if_neg z, if_neg z]
      rw [term_d (Or.inl z2), term_d (Or.inl z2), term_d (Or.inl z2), term_d (Or.inl z2), term_d (Or.inl z2), term_d (Or.inl z2)]
      obtain ⟨d1, d2⟩ := hd
      obtain ⟨e1, e2⟩ := he
      obtain ⟨f1, f2⟩ := hf
      obtain ⟨d3, d4⟩ := hd'
      obtain ⟨e3, e4⟩ := he'
      obtain ⟨f3, f4⟩ := hf'
      have w1 : (d + e).toInt = d.toInt + e.toInt := ti_add (by omega) (by omega)
      have w2 : (d' + e').toInt = d'.toInt + e'.toInt := ti_add (by omega) (by omega)
      have w3 : (d + e + f).toInt = d.toInt + e.toInt + f.toInt := by rw [ti_add (by omega) (by omega), w1]
      have w4 : (d' + e' + f').toInt = d'.toInt + e'.toInt + f'.toInt := by rw [ti_add (by omega) (by omega), w2]
      rw [ti_mul (by rw [t4, w3]; omega) (by rw [t4, w3]; omega), ti_mul (by rw [t4, w4]; omega) (by rw [t4, w4]; omega), w3, w4, t4]
      omega
    · rw [if_pos z2, if_pos z2]
      obtain ⟨s1, r1⟩ := add_bt a1 a2 (by decide)
      obtain ⟨s2, r2⟩ := add_bt r1 a3 (by decide)
      obtain ⟨s3, r3⟩ := add_bt b1 b2 (by decide)
      obtain ⟨s4, r4⟩ := add_bt r3 b3 (by decide)
      have le : (v_186 J d 0 + v_186 J e 1 + v_186 J f 2).toInt ≤ (v_186 J d' 0 + v_186 J e' 1 + v_186 J f' 2).toInt := by omega
      by_cases z5 : J 78 3 = 5
      · have z : ¬ ¬ J 78 3 = 5 := fun w => w z5
        rw [if_neg z, if_neg z]
        simp only [Int32.le_iff_toInt_le]
        split <;> split <;> omega
      · rw [if_pos z5, if_pos z5]
        exact le
/-- what is told low of lesser differences is not above what is told high of a number that is no less than the measure -/
theorem low_snd (hA : kA b I J) {d e f d' e' f' n : Int32} (hd : bt 0 1998 d) (he : bt 0 1998 e) (hf : bt 0 1998 f) (hd' : bt 0 1998 d') (he' : bt 0 1998 e') (hf' : bt 0 1998 f') (h1 : d.toInt ≤ d'.toInt) (h2 : e.toInt ≤ e'.toInt) (h3 : f.toInt ≤ f'.toInt)
    (hn : (v_185 J d' e' f').toInt ≤ n.toInt) (hn2 : n.toInt ≤ 107784300) : ¬ FP.fcmp (v_221 J d e f) (v_190 n) = some .gt := by
  have m := meas_mono hA hd he hf hd' he' hf' h1 h2 h3
  obtain ⟨-, -, -, w, W, X, e1, e2, e3, e4, e5⟩ := low_all hA hd he hf
  have h0 := (meas_bt hA hd he hf).1
  rw [e1]
  unfold v_190
  refine lo_hi (W := W) (N := n.toInt.toNat) e2 (by omega) (by omega) ?_
  unfold okW at e5
  have hX : X ≤ n.toInt.toNat := by omega
  have dvX := dv X
  have dvN := dv n.toInt.toNat
  have : X - X / 8388608 ≤ n.toInt.toNat - n.toInt.toNat / 8388608 := by omega
  exact Nat.le_trans e5 (Nat.mul_le_mul_right _ this)
end
