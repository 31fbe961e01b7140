section
variable {b nv nc tc : Nat} {I J : WI}
/-! bits, read by shifting; what one can be apart from another -/
theorem shb {m v : Nat} (hm : m < 4096) (h : v < 12) : (nI m >>> (nI v &&& 31)) &&& 1 = if m.testBit v then 1 else 0 := by
  have key : ∀ v, v < 12 → ∀ a, a < 64 → ∀ b, b < 64 → (nI (64 * a + b) >>> (nI v &&& 31)) &&& 1 = (if (64 * a + b).testBit v then 1 else 0 : Int32) := by decide +kernel
  have e := key v h (m / 64) (by omega) (m % 64) (by omega)
  rw [show 64 * (m / 64) + m % 64 = m by omega] at e
  exact e
theorem shb_1 {m v : Nat} (hm : m < 4096) (h : v < 12) : ((nI m >>> (nI v &&& 31)) &&& 1 = 1) ↔ m.testBit v = true := by
  rw [shb hm h]
  cases m.testBit v <;> decide
theorem shb_0 {m v : Nat} (hm : m < 4096) (h : v < 12) : ((nI m >>> (nI v &&& 31)) &&& 1 = 0) ↔ m.testBit v = false := by
  rw [shb hm h]
  cases m.testBit v <;> decide
theorem v111_0 {m v : Nat} (hm : m < 4096) (h : v < 12) : (v_111 (nI m) (nI v) = 0) ↔ m.testBit v = false := by
  rw [v111_eq hm h]
  cases m.testBit v <;> decide
theorem sh0 {v : Nat} (h : v < 12) : (0 : Int32) <<< (nI v &&& 31) = 0 := by
  match v, h with
  | 0, _ | 1, _ | 2, _ | 3, _ | 4, _ | 5, _ | 6, _ | 7, _ | 8, _ | 9, _ | 10, _ | 11, _ => decide
theorem mul_bt {x y : Int32} {A B : Int} (hx : bt 0 A x) (hy : bt 0 B y) (h : A * B ≤ 2147483647) : (x * y).toInt = x.toInt * y.toInt ∧ bt 0 (A * B) (x * y) := by
  have h1 := Int.mul_nonneg hx.1 hy.1
  have h2 : x.toInt * y.toInt ≤ A * B := Int.mul_le_mul hx.2 hy.2 hy.1 (Int.le_trans hx.1 hx.2)
  have e := ti_mul (a := x) (b := y) (by omega) (by omega)
  exact ⟨e, by unfold bt; rw [e]; exact ⟨h1, h2⟩⟩
theorem bt_w {x : Int32} {A B C D : Int} (h : bt A B x) (h1 : C ≤ A) (h2 : B ≤ D) : bt C D x := ⟨Int.le_trans h1 h.1, Int.le_trans h.2 h2⟩
theorem far_bt {x y : Int32} (hx : bt (-999) 999 x) (hy : bt (-999) 999 y) : bt 0 1998 (v_184 x y) := by
  obtain ⟨h1, h2⟩ := hx
  obtain ⟨h3, h4⟩ := hy
  unfold v_184 bt
  simp only [Int32.le_iff_toInt_le]
  split
  · rw [ti_sub (by omega) (by omega)]; omega
  · rw [ti_sub (by omega) (by omega)]; omega
theorem far_sym {x y : Int32} : v_184 x y = v_184 y x := by
  unfold v_184
  simp only [Int32.le_iff_toInt_le]
  by_cases h : x.toInt ≤ y.toInt
  · rw [if_pos h]
    by_cases g : y.toInt ≤ x.toInt
    · rw [if_pos g, show x = y from Int32.toInt_inj.mp (by omega)]
    · rw [if_neg g]
  · rw [if_neg h, if_pos (by omega)]
/-- what is above the slack -/
theorem above_bt {d s : Int32} (hd : bt 0 1998 d) (hs : bt 0 99 s) : bt 0 1998 (if d ≤ s then 0 else d - s) := by
  obtain ⟨h1, h2⟩ := hd
  obtain ⟨h3, h4⟩ := hs
  simp only [Int32.le_iff_toInt_le]
  split
  · exact ⟨by decide, by decide⟩
  · unfold bt
    rw [ti_sub (by omega) (by omega)]; omega
theorem term_bt (hA : kA b I J) {i : Nat} (hi : i < 3) {d : Int32} (hd : bt 0 1998 d) : bt 0 35928036 (v_186 J d (nI i)) := by
  obtain ⟨-, -, c2, -, -, c5⟩ := hA
  have ew : (4 + nI i).toNatClampNeg = 4 + i := by rw [show (4 : Int32) = nI 4 from rfl, nI_add, cl (by omega)]
  have hw := c5 i hi
  have hp : bt 0 1998 (if v_187 J = 0 then d else v_188 J d) := by
    split
    · exact hd
    · exact above_bt hd c2
  unfold v_186
  simp only [bx]
  rw [ew]
  revert hp
  generalize (if v_187 J = 0 then d else v_188 J d) = p
  intro hp
  have hs := (mul_bt hp hp (by decide)).2
  have hq := (mul_bt hs (bt_w hw (by decide) (Int.le_refl _)) (by decide)).2
  split
  · exact bt_w hp (by decide) (by decide)
  · split
    · split
      · exact bt_w hq (by decide) (by decide)
      · exact bt_w hs (by decide) (by decide)
    · exact bt_w hp (by decide) (by decide)
/-- of blocks and of the most, the terms are the differences -/
theorem term_d {i d : Int32} (h : J 78 3 = 2 ∨ J 78 3 = 4) : v_186 J d i = d := by
  have e : v_187 J = 0 := by
    unfold v_187
    rcases h with h | h <;> rw [h] <;> decide
  unfold v_186
  simp only [bx, if_pos e]
  rcases h with h | h
  · rw [if_pos h]
  · rw [if_neg (by rw [h]; decide), if_neg (by rw [h]; decide)]
theorem add_bt {x y : Int32} {A B : Int} (hx : bt 0 A x) (hy : bt 0 B y) (h : A + B ≤ 2147483647) : (x + y).toInt = x.toInt + y.toInt ∧ bt 0 (A + B) (x + y) := by
  obtain ⟨h1, h2⟩ := hx
  obtain ⟨h3, h4⟩ := hy
  have e := ti_add (a := x) (b := y) (by omega) (by omega)
  exact ⟨e, by unfold bt; rw [e]; omega⟩
theorem max_bt {x y : Int32} {A B : Int} (hx : bt B A x) (hy : bt B A y) : bt B A (if x ≤ y then y else x) := by
  split
  · exact hy
  · exact hx
theorem meas_bt (hA : kA b I J) {d e f : Int32} (hd : bt 0 1998 d) (he : bt 0 1998 e) (hf : bt 0 1998 f) : bt 0 107784108 (v_185 J d e f) := by
  have a1 : bt 0 35928036 (v_186 J d 0) := term_bt hA (i := 0) (by omega) hd
  have a2 : bt 0 35928036 (v_186 J e 1) := term_bt hA (i := 1) (by omega) he
  have a3 : bt 0 35928036 (v_186 J f 2) := term_bt hA (i := 2) (by omega) hf
  have s1 := (add_bt a1 a2 (by decide)).2
  have s2 := (add_bt s1 a3 (by decide)).2
  have hc := hA.2.2.2.1
  unfold v_185
  split
  · split
    · split
      · exact bt_w s2 (by decide) (by decide)
      · split
        · exact bt_w s2 (by decide) (by decide)
        · exact bt_w hc (by decide) (by decide)
    · rename_i h
      have h2 : J 78 3 = 2 := Classical.not_not.mp h
      have q1 := (add_bt hd he (by decide)).2
      have q2 := (add_bt q1 hf (by decide)).2
      rw [term_d (Or.inl h2), term_d (Or.inl h2), term_d (Or.inl h2)]
      exact bt_w (mul_bt (x := 4) (A := 4) ⟨by decide, by decide⟩ q2 (by decide)).2 (by decide) (by decide)
  · rename_i h
    have h2 : J 78 3 = 4 := Classical.not_not.mp h
    rw [term_d (Or.inr h2), term_d (Or.inr h2), term_d (Or.inr h2)]
    simp only [bx]
    have m1 := max_bt (max_bt hd he) hf
    have m2 := (mul_bt (x := 4) (A := 4) ⟨by decide, by decide⟩ m1 (by decide)).2
    exact bt_w (add_bt (y := 1) (B := 1) m2 ⟨by decide, by decide⟩ (by decide)).2 (by decide) (by decide)
theorem betw_bt (hA : kA b I J) (hP : kP b I J) {v w : Nat} (hv : v < 12) (hw : w < 12) : bt 0 107784108 (v_183 J (nI v) (nI w)) := by
  unfold v_183
  simp only [bx, n30, nI_1, nI_2, cl (show 3 * v < 2 ^ 31 by omega), cl (show 3 * v + 1 < 2 ^ 31 by omega), cl (show 3 * v + 2 < 2 ^ 31 by omega), cl (show 3 * w < 2 ^ 31 by omega), cl (show 3 * w + 1 < 2 ^ 31 by omega), cl (show 3 * w + 2 < 2 ^ 31 by omega)]
  exact meas_bt hA (far_bt (hP _ (by omega)).2 (hP _ (by omega)).2) (far_bt (hP _ (by omega)).2 (hP _ (by omega)).2) (far_bt (hP _ (by omega)).2 (hP _ (by omega)).2)
theorem betw_sym {v w : Int32} : v_183 J v w = v_183 J w v := by
  unfold v_183
  simp only [bx]
  rw [far_sym (x := J 84 (3 * v).toNatClampNeg), far_sym (x := J 84 (3 * v + 1).toNatClampNeg), far_sym (x := J 84 (3 * v + 2).toNatClampNeg)]
end
