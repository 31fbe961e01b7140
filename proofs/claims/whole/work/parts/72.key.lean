section
/-! the key of what the reference keeps -/
theorem tl_add {a b : Int64} (h1 : -9223372036854775808 ≤ a.toInt + b.toInt) (h2 : a.toInt + b.toInt ≤ 9223372036854775807) : (a + b).toInt = a.toInt + b.toInt := by
  rw [Int64.toInt_add]; exact Int.bmod_eq_of_le (by omega) (by omega)
theorem tl_mul {a b : Int64} (h1 : -9223372036854775808 ≤ a.toInt * b.toInt) (h2 : a.toInt * b.toInt ≤ 9223372036854775807) : (a * b).toInt = a.toInt * b.toInt := by
  rw [Int64.toInt_mul]; exact Int.bmod_eq_of_le (by omega) (by omega)
theorem ky1 {k a c d : Int64} {K A C D : Int} (hk : k.toInt = K) (ha : a.toInt = A) (hc : c.toInt = C) (hd : d.toInt = D) (h1 : 0 ≤ K * C) (h2 : K * C ≤ 1000000000000000000) (h3 : -2000 ≤ A) (h4 : A ≤ 2000) (h5 : 0 ≤ D) (h6 : D ≤ 2000) : (k * c + a + d).toInt = K * C + A + D := by
  have e1 : (k * c).toInt = K * C := by rw [tl_mul (by rw [hk, hc]; omega) (by rw [hk, hc]; omega), hk, hc]
  have e2 : (k * c + a).toInt = K * C + A := by rw [tl_add (by rw [e1, ha]; omega) (by rw [e1, ha]; omega), e1, ha]
  rw [tl_add (by rw [e2, hd]; omega) (by rw [e2, hd]; omega), e2, hd]
theorem ky0 {k a c : Int64} {K A C : Int} (hk : k.toInt = K) (ha : a.toInt = A) (hc : c.toInt = C) (h1 : 0 ≤ K * C) (h2 : K * C ≤ 1000000000000000000) (h3 : -2000 ≤ A) (h4 : A ≤ 2000) : (k * c + a).toInt = K * C + A := by
  have e1 : (k * c).toInt = K * C := by rw [tl_mul (by rw [hk, hc]; omega) (by rw [hk, hc]; omega), hk, hc]
  rw [tl_add (by rw [e1, ha]; omega) (by rw [e1, ha]; omega), e1, ha]
def keyF (r w x y z g v c : Int32) : Int64 := ((((((((((((((((((((Int32.toInt64 r) * 2) + (Int32.toInt64 w)) * 2048) + (Int32.toInt64 x)) + 1000) * 2048) + (Int32.toInt64 y)) + 1000) * 2048) + (Int32.toInt64 z)) + 1000) * 256) + (Int32.toInt64 g)) + 100) * 16) + (Int32.toInt64 v)) * 8) + (Int32.toInt64 c)) + 2)
/-- within what a key can hold -/
def okKey (r w x y z g v c : Int32) : Prop := bt 0 5 r ∧ bt 0 1 w ∧ bt (-999) 999 x ∧ bt (-999) 999 y ∧ bt (-999) 999 z ∧ bt (-99) 99 g ∧ bt 0 11 v ∧ bt (-1) 5 c
theorem key_int {r w x y z g v c : Int32} (h : okKey r w x y z g v c) : (keyF r w x y z g v c).toInt = ((((((r.toInt * 2 + w.toInt) * 2048 + x.toInt + 1000) * 2048 + y.toInt + 1000) * 2048 + z.toInt + 1000) * 256 + g.toInt + 100) * 16 + v.toInt) * 8 + c.toInt + 2 := by
  obtain ⟨⟨r1, r2⟩, ⟨w1, w2⟩, ⟨x1, x2⟩, ⟨y1, y2⟩, ⟨z1, z2⟩, ⟨g1, g2⟩, ⟨v1, v2⟩, c1, c2⟩ := h
  have t : ∀ a : Int32, (Int32.toInt64 a).toInt = a.toInt := fun a => Int32.toInt_toInt64 a
  have a1 := ky0 (C := 2) (t r) (t w) (by decide : (2 : Int64).toInt = 2) (by omega) (by omega) (by omega) (by omega)
  have a2 := ky1 (C := 2048) (D := 1000) a1 (t x) (by decide : (2048 : Int64).toInt = 2048) (by decide : (1000 : Int64).toInt = 1000) (by omega) (by omega) (by omega) (by omega) (by omega) (by omega)
  have a3 := ky1 (C := 2048) (D := 1000) a2 (t y) (by decide : (2048 : Int64).toInt = 2048) (by decide : (1000 : Int64).toInt = 1000) (by omega) (by omega) (by omega) (by omega) (by omega) (by omega)
  have a4 := ky1 (C := 2048) (D := 1000) a3 (t z) (by decide : (2048 : Int64).toInt = 2048) (by decide : (1000 : Int64).toInt = 1000) (by omega) (by omega) (by omega) (by omega) (by omega) (by omega)
  have a5 := ky1 (C := 256) (D := 100) a4 (t g) (by decide : (256 : Int64).toInt = 256) (by decide : (100 : Int64).toInt = 100) (by omega) (by omega) (by omega) (by omega) (by omega) (by omega)
  have a6 := ky0 (C := 16) a5 (t v) (by decide : (16 : Int64).toInt = 16) (by omega) (by omega) (by omega) (by omega)
  exact ky1 (C := 8) (D := 2) a6 (t c) (by decide : (8 : Int64).toInt = 8) (by decide : (2 : Int64).toInt = 2) (by omega) (by omega) (by omega) (by omega) (by omega) (by omega)
theorem key_n0 {r w x y z g v c : Int32} (h : okKey r w x y z g v c) : ¬ keyF r w x y z g v c = 0 := by
  intro e
  have a := key_int h
  rw [e] at a
  obtain ⟨⟨r1, r2⟩, ⟨w1, w2⟩, ⟨x1, x2⟩, ⟨y1, y2⟩, ⟨z1, z2⟩, ⟨g1, g2⟩, ⟨v1, v2⟩, c1, c2⟩ := h
  have z0 : (0 : Int64).toInt = 0 := by decide
  omega
theorem key_inj {r w x y z g v c r' w' x' y' z' g' v' c' : Int32} (h : okKey r w x y z g v c) (h' : okKey r' w' x' y' z' g' v' c') (e : keyF r w x y z g v c = keyF r' w' x' y' z' g' v' c') : r = r' ∧ w = w' ∧ x = x' ∧ y = y' ∧ z = z' ∧ g = g' ∧ v = v' ∧ c = c' := by
  have a := key_int h
  rw [e, key_int h'] at a
  obtain ⟨⟨r1, r2⟩, ⟨w1, w2⟩, ⟨x1, x2⟩, ⟨y1, y2⟩, ⟨z1, z2⟩, ⟨g1, g2⟩, ⟨v1, v2⟩, c1, c2⟩ := h
  obtain ⟨⟨r1', r2'⟩, ⟨w1', w2'⟩, ⟨x1', x2'⟩, ⟨y1', y2'⟩, ⟨z1', z2'⟩, ⟨g1', g2'⟩, ⟨v1', v2'⟩, c1', c2'⟩ := h'
  have s8 : ∀ K K' A A' : Int, -1 ≤ A → A ≤ 5 → -1 ≤ A' → A' ≤ 5 → K * 8 + A + 2 = K' * 8 + A' + 2 → K = K' ∧ A = A' := fun K K' A A' _ _ _ _ _ => by omega
  have s16 : ∀ K K' A A' : Int, 0 ≤ A → A ≤ 11 → 0 ≤ A' → A' ≤ 11 → K * 16 + A = K' * 16 + A' → K = K' ∧ A = A' := fun K K' A A' _ _ _ _ _ => by omega
  have s256 : ∀ K K' A A' : Int, -99 ≤ A → A ≤ 99 → -99 ≤ A' → A' ≤ 99 → K * 256 + A + 100 = K' * 256 + A' + 100 → K = K' ∧ A = A' := fun K K' A A' _ _ _ _ _ => by omega
  have s2k : ∀ K K' A A' : Int, -999 ≤ A → A ≤ 999 → -999 ≤ A' → A' ≤ 999 → K * 2048 + A + 1000 = K' * 2048 + A' + 1000 → K = K' ∧ A = A' := fun K K' A A' _ _ _ _ _ => by omega
  have s2 : ∀ K K' A A' : Int, 0 ≤ A → A ≤ 1 → 0 ≤ A' → A' ≤ 1 → K * 2 + A = K' * 2 + A' → K = K' ∧ A = A' := fun K K' A A' _ _ _ _ _ => by omega
  obtain ⟨a, ec⟩ := s8 _ _ _ _ c1' c2' c1 c2 a
  obtain ⟨a, ev⟩ := s16 _ _ _ _ v1' v2' v1 v2 a
  obtain ⟨a, eg⟩ := s256 _ _ _ _ g1' g2' g1 g2 a
  obtain ⟨a, ez⟩ := s2k _ _ _ _ z1' z2' z1 z2 a
  obtain ⟨a, ey⟩ := s2k _ _ _ _ y1' y2' y1 y2 a
  obtain ⟨a, ex⟩ := s2k _ _ _ _ x1' x2' x1 x2 a
  obtain ⟨er, ew⟩ := s2 _ _ _ _ w1' w2' w1 w2 a
  exact ⟨Int32.toInt_inj.mp er.symm, Int32.toInt_inj.mp ew.symm, Int32.toInt_inj.mp ex.symm, Int32.toInt_inj.mp ey.symm, Int32.toInt_inj.mp ez.symm, Int32.toInt_inj.mp eg.symm, Int32.toInt_inj.mp ev.symm, Int32.toInt_inj.mp ec.symm⟩
/-- where a key is kept -/
def plc (k : Int64) : Int32 := Int64.toInt32 ((k * 7046029254386353131).toUInt64 >>> ((Int32.toInt64 55).toUInt64 &&& Int64.toUInt64 63)).toInt64
theorem plc_in (k : Int64) : ∃ h : Nat, h < 512 ∧ plc k = nI h := by
  unfold plc
  generalize (k * 7046029254386353131).toUInt64 = u
  have e : ((Int32.toInt64 55).toUInt64 &&& Int64.toUInt64 63) = 55 := by decide
  rw [e]
  have hlt : (u >>> 55).toNat < 512 := by
    rw [UInt64.toNat_shiftRight]
    show u.toNat >>> 55 < 512
    rw [Nat.shiftRight_eq_div_pow]
    have := u.toNat_lt
    omega
  refine ⟨(u >>> 55).toNat, hlt, ?_⟩
  apply Int32.toInt_inj.mp
  have h1 : (u >>> 55).toInt64.toInt = ((u >>> 55).toNat : Int) := by
    show (u >>> 55).toBitVec.toInt = _
    rw [BitVec.toInt_eq_toNat_bmod]
    show ((u >>> 55).toNat : Int).bmod (2 ^ 64) = _
    exact Int.bmod_eq_of_le (by omega) (by omega)
  rw [Int64.toInt_toInt32, h1]
  rw [show (nI (u >>> 55).toNat).toInt = ((u >>> 55).toNat : Int) from Int32.toInt_ofNat_of_lt (by omega)]
  exact Int.bmod_eq_of_le (by omega) (by omega)
end
