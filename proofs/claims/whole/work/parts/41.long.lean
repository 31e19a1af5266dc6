/-! ===== long numbers as sets of forty ===== -/
theorem n64 {n : Nat} (h : n < 2 ^ 63) : (Int64.ofNat n).toBitVec.toNat = n := by show n % 2 ^ 64 = n; omega
theorem t64 {n : Nat} (h : n < 2 ^ 63) : (Int64.ofNat n).toInt = (n : Int) := Int64.toInt_ofNat_of_lt h
theorem I6_nat (n : Nat) : I6 (n : Int) = Int64.ofNat n := rfl
theorem wl_n {n : Nat} (h : n < 2 ^ 63) : wl (n : Int) = (n : Int) := by unfold wl; rw [I6_nat, t64 h]
theorem l_and {a b : Nat} (ha : a < 2 ^ 63) (hb : b < 2 ^ 63) : land64 (a : Int) (b : Int) = ((a &&& b : Nat) : Int) := by
  have hl : a &&& b < 2 ^ 63 := Nat.lt_of_le_of_lt Nat.and_le_left ha
  unfold land64
  rw [I6_nat, I6_nat, ← t64 hl]
  congr 1
  apply Int64.toBitVec_inj.mp
  apply BitVec.eq_of_toNat_eq
  rw [Int64.toBitVec_and, BitVec.toNat_and, n64 ha, n64 hb, n64 hl]
theorem l_or {a b : Nat} (ha : a < 2 ^ 63) (hb : b < 2 ^ 63) : lor64 (a : Int) (b : Int) = ((a ||| b : Nat) : Int) := by
  have hl : a ||| b < 2 ^ 63 := Nat.or_lt_two_pow ha hb
  unfold lor64
  rw [I6_nat, I6_nat, ← t64 hl]
  congr 1
  apply Int64.toBitVec_inj.mp
  apply BitVec.eq_of_toNat_eq
  rw [Int64.toBitVec_or, BitVec.toNat_or, n64 ha, n64 hb, n64 hl]
theorem k_u : ∀ k : Nat, k < 64 → (((nI k).toInt64.toUInt64 &&& Int64.toUInt64 63).toBitVec % 64).toNat = k := by decide +kernel
theorem k_s : ∀ k : Nat, k < 64 → (((nI k).toInt64 &&& 63).toBitVec.smod 64).toNat = k := by decide +kernel
theorem l_ushr {a k : Nat} (ha : a < 2 ^ 63) (hk : k < 64) : lushr64 (a : Int) (k : Int) = ((a / 2 ^ k : Nat) : Int) := by
  have hl : a / 2 ^ k < 2 ^ 63 := Nat.lt_of_le_of_lt (Nat.div_le_self _ _) ha
  unfold lushr64
  rw [I6_nat, I3_nat, ← t64 hl]
  congr 1
  apply Int64.toBitVec_inj.mp
  apply BitVec.eq_of_toNat_eq
  show ((Int64.ofNat a).toBitVec >>> (((nI k).toInt64.toUInt64 &&& Int64.toUInt64 63).toBitVec % 64).toNat).toNat = _
  rw [k_u k hk, BitVec.toNat_ushiftRight, n64 ha, n64 hl, Nat.shiftRight_eq_div_pow]
theorem l_shr {a k : Nat} (ha : a < 2 ^ 63) (hk : k < 64) : lshr64 (a : Int) (k : Int) = ((a / 2 ^ k : Nat) : Int) := by
  have hl : a / 2 ^ k < 2 ^ 63 := Nat.lt_of_le_of_lt (Nat.div_le_self _ _) ha
  unfold lshr64
  rw [I6_nat, I3_nat, ← t64 hl]
  congr 1
  apply Int64.toBitVec_inj.mp
  apply BitVec.eq_of_toNat_eq
  have hm : (Int64.ofNat a).toBitVec.msb = false := by rw [BitVec.msb_eq_false_iff_two_mul_lt, n64 ha]; omega
  show ((Int64.ofNat a).toBitVec.sshiftRight (((nI k).toInt64 &&& 63).toBitVec.smod 64).toNat).toNat = _
  rw [k_s k hk, BitVec.sshiftRight_eq_of_msb_false hm, BitVec.toNat_ushiftRight, n64 ha, n64 hl, Nat.shiftRight_eq_div_pow]
theorem l_shl1 : ∀ u : Nat, u < 40 → lshl64 1 (u : Int) = ((2 ^ u : Nat) : Int) := by decide +kernel
theorem l_low {n : Nat} (h : n < 2 ^ 63) : band ((I6 (n : Int)).toInt32.toInt) 127 = ((n % 128 : Nat) : Int) := by
  unfold band
  rw [show I3 ((I6 (n : Int)).toInt32.toInt) = (I6 (n : Int)).toInt32 from I3_toInt _, I6_nat, show ((n % 128 : Nat) : Int) = (nI (n % 128)).toInt from (nI_toInt (by omega)).symm]
  congr 1
  apply Int32.toBitVec_inj.mp
  apply BitVec.eq_of_toNat_eq
  rw [Int32.toBitVec_and, BitVec.toNat_and]
  have e1 : (Int64.ofNat n).toInt32.toBitVec.toNat = n % 2 ^ 32 := by
    simp only [Int64.toInt32, BitVec.signExtend_eq_setWidth_of_le _ (show 32 ≤ 64 from by decide)]
    show (BitVec.setWidth 32 (Int64.ofNat n).toBitVec).toNat = _
    rw [BitVec.toNat_setWidth, n64 h]
  have e2 : (I3 127).toBitVec.toNat = 2 ^ 7 - 1 := by decide +kernel
  have e3 : (nI (n % 128)).toBitVec.toNat = n % 128 := by show (n % 128) % 2 ^ 32 = _; omega
  rw [e1, e2, e3, Nat.and_two_pow_sub_one_eq_mod]
  omega
theorem and256 {a b c d : Nat} (hb : b < 256) (hd : d < 256) : (b + 256 * a) &&& (d + 256 * c) = (b &&& d) + 256 * (a &&& c) := by
  apply Nat.eq_of_testBit_eq
  intro j
  have h3 : b &&& d < 2 ^ 8 := Nat.and_lt_two_pow _ hd
  have e : ∀ x y : Nat, x + 256 * y = 2 ^ 8 * y + x := fun x y => by omega
  rw [Nat.testBit_and, e, e, e, Nat.testBit_two_pow_mul_add _ (show b < 2 ^ 8 from hb), Nat.testBit_two_pow_mul_add _ (show d < 2 ^ 8 from hd), Nat.testBit_two_pow_mul_add _ h3]
  split
  · rw [Nat.testBit_and]
  · rw [Nat.testBit_and]
def h5 (a b c d e : Nat) : Nat := a + 256 * (b + 256 * (c + 256 * (d + 256 * e)))
theorem and5 {a b c d e a' b' c' d' e' : Nat} (ha : a < 256) (hb : b < 256) (hc : c < 256) (hd : d < 256) (ha' : a' < 256) (hb' : b' < 256) (hc' : c' < 256) (hd' : d' < 256) : h5 a b c d e &&& h5 a' b' c' d' e' = h5 (a &&& a') (b &&& b') (c &&& c') (d &&& d') (e &&& e') := by
  unfold h5
  rw [and256 ha ha', and256 hb hb', and256 hc hc', and256 hd hd']
def q1 (v : Nat) : Nat := v - (v / 2 &&& 85)
def q2 (v : Nat) : Nat := (q1 v &&& 51) + (q1 v / 4 &&& 51)
def pop8 (v : Nat) : Nat := v % 2 + v / 2 % 2 + v / 4 % 2 + v / 8 % 2 + v / 16 % 2 + v / 32 % 2 + v / 64 % 2 + v / 128 % 2
theorem st1a : ∀ v : Nat, v < 256 → ∀ t : Nat, t < 2 → (v / 2 + 128 * t &&& 85) = (v / 2 &&& 85) := by decide +kernel
theorem st1b : ∀ v : Nat, v < 256 → (v / 2 &&& 1431655765) = (v / 2 &&& 85) ∧ (v / 2 &&& 85) ≤ v ∧ q1 v < 256 := by decide +kernel
theorem st2a : ∀ v : Nat, v < 256 → ∀ t : Nat, t < 4 → (v / 4 + 64 * t &&& 51) = (v / 4 &&& 51) := by decide +kernel
theorem st2b : ∀ v : Nat, v < 256 → (v / 4 &&& 858993459) = (v / 4 &&& 51) ∧ (v &&& 858993459) = (v &&& 51) := by decide +kernel
theorem st3 : ∀ v : Nat, v < 256 → q2 v % 16 ≤ 4 ∧ q2 v / 16 ≤ 4 ∧ q2 v % 16 + q2 v / 16 = pop8 v := by decide +kernel
theorem st3a (x : Nat) : (x &&& 15) = x % 16 := Nat.and_two_pow_sub_one_eq_mod x 4
theorem st3b : ∀ v : Nat, v < 256 → (v &&& 252645135) = (v &&& 15) := by decide +kernel
theorem swf {A B C D E X : Nat} (hA : A ≤ 8) (hB : B ≤ 8) (hC : C ≤ 8) (hD : D ≤ 8) (hE : E ≤ 8) (hX : X = A + 256 * (B + 256 * (C + 256 * (D + 256 * E)))) : (X + X / 256 + (X + X / 256) / 65536 + (X + X / 256 + (X + X / 256) / 65536) / 4294967296) % 128 = A + B + C + D + E := by
  have h1 : X / 256 = B + 256 * (C + 256 * (D + 256 * E)) := by omega
  have h2 : X + X / 256 = (A + B) + 256 * ((B + C) + 256 * ((C + D) + 256 * ((D + E) + 256 * E))) := by omega
  have h3 : (X + X / 256) / 65536 = (C + D) + 256 * ((D + E) + 256 * E) := by rw [h2]; omega
  have h4 : X + X / 256 + (X + X / 256) / 65536 = (A + B + C + D) + 256 * ((B + C + D + E) + 256 * ((C + D + E) + 256 * ((D + E) + 256 * E))) := by rw [h3, h2]; omega
  have h5 : (X + X / 256 + (X + X / 256) / 65536) / 4294967296 = E := by rw [h4]; omega
  rw [h5, h4]
  omega
theorem swar {a b c d e : Nat} (ha : a < 256) (hb : b < 256) (hc : c < 256) (hd : d < 256) (he : e < 256) (h : Mem) : p_J13_bitCount_95d88 h ((h5 a b c d e : Nat) : Int) = some ((pop8 a + pop8 b + pop8 c + pop8 d + pop8 e : Nat) : Int) := by
  have m1 : 6148914691236517205 = h5 85 85 85 85 1431655765 := by decide
  have m2 : 3689348814741910323 = h5 51 51 51 51 858993459 := by decide
  have m3 : 1085102592571150095 = h5 15 15 15 15 252645135 := by decide
  have b5 : ∀ a b c d e : Nat, a < 256 → b < 256 → c < 256 → d < 256 → e < 256 → h5 a b c d e < 2 ^ 40 := by intro a b c d e _ _ _ _ _; unfold h5; omega
  have B1 := b5 a b c d e ha hb hc hd he
  obtain ⟨a1, a2, a3⟩ := st1b a ha
  obtain ⟨b1, b2, b3⟩ := st1b b hb
  obtain ⟨c1, c2, c3⟩ := st1b c hc
  obtain ⟨d1, d2, d3⟩ := st1b d hd
  obtain ⟨e1, e2, e3⟩ := st1b e he
  have s1 : h5 a b c d e / 2 = h5 (a / 2 + 128 * (b % 2)) (b / 2 + 128 * (c % 2)) (c / 2 + 128 * (d % 2)) (d / 2 + 128 * (e % 2)) (e / 2) := by unfold h5; omega
  have s2 : h5 a b c d e / 2 &&& 6148914691236517205 = h5 (a / 2 &&& 85) (b / 2 &&& 85) (c / 2 &&& 85) (d / 2 &&& 85) (e / 2 &&& 85) := by
    rw [s1, m1, and5 (by omega) (by omega) (by omega) (by omega) (by decide) (by decide) (by decide) (by decide), st1a a ha _ (by omega), st1a b hb _ (by omega), st1a c hc _ (by omega), st1a d hd _ (by omega), e1]
  have s3 : ((h5 a b c d e : Nat) : Int) - ((h5 a b c d e / 2 &&& 6148914691236517205 : Nat) : Int) = ((h5 (q1 a) (q1 b) (q1 c) (q1 d) (q1 e) : Nat) : Int) := by
    rw [s2]
    unfold h5 q1
    omega
  have B2 := b5 _ _ _ _ _ a3 b3 c3 d3 e3
  have t1 : h5 (q1 a) (q1 b) (q1 c) (q1 d) (q1 e) &&& 3689348814741910323 = h5 (q1 a &&& 51) (q1 b &&& 51) (q1 c &&& 51) (q1 d &&& 51) (q1 e &&& 51) := by
    rw [m2, and5 a3 b3 c3 d3 (by decide) (by decide) (by decide) (by decide), (st2b _ e3).2]
  have t2 : h5 (q1 a) (q1 b) (q1 c) (q1 d) (q1 e) / 4 = h5 (q1 a / 4 + 64 * (q1 b % 4)) (q1 b / 4 + 64 * (q1 c % 4)) (q1 c / 4 + 64 * (q1 d % 4)) (q1 d / 4 + 64 * (q1 e % 4)) (q1 e / 4) := by unfold h5; omega
  have t3 : h5 (q1 a) (q1 b) (q1 c) (q1 d) (q1 e) / 4 &&& 3689348814741910323 = h5 (q1 a / 4 &&& 51) (q1 b / 4 &&& 51) (q1 c / 4 &&& 51) (q1 d / 4 &&& 51) (q1 e / 4 &&& 51) := by
    rw [t2, m2, and5 (by omega) (by omega) (by omega) (by omega) (by decide) (by decide) (by decide) (by decide), st2a _ a3 _ (by omega), st2a _ b3 _ (by omega), st2a _ c3 _ (by omega), st2a _ d3 _ (by omega), (st2b _ e3).1]
  have t4 : h5 (q1 a &&& 51) (q1 b &&& 51) (q1 c &&& 51) (q1 d &&& 51) (q1 e &&& 51) + h5 (q1 a / 4 &&& 51) (q1 b / 4 &&& 51) (q1 c / 4 &&& 51) (q1 d / 4 &&& 51) (q1 e / 4 &&& 51) = h5 (q2 a) (q2 b) (q2 c) (q2 d) (q2 e) := by unfold h5 q2; omega
  obtain ⟨u1, u2, u3⟩ := st3 a ha
  obtain ⟨v1, v2, v3⟩ := st3 b hb
  obtain ⟨w1, w2, w3⟩ := st3 c hc
  obtain ⟨x1, x2, x3⟩ := st3 d hd
  obtain ⟨y1, y2, y3⟩ := st3 e he
  generalize q2 a = A at *
  generalize q2 b = B at *
  generalize q2 c = C at *
  generalize q2 d = D at *
  generalize q2 e = E at *
  have B3 := b5 A B C D E (by omega) (by omega) (by omega) (by omega) (by omega)
  have r1 : h5 A B C D E + h5 A B C D E / 16 = h5 (A + A / 16 + 16 * (B % 16)) (B + B / 16 + 16 * (C % 16)) (C + C / 16 + 16 * (D % 16)) (D + D / 16 + 16 * (E % 16)) (E + E / 16) := by unfold h5; omega
  have r2 : h5 A B C D E + h5 A B C D E / 16 &&& 1085102592571150095 = h5 (pop8 a) (pop8 b) (pop8 c) (pop8 d) (pop8 e) := by
    rw [r1, m3, and5 (by omega) (by omega) (by omega) (by omega) (by decide) (by decide) (by decide) (by decide), st3b _ (by omega), st3a, st3a, st3a, st3a, st3a]
    congr 1 <;> omega
  have p1 : pop8 a ≤ 8 := by omega
  have p2 : pop8 b ≤ 8 := by omega
  have p3 : pop8 c ≤ 8 := by omega
  have p4 : pop8 d ≤ 8 := by omega
  have p5 : pop8 e ≤ 8 := by omega
  unfold p_J13_bitCount_95d88 p_J13_bitCount_95d88_24 p_J13_bitCount_95d88_41 p_J13_bitCount_95d88_55
  have f1 : wl (((h5 a b c d e : Nat) : Int) - land64 (lushr64 ((h5 a b c d e : Nat) : Int) 1) 6148914691236517205) = ((h5 (q1 a) (q1 b) (q1 c) (q1 d) (q1 e) : Nat) : Int) := by
    rw [show (1 : Int) = ((1 : Nat) : Int) from rfl, l_ushr (by omega) (by decide), show (6148914691236517205 : Int) = ((6148914691236517205 : Nat) : Int) from rfl, l_and (by omega) (by decide), show (2 : Nat) ^ 1 = 2 from rfl, s3, wl_n (by omega)]
  rw [f1]
  have f2 : wl (land64 ((h5 (q1 a) (q1 b) (q1 c) (q1 d) (q1 e) : Nat) : Int) 3689348814741910323 + land64 (lushr64 ((h5 (q1 a) (q1 b) (q1 c) (q1 d) (q1 e) : Nat) : Int) 2) 3689348814741910323) = ((h5 A B C D E : Nat) : Int) := by
    rw [show (2 : Int) = ((2 : Nat) : Int) from rfl, l_ushr (by omega) (by decide), show (3689348814741910323 : Int) = ((3689348814741910323 : Nat) : Int) from rfl, l_and (by omega) (by decide), l_and (by omega) (by decide), show (2 : Nat) ^ 2 = 4 from rfl, ← Int.natCast_add, t1, t3, t4, wl_n (by omega)]
  rw [f2]
  have f3 : land64 (wl (((h5 A B C D E : Nat) : Int) + lushr64 ((h5 A B C D E : Nat) : Int) 4)) 1085102592571150095 = ((h5 (pop8 a) (pop8 b) (pop8 c) (pop8 d) (pop8 e) : Nat) : Int) := by
    rw [show (4 : Int) = ((4 : Nat) : Int) from rfl, l_ushr (by omega) (by decide), show (1085102592571150095 : Int) = ((1085102592571150095 : Nat) : Int) from rfl, show (2 : Nat) ^ 4 = 16 from rfl, ← Int.natCast_add, wl_n (by omega), l_and (by omega) (by decide), r2]
  rw [f3]
  have B4 := b5 (pop8 a) (pop8 b) (pop8 c) (pop8 d) (pop8 e) (by omega) (by omega) (by omega) (by omega) (by omega)
  have fX := swf p1 p2 p3 p4 p5 (show h5 (pop8 a) (pop8 b) (pop8 c) (pop8 d) (pop8 e) = _ from rfl)
  generalize h5 (pop8 a) (pop8 b) (pop8 c) (pop8 d) (pop8 e) = X at *
  rw [show (8 : Int) = ((8 : Nat) : Int) from rfl, l_ushr (by omega) (by decide), show (2 : Nat) ^ 8 = 256 from rfl, ← Int.natCast_add, wl_n (by omega), show (16 : Int) = ((16 : Nat) : Int) from rfl, l_ushr (by omega) (by decide), show (2 : Nat) ^ 16 = 65536 from rfl, ← Int.natCast_add, wl_n (by omega), show (32 : Int) = ((32 : Nat) : Int) from rfl, l_ushr (by omega) (by decide), show (2 : Nat) ^ 32 = 4294967296 from rfl, ← Int.natCast_add, wl_n (by omega), l_low (by omega), fX]
/-- forty of them, as a number -/
noncomputable def b1 (P : Prop) : Nat := @ite Nat P (Classical.propDecidable _) 1 0
theorem b1_t {P : Prop} (h : P) : b1 P = 1 := if_pos h
theorem b1_f {P : Prop} (h : ¬ P) : b1 P = 0 := if_neg h
theorem b1_le (P : Prop) : b1 P ≤ 1 := by
  by_cases h : P
  · rw [b1_t h]; omega
  · rw [b1_f h]; omega
noncomputable def nb (P : Nat → Prop) : Nat → Nat
  | 0 => 0
  | k + 1 => 2 ^ k * b1 (P k) + nb P k
theorem nb_lt (P : Nat → Prop) : ∀ n, nb P n < 2 ^ n
  | 0 => by show 0 < 1; decide
  | n + 1 => by
    have ih := nb_lt P n
    have h := b1_le (P n)
    have h2 : 2 ^ n * b1 (P n) ≤ 2 ^ n * 1 := Nat.mul_le_mul_left _ h
    show 2 ^ n * b1 (P n) + nb P n < 2 ^ (n + 1)
    rw [Nat.pow_succ]
    omega
theorem nb_bit (P : Nat → Prop) (i : Nat) : ∀ n, i < n → nb P n / 2 ^ i % 2 = b1 (P i)
  | 0, h => by omega
  | n + 1, h => by
    show (2 ^ n * b1 (P n) + nb P n) / 2 ^ i % 2 = _
    have hl := nb_lt P n
    by_cases e : i = n
    · subst e
      rw [Nat.mul_add_div (Nat.pow_pos (by decide)), Nat.div_eq_of_lt hl, Nat.add_zero]
      have := b1_le (P i)
      omega
    · obtain ⟨d, hd⟩ : ∃ d, n = i + (d + 1) := ⟨n - i - 1, by omega⟩
      have ih := nb_bit P i n (by omega)
      rw [show 2 ^ n * b1 (P n) = 2 ^ i * (2 * (2 ^ d * b1 (P n))) by rw [hd, Nat.pow_add, Nat.pow_succ]; rw [Nat.mul_assoc, Nat.mul_comm (2 ^ d) 2, Nat.mul_assoc], Nat.mul_add_div (Nat.pow_pos (by decide))]
      omega
theorem cnt_b1 (P : Nat → Prop) (n : Nat) : cnt P (n + 1) = cnt P n + b1 (P n) := by
  by_cases h : P n
  · rw [cnt_t h, b1_t h]
  · rw [cnt_f h, b1_f h]; rfl
noncomputable def by8 (P : Nat → Prop) (o : Nat) : Nat := b1 (P o) + 2 * b1 (P (o + 1)) + 4 * b1 (P (o + 2)) + 8 * b1 (P (o + 3)) + 16 * b1 (P (o + 4)) + 32 * b1 (P (o + 5)) + 64 * b1 (P (o + 6)) + 128 * b1 (P (o + 7))
theorem by8_p (P : Nat → Prop) (o : Nat) : by8 P o < 256 ∧ pop8 (by8 P o) = b1 (P o) + b1 (P (o + 1)) + b1 (P (o + 2)) + b1 (P (o + 3)) + b1 (P (o + 4)) + b1 (P (o + 5)) + b1 (P (o + 6)) + b1 (P (o + 7)) := by
  have h0 := b1_le (P o)
  have h1 := b1_le (P (o + 1))
  have h2 := b1_le (P (o + 2))
  have h3 := b1_le (P (o + 3))
  have h4 := b1_le (P (o + 4))
  have h5 := b1_le (P (o + 5))
  have h6 := b1_le (P (o + 6))
  have h7 := b1_le (P (o + 7))
  unfold by8 pop8
  generalize b1 (P o) = x0 at *
  generalize b1 (P (o + 1)) = x1 at *
  generalize b1 (P (o + 2)) = x2 at *
  generalize b1 (P (o + 3)) = x3 at *
  generalize b1 (P (o + 4)) = x4 at *
  generalize b1 (P (o + 5)) = x5 at *
  generalize b1 (P (o + 6)) = x6 at *
  generalize b1 (P (o + 7)) = x7 at *
  refine ⟨by omega, ?_⟩
  have e0 : (x0 + 2 * x1 + 4 * x2 + 8 * x3 + 16 * x4 + 32 * x5 + 64 * x6 + 128 * x7) % 2 = x0 := by omega
  have e1 : (x0 + 2 * x1 + 4 * x2 + 8 * x3 + 16 * x4 + 32 * x5 + 64 * x6 + 128 * x7) / 2 % 2 = x1 := by omega
  have e2 : (x0 + 2 * x1 + 4 * x2 + 8 * x3 + 16 * x4 + 32 * x5 + 64 * x6 + 128 * x7) / 4 % 2 = x2 := by omega
  have e3 : (x0 + 2 * x1 + 4 * x2 + 8 * x3 + 16 * x4 + 32 * x5 + 64 * x6 + 128 * x7) / 8 % 2 = x3 := by omega
  have e4 : (x0 + 2 * x1 + 4 * x2 + 8 * x3 + 16 * x4 + 32 * x5 + 64 * x6 + 128 * x7) / 16 % 2 = x4 := by omega
  have e5 : (x0 + 2 * x1 + 4 * x2 + 8 * x3 + 16 * x4 + 32 * x5 + 64 * x6 + 128 * x7) / 32 % 2 = x5 := by omega
  have e6 : (x0 + 2 * x1 + 4 * x2 + 8 * x3 + 16 * x4 + 32 * x5 + 64 * x6 + 128 * x7) / 64 % 2 = x6 := by omega
  have e7 : (x0 + 2 * x1 + 4 * x2 + 8 * x3 + 16 * x4 + 32 * x5 + 64 * x6 + 128 * x7) / 128 % 2 = x7 := by omega
  rw [e0, e1, e2, e3, e4, e5, e6, e7]
theorem nb_8 (P : Nat → Prop) (o : Nat) : nb P (o + 8) = 2 ^ o * by8 P o + nb P o := by
  simp only [nb, by8, Nat.pow_succ, Nat.mul_add, Nat.add_assoc, Nat.mul_assoc]
  simp only [Nat.reduceMul, Nat.mul_left_comm (2 ^ o)]
  omega
theorem cnt_8 (P : Nat → Prop) (o : Nat) : cnt P (o + 8) = cnt P o + pop8 (by8 P o) := by
  rw [(by8_p P o).2]
  have e : ∀ i, cnt P (o + i + 1) = cnt P (o + i) + b1 (P (o + i)) := fun i => cnt_b1 P (o + i)
  have e0 := e 0
  have e1 := e 1
  have e2 := e 2
  have e3 := e 3
  have e4 := e 4
  have e5 := e 5
  have e6 := e 6
  have e7 := e 7
  simp only [Nat.add_assoc, Nat.add_zero, Nat.reduceAdd] at e0 e1 e2 e3 e4 e5 e6 e7 ⊢
  omega
theorem j_long (P : Nat → Prop) (h : Mem) : p_J13_bitCount_95d88 h ((nb P 40 : Nat) : Int) = some ((cnt P 40 : Nat) : Int) := by
  have e : nb P 40 = h5 (by8 P 0) (by8 P 8) (by8 P 16) (by8 P 24) (by8 P 32) := by
    have a0 := nb_8 P 0
    have a1 := nb_8 P 8
    have a2 := nb_8 P 16
    have a3 := nb_8 P 24
    have a4 := nb_8 P 32
    simp only [Nat.reduceAdd, Nat.reducePow] at a0 a1 a2 a3 a4
    have z : nb P 0 = 0 := rfl
    unfold h5
    omega
  have e2 : cnt P 40 = pop8 (by8 P 0) + pop8 (by8 P 8) + pop8 (by8 P 16) + pop8 (by8 P 24) + pop8 (by8 P 32) := by
    have a0 := cnt_8 P 0
    have a1 := cnt_8 P 8
    have a2 := cnt_8 P 16
    have a3 := cnt_8 P 24
    have a4 := cnt_8 P 32
    simp only [Nat.reduceAdd] at a0 a1 a2 a3 a4
    have z : cnt P 0 = 0 := rfl
    omega
  rw [e, e2]
  exact swar (by8_p P 0).1 (by8_p P 8).1 (by8_p P 16).1 (by8_p P 24).1 (by8_p P 32).1 h
theorem nb_put (P : Nat → Prop) {u : Nat} (hu : u < 40) (hP : P u) : lor64 ((nb P u : Nat) : Int) (lshl64 1 (u : Int)) = ((nb P (u + 1) : Nat) : Int) := by
  have hl := nb_lt P u
  have h2 : 2 ^ u < 2 ^ 40 := Nat.pow_lt_pow_right (by decide) hu
  rw [l_shl1 u hu, l_or (by omega) (by omega)]
  congr 1
  show nb P u ||| 2 ^ u = 2 ^ u * b1 (P u) + nb P u
  rw [b1_t hP, Nat.two_pow_add_eq_or_of_lt hl, Nat.mul_one, Nat.or_comm]
theorem nb_skip (P : Nat → Prop) {u : Nat} (hP : ¬ P u) : nb P (u + 1) = nb P u := by
  show 2 ^ u * b1 (P u) + nb P u = nb P u
  rw [b1_f hP]; omega
theorem nb_has (P : Nat → Prop) {u : Nat} (hu : u < 40) : lcmp64 (land64 (lshr64 ((nb P 40 : Nat) : Int) (u : Int)) 1) 0 = 0 ↔ ¬ P u := by
  have hl := nb_lt P 40
  have hd : nb P 40 / 2 ^ u < 2 ^ 63 := Nat.lt_of_le_of_lt (Nat.div_le_self _ _) (by omega)
  rw [lc_z, l_shr (by omega) (by omega), show (1 : Int) = ((1 : Nat) : Int) from rfl, l_and hd (by decide), Nat.and_one_is_mod, nb_bit P u 40 hu]
  by_cases q : P u
  · rw [b1_t q]; simp [q]
  · rw [b1_f q]; simp [q]
theorem nb_0 (P : Nat → Prop) : ∀ n, nb P n = 0 ↔ ∀ i, i < n → ¬ P i
  | 0 => ⟨fun _ i h => by omega, fun _ => rfl⟩
  | n + 1 => by
    have ih := nb_0 P n
    have hp : 0 < 2 ^ n := Nat.pow_pos (by decide)
    by_cases q : P n
    · constructor
      · intro h
        have : 2 ^ n * b1 (P n) + nb P n = 0 := h
        rw [b1_t q] at this
        omega
      · intro h; exact absurd q (h n (by omega))
    · rw [nb_skip P q, ih]
      constructor
      · intro h i hi
        by_cases e : i = n
        · subst e; exact q
        · exact h i (by omega)
      · intro h i hi; exact h i (by omega)
