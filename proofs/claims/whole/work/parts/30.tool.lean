def bt (x : Int32) (i : Nat) : Bool := x.toBitVec.getLsbD i
theorem b_ext {x y : Int32} (h : ∀ i, i < 32 → bt x i = bt y i) : x = y := Int32.toBitVec_inj.mp (BitVec.eq_of_getLsbD_eq (fun i hi => h i hi))
theorem b_or (x y : Int32) (i : Nat) : bt (x ||| y) i = (bt x i || bt y i) := by unfold bt; rw [Int32.toBitVec_or, BitVec.getLsbD_or]
theorem b_and (x y : Int32) (i : Nat) : bt (x &&& y) i = (bt x i && bt y i) := by unfold bt; rw [Int32.toBitVec_and, BitVec.getLsbD_and]
theorem b_xor (x y : Int32) (i : Nat) : bt (x ^^^ y) i = (bt x i ^^ bt y i) := by unfold bt; rw [Int32.toBitVec_xor, BitVec.getLsbD_xor]
theorem b_big {x : Int32} {i : Nat} (h : 32 ≤ i) : bt x i = false := BitVec.getLsbD_of_ge _ _ h
theorem b_255 (i : Nat) : bt 255 i = decide (i < 8) := by
  rcases Nat.lt_or_ge i 32 with h | h
  · exact (by decide +kernel : ∀ i, i < 32 → bt 255 i = decide (i < 8)) i h
  · rw [b_big h, decide_eq_false (by omega)]
theorem b_65535 (i : Nat) : bt 65535 i = decide (i < 16) := by
  rcases Nat.lt_or_ge i 32 with h | h
  · exact (by decide +kernel : ∀ i, i < 32 → bt 65535 i = decide (i < 16)) i h
  · rw [b_big h, decide_eq_false (by omega)]
theorem b_m1 : ∀ i, i < 32 → bt (-1) i = true := by decide +kernel
theorem b_0 (i : Nat) : bt 0 i = false := BitVec.getLsbD_zero
theorem s_l : ∀ n, n < 32 → ((nI n &&& 31).toBitVec.smod 32).toNat = n := by decide +kernel
theorem s_u : ∀ n, n < 32 → (((nI n).toUInt32 &&& Int32.toUInt32 31).toBitVec % 32).toNat = n := by decide +kernel
theorem b_shl (n : Nat) (hn : n < 32) (x : Int32) {i : Nat} (hi : i < 32) : bt (x <<< (nI n &&& 31)) i = (decide (n ≤ i) && bt x (i - n)) := by
  unfold bt
  rw [Int32.toBitVec_shiftLeft]
  show (x.toBitVec <<< ((nI n &&& 31).toBitVec.smod 32).toNat).getLsbD i = _
  rw [s_l n hn, BitVec.getLsbD_shiftLeft]
  rcases Nat.lt_or_ge i n with h | h
  · simp [h, Nat.not_le.mpr h]
  · simp [hi, h, Nat.not_lt.mpr h]
theorem b_ushr (n : Nat) (hn : n < 32) (x : Int32) (i : Nat) : bt ((x.toUInt32 >>> ((nI n).toUInt32 &&& Int32.toUInt32 31)).toInt32) i = bt x (n + i) := by
  show (x.toUInt32 >>> ((nI n).toUInt32 &&& Int32.toUInt32 31)).toBitVec.getLsbD i = x.toUInt32.toBitVec.getLsbD (n + i)
  rw [UInt32.toBitVec_shiftRight]
  show (x.toUInt32.toBitVec >>> (((nI n).toUInt32 &&& Int32.toUInt32 31).toBitVec % 32).toNat).getLsbD i = _
  rw [s_u n hn, BitVec.getLsbD_ushiftRight]
theorem b_sshr (n : Nat) (hn : n < 32) (x : Int32) {i : Nat} (hi : i < 32) : bt (x >>> (nI n &&& 31)) i = if n + i < 32 then bt x (n + i) else bt x 31 := by
  unfold bt
  rw [Int32.toBitVec_shiftRight]
  show (x.toBitVec.sshiftRight ((nI n &&& 31).toBitVec.smod 32).toNat).getLsbD i = _
  rw [s_l n hn, BitVec.getLsbD_sshiftRight, BitVec.msb_eq_getLsbD_last]
  simp [hi]
theorem b_shl8 (x : Int32) {i : Nat} (hi : i < 32) : bt (x <<< ((8 : Int32) &&& 31)) i = (decide (8 ≤ i) && bt x (i - 8)) := b_shl 8 (by omega) x hi
theorem b_shl16 (x : Int32) {i : Nat} (hi : i < 32) : bt (x <<< ((16 : Int32) &&& 31)) i = (decide (16 ≤ i) && bt x (i - 16)) := b_shl 16 (by omega) x hi
theorem b_shl24 (x : Int32) {i : Nat} (hi : i < 32) : bt (x <<< ((24 : Int32) &&& 31)) i = (decide (24 ≤ i) && bt x (i - 24)) := b_shl 24 (by omega) x hi
theorem b_sshr8 (x : Int32) {i : Nat} (hi : i < 32) : bt (x >>> ((8 : Int32) &&& 31)) i = if 8 + i < 32 then bt x (8 + i) else bt x 31 := b_sshr 8 (by omega) x hi
/-! ===== tools of the pure part ===== -/
theorem wr_s {a : Int} (h1 : -2147483648 ≤ a) (h2 : a < 2147483648) : wr a = a := wr_id ⟨h1, h2⟩
theorem bd_s {α β : Type} (a : α) (k : α → Option β) : bd (some a) k = k a := rfl
theorem bd_n {α β : Type} (a : α) (k : α → Option β) : bd (some a) k = k a := (Eq.refl (bd (some a) k)).trans (Eq.refl (k a))
theorem gd_w {α : Type} {c : Prop} [Decidable c] {k : Option α} (h : c) : gd c k = k := if_pos h
noncomputable def bi (P : Prop) : Int := @ite Int P (Classical.propDecidable P) 1 0
theorem bi_t {P : Prop} (h : P) : bi P = 1 := if_pos h
theorem bi_f {P : Prop} (h : ¬ P) : bi P = 0 := if_neg h
theorem bi_01 (P : Prop) : bi P = 0 ∨ bi P = 1 := by
  by_cases h : P
  · exact Or.inr (bi_t h)
  · exact Or.inl (bi_f h)
theorem bi_0 {P : Prop} : bi P = 0 ↔ ¬ P := by
  by_cases h : P
  · rw [bi_t h]; simp [h]
  · rw [bi_f h]; simp [h]
theorem bi_1 {P : Prop} : bi P = 1 ↔ P := by
  by_cases h : P
  · rw [bi_t h]; simp [h]
  · rw [bi_f h]; simp [h]
theorem bi_c {P Q : Prop} (h : P ↔ Q) : bi P = bi Q := by rw [propext h]
/-! loops -/
theorem loop_up {A β : Type} (L : Nat → Int → A → β) (F : Nat → A) (n : Nat) (r : β) (hs : ∀ (f k : Nat), k < n → L (f + 1) (k : Int) (F k) = L f ((k : Int) + 1) (F (k + 1))) (he : ∀ f : Nat, L (f + 1) (n : Int) (F n) = r) :
    ∀ (f k : Nat), k ≤ n → n - k < f → L f (k : Int) (F k) = r := by
  intro f
  induction f with
  | zero => intro k h1 h2; omega
  | succ f ih =>
    intro k h1 h2
    by_cases hk : k = n
    · subst hk; exact he f
    · rw [hs f k (by omega)]
      exact ih (k + 1) (by omega) (by omega)
theorem loop_inv {A β : Type} (L : Nat → Int → A → β) (n : Nat) (I : Nat → A → Prop) (R : β → Prop) (hs : ∀ (f k : Nat) (a : A), k < n → I k a → ∃ a', I (k + 1) a' ∧ L (f + 1) (k : Int) a = L f ((k : Int) + 1) a') (he : ∀ (f : Nat) (a : A), I n a → R (L (f + 1) (n : Int) a)) :
    ∀ (f k : Nat) (a : A), k ≤ n → n - k < f → I k a → R (L f (k : Int) a) := by
  intro f
  induction f with
  | zero => intro k a h1 h2; omega
  | succ f ih =>
    intro k a h1 h2 hI
    by_cases hk : k = n
    · subst hk; exact he f a hI
    · obtain ⟨a', i1, e1⟩ := hs f k a (by omega) hI
      rw [e1]
      exact ih (k + 1) a' (by omega) (by omega) i1
theorem loop_any {β : Type} (L : Nat → Int → β) (n : Nat) (P : Nat → Prop) (r1 r0 : β) (hs : ∀ (f k : Nat), k < n → ¬ P k → L (f + 1) (k : Int) = L f ((k : Int) + 1)) (hp : ∀ (f k : Nat), k < n → P k → L (f + 1) (k : Int) = r1) (he : ∀ f : Nat, L (f + 1) (n : Int) = r0) :
    ∀ (f k : Nat), k ≤ n → n - k < f → L f (k : Int) = @ite β (∃ j, k ≤ j ∧ j < n ∧ P j) (Classical.propDecidable _) r1 r0 := by
  intro f
  induction f with
  | zero => intro k h1 h2; omega
  | succ f ih =>
    intro k h1 h2
    by_cases hk : k = n
    · subst hk
      rw [he f, if_neg (fun ⟨j, q1, q2, _⟩ => by omega)]
    · by_cases hP : P k
      · rw [hp f k (by omega) hP, if_pos ⟨k, Nat.le_refl k, by omega, hP⟩]
      · rw [hs f k (by omega) hP]
        have := ih (k + 1) (by omega) (by omega)
        refine Eq.trans this ?_
        by_cases hx : ∃ j, k + 1 ≤ j ∧ j < n ∧ P j
        · rw [if_pos hx]
          obtain ⟨j, q1, q2, q3⟩ := hx
          rw [if_pos ⟨j, by omega, q2, q3⟩]
        · rw [if_neg hx, if_neg]
          rintro ⟨j, q1, q2, q3⟩
          rcases Nat.lt_or_ge k j with z | z
          · exact hx ⟨j, z, q2, q3⟩
          · exact hP (by rw [show k = j by omega]; exact q3)
/-! bits -/
def bb (a : Int) (k : Nat) : Bool := bt (I3 a) k
theorem I3_nat (k : Nat) : I3 (k : Int) = nI k := rfl
theorem I3_bor (a b : Int) : I3 (bor a b) = I3 a ||| I3 b := I3_toInt _
theorem I3_band (a b : Int) : I3 (band a b) = I3 a &&& I3 b := I3_toInt _
theorem I3_bxor (a b : Int) : I3 (bxor a b) = I3 a ^^^ I3 b := I3_toInt _
theorem bb_or (a b : Int) (i : Nat) : bb (bor a b) i = (bb a i || bb b i) := by unfold bb; rw [I3_bor, b_or]
theorem bb_and (a b : Int) (i : Nat) : bb (band a b) i = (bb a i && bb b i) := by unfold bb; rw [I3_band, b_and]
theorem bb_xor (a b : Int) (i : Nat) : bb (bxor a b) i = (bb a i ^^ bb b i) := by unfold bb; rw [I3_bxor, b_xor]
theorem bb_0 (i : Nat) : bb 0 i = false := b_0 i
theorem bb_m1 {i : Nat} (h : i < 32) : bb (-1) i = true := b_m1 i h
theorem b_1 : ∀ i, i < 32 → bt 1 i = decide (i = 0) := by decide +kernel
theorem bb_1 {j i : Nat} (hj : j < 32) (hi : i < 32) : bb (bshl 1 (j : Int)) i = decide (i = j) := by
  unfold bb bshl
  rw [I3_toInt, I3_nat, b_shl j hj _ hi]
  by_cases h : j ≤ i
  · rw [show I3 1 = 1 from rfl, b_1 (i - j) (by omega)]
    by_cases h2 : i = j
    · subst h2; simp
    · simp [h, h2]; omega
  · simp [h]; omega
theorem and1 (x : Int32) : x &&& 1 = if bt x 0 then 1 else 0 := by
  apply b_ext
  intro i hi
  rw [b_and, b_1 i hi]
  by_cases h : bt x 0 = true
  · rw [if_pos h, b_1 i hi]
    by_cases h2 : i = 0
    · subst h2; simp [h]
    · simp [h2]
  · rw [if_neg h, b_0]
    by_cases h2 : i = 0
    · subst h2; simpa using h
    · simp [h2]
theorem hb_eq (a : Int) {k : Nat} (hk : k < 32) : band (bshr a (k : Int)) 1 = if bb a k then 1 else 0 := by
  unfold band bshr
  rw [I3_toInt, show I3 1 = 1 from rfl, and1, I3_nat, b_sshr k hk _ (by omega)]
  unfold bb
  simp only [Nat.add_zero, hk, if_true]
  by_cases h : bt (I3 a) k = true
  · simp [h]
  · simp [h]
theorem hb_0 (a : Int) {k : Nat} (hk : k < 32) : band (bshr a (k : Int)) 1 = 0 ↔ bb a k = false := by
  rw [hb_eq a hk]
  cases bb a k <;> simp
theorem hb_1 (a : Int) {k : Nat} (hk : k < 32) : band (bshr a (k : Int)) 1 = 1 ↔ bb a k = true := by
  rw [hb_eq a hk]
  cases bb a k <;> simp
theorem I3_z {x : Int32} : x.toInt = 0 ↔ x = 0 := by
  rw [← Int32.toInt_inj]; rfl
theorem and_z (a b : Int) : band a b = 0 ↔ ∀ i, i < 32 → ¬ (bb a i = true ∧ bb b i = true) := by
  unfold band
  rw [I3_z]
  constructor
  · intro h i hi q
    have := congrArg (fun x => bt x i) h
    simp only [b_and, b_0] at this
    unfold bb at q
    rw [q.1, q.2] at this
    cases this
  · intro h
    apply b_ext
    intro i hi
    rw [b_and, b_0]
    have := h i hi
    unfold bb at this
    cases h1 : bt (I3 a) i <;> cases h2 : bt (I3 b) i <;> simp_all
theorem and_bit (a : Int) {k : Nat} (hk : k < 32) : band a (bshl 1 (k : Int)) = 0 ↔ bb a k = false := by
  rw [and_z]
  constructor
  · intro h
    have := h k hk
    rw [bb_1 hk hk] at this
    simpa using this
  · intro h i hi q
    rw [bb_1 hk hi] at q
    have : i = k := by simpa using q.2
    subst this
    rw [h] at q
    exact absurd q.1 (by decide)
theorem and_not (a b : Int) : band a (bxor b (-1)) = 0 ↔ ∀ i, i < 32 → bb a i = true → bb b i = true := by
  rw [and_z]
  constructor
  · intro h i hi q
    have := h i hi
    rw [bb_xor, bb_m1 hi] at this
    cases hb : bb b i
    · exact absurd ⟨q, by rw [hb]; rfl⟩ this
    · rfl
  · intro h i hi q
    rw [bb_xor, bb_m1 hi, h i hi q.1] at q
    exact absurd q.2 (by decide)
theorem bb_all : ∀ n : Nat, n < 6 → ∀ i : Nat, i < 32 → bb (wr (bshl 1 (n : Int) - 1)) i = decide (i < n) := by decide +kernel
theorem z_bits {a : Int} (h : RI a) : a = 0 ↔ ∀ i, i < 32 → bb a i = false := by
  constructor
  · rintro rfl i _; exact bb_0 i
  · intro q
    have : I3 a = 0 := by
      apply b_ext
      intro i hi
      rw [b_0]
      exact q i hi
    exact (z_eq h).mp this
/-- a set of places, as bits -/
noncomputable def bset (P : Nat → Prop) : Nat → Int
  | 0 => 0
  | k + 1 => @ite Int (P k) (Classical.propDecidable _) (bor (bset P k) (bshl 1 (k : Int))) (bset P k)
theorem bset_t {P : Nat → Prop} {k : Nat} (h : P k) : bset P (k + 1) = bor (bset P k) (bshl 1 (k : Int)) := if_pos h
theorem bset_f {P : Nat → Prop} {k : Nat} (h : ¬ P k) : bset P (k + 1) = bset P k := if_neg h
theorem RI_bset (P : Nat → Prop) : ∀ n, RI (bset P n)
  | 0 => RI_0
  | n + 1 => by
    by_cases h : P n
    · rw [bset_t h]; exact RI_toInt _
    · rw [bset_f h]; exact RI_bset P n
theorem bb_bset (P : Nat → Prop) {i : Nat} (hi : i < 32) : ∀ n, n ≤ 32 → (bb (bset P n) i = true ↔ i < n ∧ P i)
  | 0, _ => by rw [show bset P 0 = 0 from rfl, bb_0]; simp
  | n + 1, hn => by
    have ih := bb_bset P hi n (by omega)
    by_cases h : P n
    · rw [bset_t h, bb_or, Bool.or_eq_true, ih, bb_1 (by omega) hi, decide_eq_true_eq]
      constructor
      · rintro (q | rfl)
        · exact ⟨by omega, q.2⟩
        · exact ⟨by omega, h⟩
      · rintro ⟨q1, q2⟩
        by_cases e : i = n
        · exact Or.inr e
        · exact Or.inl ⟨by omega, q2⟩
    · rw [bset_f h, ih]
      constructor
      · rintro ⟨q1, q2⟩; exact ⟨by omega, q2⟩
      · rintro ⟨q1, q2⟩
        refine ⟨?_, q2⟩
        rcases Nat.lt_or_ge i n with z | z
        · exact z
        · exact absurd (by rw [show n = i by omega]; exact q2) h
theorem bset_c {P Q : Nat → Prop} : ∀ {n : Nat}, (∀ k, k < n → (P k ↔ Q k)) → bset P n = bset Q n
  | 0, _ => rfl
  | n + 1, h => by
    have ih := bset_c (n := n) (fun k hk => h k (by omega))
    by_cases q : P n
    · rw [bset_t q, bset_t ((h n (by omega)).mp q), ih]
    · rw [bset_f q, bset_f (fun z => q ((h n (by omega)).mpr z)), ih]
theorem bset_none {P : Nat → Prop} : ∀ {n : Nat}, (∀ k, k < n → ¬ P k) → bset P n = 0
  | 0, _ => rfl
  | n + 1, h => by rw [bset_f (h n (by omega))]; exact bset_none (fun k hk => h k (by omega))
theorem bor_0 {a : Int} (h : RI a) : bor a 0 = a := by
  unfold bor
  rw [show I3 0 = 0 from rfl, Int32.or_zero, toInt_I3 h]
/-- how many -/
noncomputable def cnt (P : Nat → Prop) : Nat → Nat
  | 0 => 0
  | k + 1 => @ite Nat (P k) (Classical.propDecidable _) (cnt P k + 1) (cnt P k)
theorem cnt_t {P : Nat → Prop} {k : Nat} (h : P k) : cnt P (k + 1) = cnt P k + 1 := if_pos h
theorem cnt_f {P : Nat → Prop} {k : Nat} (h : ¬ P k) : cnt P (k + 1) = cnt P k := if_neg h
theorem cnt_le (P : Nat → Prop) : ∀ n, cnt P n ≤ n
  | 0 => Nat.le_refl 0
  | n + 1 => by
    have := cnt_le P n
    by_cases h : P n
    · rw [cnt_t h]; omega
    · rw [cnt_f h]; omega
theorem cnt_c {P Q : Nat → Prop} : ∀ {n : Nat}, (∀ k, k < n → (P k ↔ Q k)) → cnt P n = cnt Q n
  | 0, _ => rfl
  | n + 1, h => by
    have ih := cnt_c (n := n) (fun k hk => h k (by omega))
    by_cases q : P n
    · rw [cnt_t q, cnt_t ((h n (by omega)).mp q), ih]
    · rw [cnt_f q, cnt_f (fun z => q ((h n (by omega)).mpr z)), ih]
/-- a sum -/
def sumF (g : Nat → Int) : Nat → Int
  | 0 => 0
  | k + 1 => sumF g k + g k
theorem sumF_c {g g' : Nat → Int} : ∀ {n : Nat}, (∀ k, k < n → g k = g' k) → sumF g n = sumF g' n
  | 0, _ => rfl
  | n + 1, h => by
    show sumF g n + g n = sumF g' n + g' n
    rw [sumF_c (fun k hk => h k (by omega)), h n (by omega)]
theorem sumF_b {g : Nat → Int} {lo hi : Int} : ∀ {n : Nat}, (∀ k, k < n → lo ≤ g k ∧ g k ≤ hi) → lo * n ≤ sumF g n ∧ sumF g n ≤ hi * n
  | 0, _ => by simp [sumF]
  | n + 1, h => by
    have h1 := sumF_b (n := n) (fun k hk => h k (by omega))
    have h2 := h n (by omega)
    have e1 : lo * ((n + 1 : Nat) : Int) = lo * n + lo := by rw [Int.natCast_succ, Int.mul_add, Int.mul_one]
    have e2 : hi * ((n + 1 : Nat) : Int) = hi * n + hi := by rw [Int.natCast_succ, Int.mul_add, Int.mul_one]
    show lo * ((n + 1 : Nat) : Int) ≤ sumF g n + g n ∧ sumF g n + g n ≤ hi * ((n + 1 : Nat) : Int)
    rw [e1, e2]
    omega
theorem sumF_z {g : Nat → Int} : ∀ {n : Nat}, (∀ k, k < n → g k = 0) → sumF g n = 0
  | 0, _ => rfl
  | n + 1, h => by
    show sumF g n + g n = 0
    rw [sumF_z (fun k hk => h k (by omega)), h n (by omega)]
    rfl
def adf (a b : Nat) : Nat := if a ≤ b then b - a else a - b
