/-! ===== fractions; share ===== -/
theorem cdS (h : Mem) (f : Nat) (l2 l3 l4 : Int) : p_X8_commonDivisor_L7 h (f + 1) l2 l3 l4 = (if 64 ≤ l4 then some l2 else if l3 = 0 then some l2 else gd (¬ l3 = 0) (p_X8_commonDivisor_L7 h f l3 (qrem l2 l3) (wr (l4 + 1)))) := rfl
theorem dvS (h : Mem) (f : Nat) (l2 l3 : Int) : p_X9_divisor_L13 h (f + 1) l2 l3 = (if l3 = 0 then some l2 else gd (¬ l3 = 0) (p_X9_divisor_L13 h f l3 (qrem l2 l3))) := rfl
theorem gcdL (h : Mem) : ∀ (k f a b i : Nat), a < 2147483648 → b < 2147483648 → b < 2 ^ k → i + 2 * k ≤ 64 → 2 * k < f → p_X8_commonDivisor_L7 h f (a : Int) (b : Int) (i : Int) = some ((Nat.gcd a b : Nat) : Int) := by
  intro k
  induction k with
  | zero =>
    intro f a b i ha hb0 hb hi hf
    obtain ⟨f', rfl⟩ : ∃ f', f = f' + 1 := ⟨f - 1, by omega⟩
    have : b = 0 := by have : (2 : Nat) ^ 0 = 1 := rfl; omega
    subst this
    simp only [p_X8_commonDivisor_L7]
    unfold p_X8_commonDivisor_7
    rw [Nat.gcd_zero_right]
    split
    · rfl
    · rw [if_pos (by decide)]
  | succ k ih =>
    intro f a b i ha hb0 hb hi hf
    obtain ⟨f', rfl⟩ : ∃ f', f = f' + 1 + 1 := ⟨f - 2, by omega⟩
    have two : (2 : Nat) ^ (k + 1) = 2 * 2 ^ k := by rw [Nat.pow_succ]; omega
    rw [cdS, if_neg (by omega)]
    by_cases hz : b = 0
    · subst hz
      rw [if_pos (by decide), Nat.gcd_zero_right]
    · have hr := Nat.mod_lt a (show 0 < b by omega)
      rw [if_neg (by omega), gd_w (by omega), qrem_n ha (by omega) hb0, wr_1 (by omega), cdS, if_neg (by omega)]
      by_cases hz2 : a % b = 0
      · rw [hz2, if_pos (by decide), Nat.gcd_comm, Nat.gcd_rec, hz2, Nat.gcd_zero_left]
      · have hr2 := Nat.mod_lt b (show 0 < a % b by omega)
        have hr3 : b % (a % b) + a % b ≤ b := by
          have := Nat.div_add_mod b (a % b)
          have h1 : 1 ≤ b / (a % b) := (Nat.one_le_div_iff (by omega)).mpr (by omega)
          have h2 : a % b * 1 ≤ a % b * (b / (a % b)) := Nat.mul_le_mul_left _ h1
          omega
        rw [if_neg (by omega), gd_w (by omega), qrem_n hb0 (by omega) (by omega), show (i : Int) + 1 = ((i + 1 : Nat) : Int) by omega, wr_1 (by omega), show ((i + 1 : Nat) : Int) + 1 = ((i + 2 : Nat) : Int) by omega, ih f' (a % b) (b % (a % b)) (i + 2) (by omega) (by omega) (by omega) (by omega) (by omega)]
        rw [show Nat.gcd a b = Nat.gcd (a % b) (b % (a % b)) by rw [Nat.gcd_comm a b, Nat.gcd_rec b a, Nat.gcd_rec (a % b) b, Nat.gcd_comm]]
theorem gcdM (h : Mem) : ∀ (k f a b : Nat), a < 2147483648 → b < 2147483648 → b < 2 ^ k → 2 * k < f → p_X9_divisor_L13 h f (a : Int) (b : Int) = some ((Nat.gcd a b : Nat) : Int) := by
  intro k
  induction k with
  | zero =>
    intro f a b ha hb0 hb hf
    obtain ⟨f', rfl⟩ : ∃ f', f = f' + 1 := ⟨f - 1, by omega⟩
    have : b = 0 := by have : (2 : Nat) ^ 0 = 1 := rfl; omega
    subst this
    rw [dvS, Nat.gcd_zero_right, if_pos (by decide)]
  | succ k ih =>
    intro f a b ha hb0 hb hf
    obtain ⟨f', rfl⟩ : ∃ f', f = f' + 1 + 1 := ⟨f - 2, by omega⟩
    have two : (2 : Nat) ^ (k + 1) = 2 * 2 ^ k := by rw [Nat.pow_succ]; omega
    rw [dvS]
    by_cases hz : b = 0
    · subst hz
      rw [if_pos (by decide), Nat.gcd_zero_right]
    · have hr := Nat.mod_lt a (show 0 < b by omega)
      rw [if_neg (by omega), gd_w (by omega), qrem_n ha (by omega) hb0, dvS]
      by_cases hz2 : a % b = 0
      · rw [hz2, if_pos (by decide), Nat.gcd_comm, Nat.gcd_rec, hz2, Nat.gcd_zero_left]
      · have hr2 := Nat.mod_lt b (show 0 < a % b by omega)
        have hr3 : b % (a % b) + a % b ≤ b := by
          have := Nat.div_add_mod b (a % b)
          have h1 : 1 ≤ b / (a % b) := (Nat.one_le_div_iff (by omega)).mpr (by omega)
          have h2 : a % b * 1 ≤ a % b * (b / (a % b)) := Nat.mul_le_mul_left _ h1
          omega
        rw [if_neg (by omega), gd_w (by omega), qrem_n hb0 (by omega) (by omega), ih f' (a % b) (b % (a % b)) (by omega) (by omega) (by omega) (by omega)]
        rw [show Nat.gcd a b = Nat.gcd (a % b) (b % (a % b)) by rw [Nat.gcd_comm a b, Nat.gcd_rec b a, Nat.gcd_rec (a % b) b, Nat.gcd_comm]]
def FR (a : Int) (b : Nat) (w : Int) : Int := if w = 0 then qdiv (b : Int) ((Nat.gcd a.natAbs b : Nat) : Int) else qdiv a ((Nat.gcd a.natAbs b : Nat) : Int)
theorem x_frac (h : Mem) {a : Int} {b : Nat} (ha : -2147483648 < a ∧ a < 2147483648) (hb : 0 < b) (hb2 : b < 2147483648) (w : Int) : p_X8_fraction h a (b : Int) w = some (FR a b w) := by
  have hg : 0 < Nat.gcd a.natAbs b := Nat.gcd_pos_of_pos_right _ hb
  unfold p_X8_fraction p_X8_commonDivisor
  have e : babs a = ((a.natAbs : Nat) : Int) := by
    unfold babs
    split
    · omega
    · rw [wr_s (by omega) (by omega)]; omega
  have := gcdL h 31 300 a.natAbs b 0 (by omega) hb2 (by omega) (by omega) (by omega)
  rw [show (((0 : Nat) : Int)) = 0 from rfl] at this
  rw [e, this, bd_n]
  have e2 : ∀ z : Int, p_X8_fraction_18 h ((Nat.gcd a.natAbs b : Nat) : Int) z = some (qdiv z ((Nat.gcd a.natAbs b : Nat) : Int)) := by
    intro z
    unfold p_X8_fraction_18
    rw [if_neg (by omega), gd_w (by omega)]
  rw [e2, e2]
  unfold FR
  split <;> rfl
theorem y_frac (h : Mem) {a : Int} {b : Nat} (ha : -2147483648 < a ∧ a < 2147483648) (hb : 0 < b) (hb2 : b < 2147483648) (w : Int) : p_X9_fraction h a (b : Int) w = some (FR a b w) := by
  have hg : 0 < Nat.gcd a.natAbs b := Nat.gcd_pos_of_pos_right _ hb
  unfold p_X9_fraction
  have e : p_X9_divisor h a (b : Int) = some ((Nat.gcd a.natAbs b : Nat) : Int) := by
    have := gcdM h 31 300 a.natAbs b (by omega) hb2 (by omega) (by omega)
    unfold p_X9_divisor p_X9_divisor_10
    by_cases z : 0 ≤ a
    · rw [if_pos z, ← this, show ((a.natAbs : Nat) : Int) = a by omega]
    · rw [if_neg z, wr_s (by omega) (by omega), ← this, show ((a.natAbs : Nat) : Int) = -a by omega]
  rw [e, bd_n, gd_w (by omega), gd_w (by omega)]
  unfold FR
  split <;> rfl
def fac : Nat → Nat
  | 0 => 1
  | k + 1 => fac k * (k + 1)
theorem x_orders (h : Mem) {p : Nat} (hp : p < 6) : p_X8_orders h (p : Int) = some ((fac p : Nat) : Int) := by
  have key : ∀ w : Nat, w < 6 → p_X8_orders mem0 (w : Int) = some ((fac w : Nat) : Int) := by decide +kernel
  exact key p hp
theorem m_ordersL (h g : Mem) : ∀ (f : Nat) (a b c : Int), p_X9_orders_L4 h f a b c = p_X9_orders_L4 g f a b c
  | 0, _, _, _ => rfl
  | f + 1, a, b, c => by
    simp only [p_X9_orders_L4]
    unfold p_X9_orders_4
    simp only [m_ordersL h g f]
theorem y_orders (h : Mem) {p : Nat} (hp : p < 6) : p_X9_orders h (p : Int) = some ((fac p : Nat) : Int) := by
  have key : ∀ w : Nat, w < 6 → p_X9_orders mem0 (w : Int) = some ((fac w : Nat) : Int) := by decide +kernel
  rw [← key p hp]
  exact m_ordersL h mem0 300 _ _ _
theorem facs {p q : Nat} (h : p + q ≤ 4) {d : Int} (hd : -1000 ≤ d ∧ d ≤ 1000) : wr (wr (wr d * ((fac p : Nat) : Int)) * ((fac q : Nat) : Int)) = ((fac p * fac q : Nat) : Int) * d ∧ wr (wr (((fac p : Nat) : Int) * ((fac q : Nat) : Int)) * wr d) = ((fac p * fac q : Nat) : Int) * d ∧ -24000 ≤ ((fac p * fac q : Nat) : Int) * d ∧ ((fac p * fac q : Nat) : Int) * d ≤ 24000 := by
  have e : ∀ p : Nat, p < 5 → fac p = 1 ∨ fac p = 2 ∨ fac p = 6 ∨ fac p = 24 := by decide +kernel
  have f : ∀ p : Nat, p < 5 → ∀ q : Nat, q < 5 → p + q ≤ 4 → fac p * fac q ≤ 24 := by decide +kernel
  have e1 := e p (by omega)
  have e2 := e q (by omega)
  have e3 := f p (by omega) q (by omega) h
  rw [wr_s (a := d) (by omega) (by omega)]
  generalize fac p = a at *
  generalize fac q = b at *
  have w1 : wr (d * (a : Int)) = d * (a : Int) := by rcases e1 with rfl | rfl | rfl | rfl <;> exact wr_s (by omega) (by omega)
  have w2 : ((a * b : Nat) : Int) * d = d * (a : Int) * (b : Int) := by rw [Int.natCast_mul, Int.mul_comm, Int.mul_assoc]
  have w3 : -24000 ≤ d * (a : Int) * (b : Int) ∧ d * (a : Int) * (b : Int) ≤ 24000 := by
    rcases e1 with rfl | rfl | rfl | rfl <;> rcases e2 with rfl | rfl | rfl | rfl <;> omega
  have w4 : wr ((a : Int) * (b : Int)) = (a : Int) * (b : Int) := by
    rw [← Int.natCast_mul]
    exact wr_s (by omega) (by omega)
  rw [w1, w4, w2, show (a : Int) * (b : Int) * d = d * (a : Int) * (b : Int) by rw [Int.mul_comm, Int.mul_assoc]]
  exact ⟨wr_s (by omega) (by omega), wr_s (by omega) (by omega), w3⟩
/-- both ways to go through the sets -/
abbrev hb (v r : Nat) : Prop := v / 2 ^ r % 2 = 1
def ok1 (n v r : Nat) : Bool := bb (v : Int) r && (!(decide (band (v : Int) (bshl 1 (r : Int)) = 0)) && (decide (1 ≤ pop v) && (decide (pop v ≤ n) && (decide (band (v : Int) (bxor (bshl 1 (r : Int)) (-1)) = ((v - 2 ^ r : Nat) : Int)) && decide (v - 2 ^ r < ns n)))))
def ok0 (n v r : Nat) : Bool := !(bb (v : Int) r) && (decide (band (v : Int) (bshl 1 (r : Int)) = 0) && (decide (pop v + 1 ≤ n) && (decide (bor (v : Int) (bshl 1 (r : Int)) = ((v + 2 ^ r : Nat) : Int)) && decide (v + 2 ^ r < ns n))))
def ok10 (n v r : Nat) : Bool := if v / 2 ^ r % 2 = 1 then ok1 n v r else ok0 n v r
theorem sets10 : ∀ n : Nat, n < 6 → ∀ v : Nat, v < ns n → ∀ r : Nat, r < n → ok10 n v r = true := by decide +kernel
theorem sets1 {n : Nat} (hn : n ≤ 5) {v : Nat} (hv : v < ns n) {r : Nat} (hr : r < n) (z : v / 2 ^ r % 2 = 1) : bb (v : Int) r = true ∧ ¬ band (v : Int) (bshl 1 (r : Int)) = 0 ∧ 1 ≤ pop v ∧ pop v ≤ n ∧ band (v : Int) (bxor (bshl 1 (r : Int)) (-1)) = ((v - 2 ^ r : Nat) : Int) ∧ v - 2 ^ r < ns n := by
  have := sets10 n (by omega) v hv r hr
  unfold ok10 ok1 at this
  rw [if_pos z] at this
  simpa only [Bool.and_eq_true, decide_eq_true_eq, Bool.not_eq_true', decide_eq_false_iff_not] using this
theorem sets0 {n : Nat} (hn : n ≤ 5) {v : Nat} (hv : v < ns n) {r : Nat} (hr : r < n) (z : ¬ v / 2 ^ r % 2 = 1) : bb (v : Int) r = false ∧ band (v : Int) (bshl 1 (r : Int)) = 0 ∧ pop v + 1 ≤ n ∧ bor (v : Int) (bshl 1 (r : Int)) = ((v + 2 ^ r : Nat) : Int) ∧ v + 2 ^ r < ns n := by
  have := sets10 n (by omega) v hv r hr
  unfold ok10 ok0 at this
  rw [if_neg z] at this
  simpa only [Bool.and_eq_true, decide_eq_true_eq, Bool.not_eq_true', decide_eq_false_iff_not] using this
def tA (n r : Nat) (V : Nat → Int) (v : Nat) : Int := if hb v r then ((fac (pop v - 1) * fac (n - 1 - (pop v - 1)) : Nat) : Int) * (V v - V (v - 2 ^ r)) else 0
def tB (n r : Nat) (V : Nat → Int) (v : Nat) : Int := if hb v r then 0 else ((fac (pop v) * fac (n - 1 - pop v) : Nat) : Int) * (V (v + 2 ^ r) - V v)
theorem tAB {n r : Nat} (hn : n ≤ 5) (hr : r < n) (V : Nat → Int) : sumF (tA n r V) (ns n) = sumF (tB n r V) (ns n) := by
  have c : (n = 1 ∧ r = 0) ∨ (n = 2 ∧ (r = 0 ∨ r = 1)) ∨ (n = 3 ∧ (r = 0 ∨ r = 1 ∨ r = 2)) ∨ (n = 4 ∧ (r = 0 ∨ r = 1 ∨ r = 2 ∨ r = 3)) ∨ (n = 5 ∧ (r = 0 ∨ r = 1 ∨ r = 2 ∨ r = 3 ∨ r = 4)) := by omega
  rcases c with ⟨rfl, rfl⟩ | ⟨rfl, rfl | rfl⟩ | ⟨rfl, rfl | rfl | rfl⟩ | ⟨rfl, rfl | rfl | rfl | rfl⟩ | ⟨rfl, rfl | rfl | rfl | rfl | rfl⟩ <;> simp [ns, sumF, tA, tB, hb, pop, fac] <;> omega
