/-! ===== fractions; share ===== -/
theorem cdS (h : Mem) (f : Nat) (l2 l3 l4 : Int) : p_X8_commonDivisor_L7 h (f + 1) l2 l3 l4 = (if 64 ≤ l4 then some l2 else if l3 = 0 then some l2 else gd (¬ l3 = 0) (p_X8_commonDivisor_L7 h f l3 (qrem l2 l3) (wr (l4 + 1)))) := rfl
theorem dvS (h : Mem) (f : Nat) (l2 l3 : Int) : p_X9_divisor_L13 h (f + 1) l2 l3 = (if l3 = 0 then some l2 else gd (¬ l3 = 0) (p_X9_divisor_L13 h f l3 (qrem l2 l3))) := rfl
theorem gcdL (h : Mem) : ∀ (k f a b i : Nat), a < 2147483648 → b < 2147483648 → b < 2 ^ k → i + 2 * k ≤ 64 → 2 * k < f → p_X8_commonDivisor_L7 h f (a : Int) (b : Int) (i : Int) = some ((Nat.gcd a b : Nat) : Int) := by
  intro k
  induction k with
  | zero =>
    intro f a b i ha hb0 hb hi hf
    obtain ⟨f', rfl⟩ : ∃ f', f = f' + 1 := ⟨f - 1, by omega⟩
    have : b = 0 := by have : (2 : Nat) ^ 0 = 1 := rfl; omega
    subst this
    simp only [p_X8_commonDivisor_L7]
    unfold p_X8_commonDivisor_7
    rw [Nat.gcd_zero_right]
    split
    · rfl
    · rw [if_pos (by decide)]
  | succ k ih =>
    intro f a b i ha hb0 hb hi hf
    obtain ⟨f', rfl⟩ : ∃ f', f = f' + 1 + 1 := ⟨f - 2, by omega⟩
    have two : (2 : Nat) ^ (k + 1) = 2 * 2 ^ k := by rw [Nat.pow_succ]; omega
    rw [cdS, if_neg (by omega)]
    by_cases hz : b = 0
    · subst hz
      rw [if_pos (by decide), Nat.gcd_zero_right]
    · have hr := Nat.mod_lt a (show 0 < b by omega)
      rw [if_neg (by omega), gd_w (by omega), qrem_n ha (by omega) hb0, wr_1 (by omega), cdS, if_neg (by omega)]
      by_cases hz2 : a % b = 0
      · rw [hz2, if_pos (by decide), Nat.gcd_comm, Nat.gcd_rec, hz2, Nat.gcd_zero_left]
      · have hr2 := Nat.mod_lt b (show 0 < a % b by omega)
        have hr3 : b % (a % b) + a % b ≤ b := by
          have := Nat.div_add_mod b (a % b)
          have h1 : 1 ≤ b / (a % b) := (Nat.one_le_div_iff (by omega)).mpr (by omega)
          have h2 : a % b * 1 ≤ a % b * (b / (a % b)) := Nat.mul_le_mul_left _ h1
          omega
        rw [if_neg (by omega), gd_w (by omega), qrem_n hb0 (by omega) (by omega), show (i : Int) + 1 = ((i + 1 : Nat) : Int) by omega, wr_1 (by omega), show ((i + 1 : Nat) : Int) + 1 = ((i + 2 : Nat) : Int) by omega, ih f' (a % b) (b % (a % b)) (i + 2) (by omega) (by omega) (by omega) (by omega) (by omega)]
        rw [show Nat.gcd a b = Nat.gcd (a % b) (b % (a % b)) by rw [Nat.gcd_comm a b, Nat.gcd_rec b a, Nat.gcd_rec (a % b) b, Nat.gcd_comm]]
theorem gcdM (h : Mem) : ∀ (k f a b : Nat), a < 2147483648 → b < 2147483648 → b < 2 ^ k → 2 * k < f → p_X9_divisor_L13 h f (a : Int) (b : Int) = some ((Nat.gcd a b : Nat) : Int) := by
  intro k
  induction k with
  | zero =>
    intro f a b ha hb0 hb hf
    obtain ⟨f', rfl⟩ : ∃ f', f = f' + 1 := ⟨f - 1, by omega⟩
    have : b = 0 := by have : (2 : Nat) ^ 0 = 1 := rfl; omega
    subst this
    rw [dvS, Nat.gcd_zero_right, if_pos (by decide)]
  | succ k ih =>
    intro f a b ha hb0 hb hf
    obtain ⟨f', rfl⟩ : ∃ f', f = f' + 1 + 1 := ⟨f - 2, by omega⟩
    have two : (2 : Nat) ^ (k + 1) = 2 * 2 ^ k := by rw [Nat.pow_succ]; omega
    rw [dvS]
    by_cases hz : b = 0
    · subst hz
      rw [if_pos (by decide), Nat.gcd_zero_right]
    · have hr := Nat.mod_lt a (show 0 < b by omega)
      rw [if_neg (by omega), gd_w (by omega), qrem_n ha (by omega) hb0, dvS]
      by_cases hz2 : a % b = 0
      · rw [hz2, if_pos (by decide), Nat.gcd_comm, Nat.gcd_rec, hz2, Nat.gcd_zero_left]
      · have hr2 := Nat.mod_lt b (show 0 < a % b by omega)
        have hr3 : b % (a % b) + a % b ≤ b := by
          have := Nat.div_add_mod b (a % b)
          have h1 : 1 ≤ b / (a % b) := (Nat.one_le_div_iff (by omega)).mpr (by omega)
          have h2 : a % b * 1 ≤ a % b * (b / (a % b)) := Nat.mul_le_mul_left _ h1
          omega
        rw [if_neg (by omega), gd_w (by omega), qrem_n hb0 (by omega) (by omega), ih f' (a % b) (b % (a % b)) (by omega) (by omega) (by omega) (by omega)]
        rw [show Nat.gcd a b = Nat.gcd (a % b) (b % (a % b)) by rw [Nat.gcd_comm a b, Nat.gcd_rec b a, Nat.gcd_rec (a % b) b, Nat.gcd_comm]]
def FR (a : Int) (b : Nat) (w : Int) : Int := if w = 0 then qdiv (b : Int) ((Nat.gcd a.natAbs b : Nat) : Int) else qdiv a ((Nat.gcd a.natAbs b : Nat) : Int)
theorem x_frac (h : Mem) {a : Int} {b : Nat} (ha : -2147483648 < a ∧ a < 2147483648) (hb : 0 < b) (hb2 : b < 2147483648) (w : Int) : p_X8_fraction h a (b : Int) w = some (FR a b w) := by
  have hg : 0 < Nat.gcd a.natAbs b := Nat.gcd_pos_of_pos_right _ hb
  unfold p_X8_fraction p_X8_commonDivisor
  have e : babs a = ((a.natAbs : Nat) : Int) := by
    unfold babs
    split
    · omega
    · rw [wr_s (by omega) (by omega)]; omega
  have := gcdL h 31 300 a.natAbs b 0 (by omega) hb2 (by omega) (by omega) (by omega)
  rw [show (((0 : Nat) : Int)) = 0 from rfl] at this
  rw [e, this, bd_n]
  have e2 : ∀ z : Int, p_X8_fraction_18 h ((Nat.gcd a.natAbs b : Nat) : Int) z = some (qdiv z ((Nat.gcd a.natAbs b : Nat) : Int)) := by
    intro z
    unfold p_X8_fraction_18
    rw [if_neg (by omega), gd_w (by omega)]
  rw [e2, e2]
  unfold FR
  split <;> rfl
theorem y_frac (h : Mem) {a : Int} {b : Nat} (ha : -2147483648 < a ∧ a < 2147483648) (hb : 0 < b) (hb2 : b < 2147483648) (w : Int) : p_X9_fraction h a (b : Int) w = some (FR a b w) := by
  have hg : 0 < Nat.gcd a.natAbs b := Nat.gcd_pos_of_pos_right _ hb
  unfold p_X9_fraction
  have e : p_X9_divisor h a (b : Int) = some ((Nat.gcd a.natAbs b : Nat) : Int) := by
    have := gcdM h 31 300 a.natAbs b (by omega) hb2 (by omega) (by omega)
    unfold p_X9_divisor p_X9_divisor_10
    by_cases z : 0 ≤ a
    · rw [if_pos z, ← this, show ((a.natAbs : Nat) : Int) = a by omega]
    · rw [if_neg z, wr_s (by omega) (by omega), ← this, show ((a.natAbs : Nat) : Int) = -a by omega]
  rw [e, bd_n, gd_w (by omega), gd_w (by omega)]
  unfold FR
  split <;> rfl
def fac : Nat → Nat
  | 0 => 1
  | k + 1 => fac k * (k + 1)
theorem x_orders (h : Mem) {p : Nat} (hp : p < 6) : p_X8_orders h (p : Int) = some ((fac p : Nat) : Int) := by
  have key : ∀ w : Nat, w < 6 → p_X8_orders mem0 (w : Int) = some ((fac w : Nat) : Int) := by decide +kernel
  exact key p hp
theorem m_ordersL (h g : Mem) : ∀ (f : Nat) (a b c : Int), p_X9_orders_L4 h f a b c = p_X9_orders_L4 g f a b c
  | 0, _, _, _ => rfl
  | f + 1, a, b, c => by
    simp only [p_X9_orders_L4]
    unfold p_X9_orders_4
    simp only [m_ordersL h g f]
theorem y_orders (h : Mem) {p : Nat} (hp : p < 6) : p_X9_orders h (p : Int) = some ((fac p : Nat) : Int) := by
  have key : ∀ w : Nat, w < 6 → p_X9_orders mem0 (w : Int) = some ((fac w : Nat) : Int) := by decide +kernel
  rw [← key p hp]
  exact m_ordersL h mem0 300 _ _ _
theorem facs {p q : Nat} (h : p + q ≤ 4) {d : Int} (hd : -1000 ≤ d ∧ d ≤ 1000) : wr (wr (wr d * ((fac p : Nat) : Int)) * ((fac q : Nat) : Int)) = ((fac p * fac q : Nat) : Int) * d ∧ wr (wr (((fac p : Nat) : Int) * ((fac q : Nat) : Int)) * wr d) = ((fac p * fac q : Nat) : Int) * d ∧ -24000 ≤ ((fac p * fac q : Nat) : Int) * d ∧ ((fac p * fac q : Nat) : Int) * d ≤ 24000 := by
  have e : ∀ p : Nat, p < 5 → fac p = 1 ∨ fac p = 2 ∨ fac p = 6 ∨ fac p = 24 := by decide +kernel
  have f : ∀ p : Nat, p < 5 → ∀ q : Nat, q < 5 → p + q ≤ 4 → fac p * fac q ≤ 24 := by decide +kernel
  have e1 := e p (by omega)
  have e2 := e q (by omega)
  have e3 := f p (by omega) q (by omega) h
  rw [wr_s (a := d) (by omega) (by omega)]
  generalize fac p = a at *
  generalize fac q = b at *
  have w1 : wr (d * (a : Int)) = d * (a : Int) := by rcases e1 with rfl | rfl | rfl | rfl <;> exact wr_s (by omega) (by omega)
  have w2 : ((a * b : Nat) : Int) * d = d * (a : Int) * (b : Int) := by rw [Int.natCast_mul, Int.mul_comm, Int.mul_assoc]
  have w3 : -24000 ≤ d * (a : Int) * (b : Int) ∧ d * (a : Int) * (b : Int) ≤ 24000 := by
    rcases e1 with rfl | rfl | rfl | rfl <;> rcases e2 with rfl | rfl | rfl | rfl <;> omega
  have w4 : wr ((a : Int) * (b : Int)) = (a : Int) * (b : Int) := by
    rw [← Int.natCast_mul]
    exact wr_s (by omega) (by omega)
  rw [w1, w4, w2, show (a : Int) * (b : Int) * d = d * (a : Int) * (b : Int) by rw [Int.mul_comm, Int.mul_assoc]]
  exact ⟨wr_s (by omega) (by omega), wr_s (by omega) (by omega), w3⟩
/-- both ways to go through the sets -/
abbrev hb (v r : Nat) : Prop := v / 2 ^ r % 2 = 1
def ok1 (n v r : Nat) : Bool := bb (v : Int) r && (!(decide (band (v : Int) (bshl 1 (r : Int)) = 0)) && (decide (1 ≤ pop v) && (decide (pop v ≤ n) && (decide (band (v : Int) (bxor (bshl 1 (r : Int)) (-1)) = ((v - 2 ^ r : Nat) : Int)) && decide (v - 2 ^ r < ns n)))))
def ok0 (n v r : Nat) : Bool := !(bb (v : Int) r) && (decide (band (v : Int) (bshl 1 (r : Int)) = 0) && (decide (pop v + 1 ≤ n) && (decide (bor (v : Int) (bshl 1 (r : Int)) = ((v + 2 ^ r : Nat) : Int)) && decide (v + 2 ^ r < ns n))))
def ok10 (n v r : Nat) : Bool := if v / 2 ^ r % 2 = 1 then ok1 n v r else ok0 n v r
theorem sets10 : ∀ n : Nat, n < 6 → ∀ v : Nat, v < ns n → ∀ r : Nat, r < n → ok10 n v r = true := by decide +kernel
theorem sets1 {n : Nat} (hn : n ≤ 5) {v : Nat} (hv : v < ns n) {r : Nat} (hr : r < n) (z : v / 2 ^ r % 2 = 1) : bb (v : Int) r = true ∧ ¬ band (v : Int) (bshl 1 (r : Int)) = 0 ∧ 1 ≤ pop v ∧ pop v ≤ n ∧ band (v : Int) (bxor (bshl 1 (r : Int)) (-1)) = ((v - 2 ^ r : Nat) : Int) ∧ v - 2 ^ r < ns n := by
  have := sets10 n (by omega) v hv r hr
  unfold ok10 ok1 at this
  rw [if_pos z] at this
  simpa only [Bool.and_eq_true, decide_eq_true_eq, Bool.not_eq_true', decide_eq_false_iff_not] using this
theorem sets0 {n : Nat} (hn : n ≤ 5) {v : Nat} (hv : v < ns n) {r : Nat} (hr : r < n) (z : ¬ v / 2 ^ r % 2 = 1) : bb (v : Int) r = false ∧ band (v : Int) (bshl 1 (r : Int)) = 0 ∧ pop v + 1 ≤ n ∧ bor (v : Int) (bshl 1 (r : Int)) = ((v + 2 ^ r : Nat) : Int) ∧ v + 2 ^ r < ns n := by
  have := sets10 n (by omega) v hv r hr
  unfold ok10 ok0 at this
  rw [if_neg z] at this
  simpa only [Bool.and_eq_true, decide_eq_true_eq, Bool.not_eq_true', decide_eq_false_iff_not] using this
def tA (n r : Nat) (V : Nat → Int) (v : Nat) : Int := if hb v r then ((fac (pop v - 1) * fac (n - 1 - (pop v - 1)) : Nat) : Int) * (V v - V (v - 2 ^ r)) else 0
def tB (n r : Nat) (V : Nat → Int) (v : Nat) : Int := if hb v r then 0 else ((fac (pop v) * fac (n - 1 - pop v) : Nat) : Int) * (V (v + 2 ^ r) - V v)
theorem tAB {n r : Nat} (hn : n ≤ 5) (hr : r < n) (V : Nat → Int) : sumF (tA n r V) (ns n) = sumF (tB n r V) (ns n) := by
  have c : (n = 1 ∧ r = 0) ∨ (n = 2 ∧ (r = 0 ∨ r = 1)) ∨ (n = 3 ∧ (r = 0 ∨ r = 1 ∨ r = 2)) ∨ (n = 4 ∧ (r = 0 ∨ r = 1 ∨ r = 2 ∨ r = 3)) ∨ (n = 5 ∧ (r = 0 ∨ r = 1 ∨ r = 2 ∨ r = 3 ∨ r = 4)) := by omega
  rcases c with ⟨rfl, rfl⟩ | ⟨rfl, rfl | rfl⟩ | ⟨rfl, rfl | rfl | rfl⟩ | ⟨rfl, rfl | rfl | rfl | rfl⟩ | ⟨rfl, rfl | rfl | rfl | rfl | rfl⟩ <;> simp [ns, sumF, tA, tB, hb, pop, fac] <;> omega
section SHARE
variable {h h' g : Mem} {n : Nat} {c H : Nat → Fin 10} {ow : Nat → Fin 4} {S sm : Int} {k : Nat} {ri : Nat → Fin 10} {sp : Nat → Fin 4} {wo : Nat → Fin 10} {law hr : Nat} {cl : Int}
theorem tA_b {n r : Nat} (hn : n ≤ 5) (hr : r < n) {V : Nat → Int} (hV : ∀ u, 0 ≤ V u ∧ V u ≤ 400) {v : Nat} (hv : v < ns n) : -24000 ≤ tA n r V v ∧ tA n r V v ≤ 24000 := by
  unfold tA
  by_cases z : v / 2 ^ r % 2 = 1
  · obtain ⟨z1, z2, z3, z4, z5, z6⟩ := sets1 hn hv hr z
    rw [if_pos z]
    have a := hV v
    have b := hV (v - 2 ^ r)
    exact (facs (p := pop v - 1) (q := n - 1 - (pop v - 1)) (by omega) (d := V v - V (v - 2 ^ r)) (by omega)).2.2
  · rw [if_neg z]; omega
theorem tB_b {n r : Nat} (hn : n ≤ 5) (hr : r < n) {V : Nat → Int} (hV : ∀ u, 0 ≤ V u ∧ V u ≤ 400) {v : Nat} (hv : v < ns n) : -24000 ≤ tB n r V v ∧ tB n r V v ≤ 24000 := by
  unfold tB
  by_cases z : v / 2 ^ r % 2 = 1
  · rw [if_pos z]; omega
  · obtain ⟨z1, z2, z3, z4, z5⟩ := sets0 hn hv hr z
    rw [if_neg z]
    have a := hV v
    have b := hV (v + 2 ^ r)
    exact (facs (p := pop v) (q := n - 1 - pop v) (by omega) (d := V (v + 2 ^ r) - V v) (by omega)).2.2
theorem x_gainAll (v : TV h 7 n c H ow sm) {r : Nat} (hr : r < n) {V : Nat → Int} (hV : ∀ u, 0 ≤ V u ∧ V u ≤ 400) (hm : ∀ u : Nat, u < ns n → h 44 (u : Int) = V u) : p_X8_gainInAllOrders h (r : Int) = some (sumF (tA n r V) (ns n)) := by
  have hn := v.1
  obtain ⟨eA, nb1, nb2⟩ := AL_ns hn
  unfold p_X8_gainInAllOrders
  refine loop_up (fun f i a => p_X8_gainInAllOrders_L9 h f a (bshl 1 (r : Int)) i) (sumF (tA n r V)) (ns n) _ ?_ ?_ 300 0 (Nat.zero_le _) (by omega)
  · intro f u hu
    have hb := sumF_b (g := tA n r V) (lo := -24000) (hi := 24000) (n := u) (fun s hs => tA_b hn hr hV (by omega))
    have hb1 := tA_b hn hr hV hu
    simp only [p_X8_gainInAllOrders_L9]
    unfold p_X8_gainInAllOrders_9
    rw [t_every v, bd_n, if_neg (by omega), if_neg (by omega)]
    by_cases z : u / 2 ^ r % 2 = 1
    · obtain ⟨z1, z2, z3, z4, z5, z6⟩ := sets1 hn hu hr z
      have a := hV u
      have b := hV (u - 2 ^ r)
      have fc := facs (p := pop u - 1) (q := n - 1 - (pop u - 1)) (by omega) (d := V u - V (u - 2 ^ r)) (by omega)
      have et : tA n r V u = ((fac (pop u - 1) * fac (n - 1 - (pop u - 1)) : Nat) : Int) * (V u - V (u - 2 ^ r)) := if_pos z
      rw [if_neg z2, j_many h (by omega), bd_n, gd_w (by omega), z5, gd_w (by omega), wr_s (a := ((pop u : Nat) : Int) - 1) (by omega) (by omega), show ((pop u : Nat) : Int) - 1 = ((pop u - 1 : Nat) : Int) by omega, x_orders h (by omega), bd_n, v.2.1, wr_s (a := (n : Int) - 1) (by omega) (by omega), wr_s (a := (n : Int) - 1 - ((pop u - 1 : Nat) : Int)) (by omega) (by omega), show (n : Int) - 1 - ((pop u - 1 : Nat) : Int) = ((n - 1 - (pop u - 1) : Nat) : Int) by omega, x_orders h (by omega), bd_n, hm u hu, hm _ z6, fc.1, ← et]
      unfold p_X8_gainInAllOrders_96
      rw [wr_1 (by omega), wr_s (by omega) (by omega)]
      rfl
    · obtain ⟨z1, z2, z3, z4, z5⟩ := sets0 hn hu hr z
      have et : tA n r V u = 0 := if_neg z
      rw [if_pos z2]
      unfold p_X8_gainInAllOrders_96
      rw [wr_1 (by omega)]
      show _ = p_X8_gainInAllOrders_L9 h f (sumF (tA n r V) u + tA n r V u) _ _
      rw [et, Int.add_zero]
  · intro f
    simp only [p_X8_gainInAllOrders_L9]
    unfold p_X8_gainInAllOrders_9
    rw [t_every v, bd_n, if_pos (by omega)]
theorem fac_b : ∀ n : Nat, n < 6 → 0 < fac n ∧ fac n < 1000 := by decide +kernel
noncomputable def s_share (n : Nat) (c H : Nat → Fin 10) (ow : Nat → Fin 4) (sm : Int) (k : Nat) (ri : Nat → Fin 10) (sp : Nat → Fin 4) (wo : Nat → Fin 10) (law hr : Nat) (cl r m w : Int) : Int := if 0 ≤ r ∧ r < (n : Int) then if 1 ≤ m ∧ m ≤ 10 then FR (sumF (tA n r.toNat (fun u => RT n c H ow (u : Int) sm law k ri sp wo cl hr m.toNat 4)) (ns n)) (fac n) w else -2 else -1
theorem x_share (v : CV h n c H ow sm k ri sp wo law hr cl) (r m w : Int) : ∃ h', p_X8_share h r m w = some (s_share n c H ow sm k ri sp wo law hr cl r m w, h') ∧ Sc h h' := by
  unfold p_X8_share s_share
  rw [t_hasR v.1, bd_n]
  by_cases q0 : 0 ≤ r ∧ r < (n : Int)
  · rw [if01_t q0, if_pos q0, x_span, bd_n]
    by_cases q : 1 ≤ m ∧ m ≤ 10
    · rw [if01_t q, if_pos q]
      obtain ⟨m', rfl⟩ := toN (show 0 ≤ m by omega)
      obtain ⟨r', rfl⟩ := toN q0.1
      simp only [Int.toNat_natCast]
      have hr' : r' < n := by omega
      have hn := v.1.1
      have hk := v.2.1.1
      obtain ⟨eA, nb1, nb2⟩ := AL_ns hn
      have hV : ∀ u : Nat, 0 ≤ RT n c H ow (u : Int) sm law k ri sp wo cl hr m' 4 ∧ RT n c H ow (u : Int) sm law k ri sp wo cl hr m' 4 ≤ 400 := fun u => by
        have := RT_b n c H ow (u : Int) sm law k ri sp wo cl hr m' 4 hk
        omega
      refine loop_inv (fun f i (a : Mem) => p_X8_share_L28 f a (r' : Int) (m' : Int) w i) (ns n) (fun j a => Sc h a ∧ ∀ u : Nat, u < j → a 44 (u : Int) = RT n c H ow (u : Int) sm law k ri sp wo cl hr m' 4) (fun o => ∃ h', o = some (FR (sumF (tA n r' (fun u => RT n c H ow (u : Int) sm law k ri sp wo cl hr m' 4)) (ns n)) (fac n) w, h') ∧ Sc h h') ?_ ?_ 300 0 h (Nat.zero_le _) (by omega) ⟨Sc.rf h, fun u hu => by omega⟩
      · rintro f u a hu ⟨i1, i2⟩
        have va := v.sc i1
        obtain ⟨b, eb, sb⟩ := t_survey va.1 (by decide) (bb_ns hn hu) law
        have vb := va.sc sb.sc
        have ht := t_takings (t := 7) sb hn vb.2.1 (T := (u : Int)) (pr := fun j => (4 : Int) = 4 ∨ ((ow j).val : Int) = 4) (fun r h1 h2 => ⟨fun _ => Or.inl rfl, fun _ => h2⟩) vb.2.2.2.1 (by have := v.2.2.2.2.2.1; omega) (show m' ≤ 100 by omega)
        rw [vb.2.2.2.2.1] at ht
        simp only [p_X8_share_L28]
        unfold p_X8_share_28
        rw [t_every va.1, bd_n, if_neg (by omega), if_neg (by omega), va.2.2.1, eb, bd_n, ht, bd_n, gd_w (by omega), wr_1 (by omega)]
        refine ⟨_, ⟨(i1.tr sb.sc).tr (Sc.up b (i := 44) (Or.inr (Or.inr ⟨by decide, by decide⟩)) _ _), fun j hj => ?_⟩, rfl⟩
        by_cases e : j = u
        · subst e; rw [up_eq]; rfl
        · rw [up_k _ _ _ _ (by omega), sb.1 44 (by decide) (by decide) (by decide)]
          exact i2 j (by omega)
      · rintro f a ⟨i1, i2⟩
        have va := v.sc i1
        simp only [p_X8_share_L28]
        unfold p_X8_share_28
        rw [t_every va.1, bd_n, if_pos (by omega)]
        unfold p_X8_share_95
        have hb := sumF_b (g := tA n r' (fun u => RT n c H ow (u : Int) sm law k ri sp wo cl hr m' 4)) (lo := -24000) (hi := 24000) (n := ns n) (fun s hs => tA_b hn hr' hV hs)
        have fb := fac_b n (by omega)
        rw [x_gainAll va.1 hr' hV i2, bd_n, va.1.2.1, x_orders a (by omega), bd_n, x_frac a (by omega) (by omega) (by omega), bd_n]
        exact ⟨a, rfl, i1⟩
    · rw [if01_f q, if_neg q]; exact ⟨h, rfl, Sc.rf h⟩
  · rw [if01_f q0, if_neg q0]; exact ⟨h, rfl, Sc.rf h⟩
theorem y_share (v : MV2 h n c H ow sm k ri sp wo law hr cl) (r m w : Int) : ∃ h', p_X9_share h r m w = some (s_share n c H ow sm k ri sp wo law hr cl r m w, h') ∧ Sm h h' := by
  have s0 := Sm.up0 h
  have v0 := v.md s0
  unfold p_X9_share s_share
  generalize up h 45 0 0 = g at *
  rw [m_noRoof v0.1, bd_n]
  by_cases q0 : 0 ≤ r ∧ r < (n : Int)
  · rw [if10_t q0, if_pos q0, m_in, bd_n]
    by_cases q : 1 ≤ m ∧ m ≤ 10
    · rw [if01_t q, if_pos q]
      obtain ⟨m', rfl⟩ := toN (show 0 ≤ m by omega)
      obtain ⟨r', rfl⟩ := toN q0.1
      simp only [Int.toNat_natCast]
      have hr' : r' < n := by omega
      have hn := v.1.1
      have hk := v.2.1.1
      obtain ⟨eA, nb1, nb2⟩ := AL_ns hn
      have hV : ∀ u : Nat, 0 ≤ RT n c H ow (u : Int) sm law k ri sp wo cl hr m' 4 ∧ RT n c H ow (u : Int) sm law k ri sp wo cl hr m' 4 ≤ 400 := fun u => by
        have := RT_b n c H ow (u : Int) sm law k ri sp wo cl hr m' 4 hk
        omega
      refine loop_inv (fun f i (a : Mem) => p_X9_share_L33 f a (r' : Int) (m' : Int) w i) (ns n) (fun j a => Sm h a ∧ ∀ u : Nat, u < j → a 61 (u : Int) = RT n c H ow (u : Int) sm law k ri sp wo cl hr m' 4) (fun o => ∃ h', o = some (FR (sumF (tA n r' (fun u => RT n c H ow (u : Int) sm law k ri sp wo cl hr m' 4)) (ns n)) (fac n) w, h') ∧ Sm h h') ?_ ?_ 300 0 g (Nat.zero_le _) (by omega) ⟨s0, fun u hu => by omega⟩
      · rintro f u a hu ⟨i1, i2⟩
        have va := v.md i1
        have hR : p_X9_rentsOf a 53 (u : Int) (hr : Int) (m' : Int) 4 (law : Int) = some (RT n c H ow (u : Int) sm law k ri sp wo cl hr m' 4) := by
          rw [m_rentsOf va.1 va.2.1 (by have := v.2.2.2.2.2.1; omega) (by omega) (u : Int) (by decide), va.2.2.2.2.1]
          rfl
        simp only [p_X9_share_L33]
        unfold p_X9_share_33
        rw [m_all va.1, bd_n, if_neg (by omega), va.2.2.2.1, va.2.2.1, hR, bd_n, gd_w (by omega), wr_1 (by omega)]
        refine ⟨_, ⟨i1.tr (Sm.upr a (i := 61) (by decide) _ _), fun j hj => ?_⟩, rfl⟩
        by_cases e : j = u
        · subst e; rw [up_eq]
        · rw [up_k _ _ _ _ (by omega)]
          exact i2 j (by omega)
      · rintro f a ⟨i1, i2⟩
        have va := v.md i1
        simp only [p_X9_share_L33]
        unfold p_X9_share_33
        rw [m_all va.1, bd_n, if_pos (by omega)]
        unfold p_X9_share_78
        rw [tAB hn hr']
        obtain ⟨V, hVe, hV, i2⟩ : ∃ V : Nat → Int, (fun u : Nat => RT n c H ow (u : Int) sm law k ri sp wo cl hr m' 4) = V ∧ (∀ u, 0 ≤ V u ∧ V u ≤ 400) ∧ ∀ u : Nat, u < ns n → a 61 (u : Int) = V u := ⟨_, rfl, hV, i2⟩
        rw [hVe]
        refine ⟨a, ?_, i1⟩
        refine loop_up (fun f i z => p_X9_share_L84 f a (r' : Int) w z i) (sumF (tB n r' V)) (ns n) _ ?_ ?_ 300 0 (Nat.zero_le _) (by omega)
        · intro f u hu
          have hb := sumF_b (g := tB n r' V) (lo := -24000) (hi := 24000) (n := u) (fun s hs => tB_b hn hr' hV (by omega))
          have hb1 := tB_b hn hr' hV hu
          simp only [p_X9_share_L84]
          unfold p_X9_share_84
          rw [m_all va.1, bd_n, if_neg (by omega), m_has a _ (by omega)]
          by_cases z : u / 2 ^ r' % 2 = 1
          · obtain ⟨z1, z2, z3, z4, z5, z6⟩ := sets1 hn hu hr' z
            have et : tB n r' V u = 0 := if_pos z
            rw [if_pos z1, bd_n, if_neg (by decide)]
            unfold p_X9_share_152
            rw [wr_1 (by omega)]
            show _ = p_X9_share_L84 f a (r' : Int) w (sumF (tB n r' V) u + tB n r' V u) _
            rw [et, Int.add_zero]
          · obtain ⟨z1, z2, z3, z4, z5⟩ := sets0 hn hu hr' z
            have x := hV u
            have y := hV (u + 2 ^ r')
            have fc := facs (p := pop u) (q := n - 1 - pop u) (by omega) (d := V (u + 2 ^ r') - V u) (by omega)
            have et : tB n r' V u = ((fac (pop u) * fac (n - 1 - pop u) : Nat) : Int) * (V (u + 2 ^ r') - V u) := if_neg z
            rw [if_neg (by rw [z1]; decide), bd_n, if_pos rfl, m_many a (by omega), bd_n, y_orders a (by omega), bd_n, va.1.2.1, wr_s (a := (n : Int) - 1) (by omega) (by omega), wr_s (a := (n : Int) - 1 - ((pop u : Nat) : Int)) (by omega) (by omega), show (n : Int) - 1 - ((pop u : Nat) : Int) = ((n - 1 - pop u : Nat) : Int) by omega, y_orders a (by omega), bd_n, z4, gd_w ⟨Int.natCast_nonneg _, by omega⟩, gd_w (by omega), i2 u hu, i2 _ z5, fc.2.1, ← et]
            unfold p_X9_share_152
            rw [wr_1 (by omega), wr_s (by omega) (by omega)]
            rfl
        · intro f
          have hb := sumF_b (g := tB n r' V) (lo := -24000) (hi := 24000) (n := ns n) (fun s hs => tB_b hn hr' hV hs)
          have fb := fac_b n (by omega)
          simp only [p_X9_share_L84]
          unfold p_X9_share_84
          rw [m_all va.1, bd_n, if_pos (by omega)]
          unfold p_X9_share_158
          rw [va.1.2.1, y_orders a (by omega), bd_n, y_frac a (by omega) (by omega) (by omega), bd_n]
    · rw [if01_f q, if_neg q]; exact ⟨g, rfl, s0⟩
  · rw [if10_f q0, if_neg q0]; exact ⟨g, rfl, s0⟩
end SHARE
