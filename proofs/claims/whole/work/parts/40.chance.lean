/-! ===== chance, nights ===== -/
theorem qdiv_m {a b : Nat} (ha : a < 2147483648) (hb : 0 < b) (hb2 : b < 2147483648) : qdiv (a : Int) (b : Int) = ((a / b : Nat) : Int) := by
  unfold qdiv
  rw [I3_nat, I3_nat, pk_div (by omega) hb (by omega), nI_toInt (Nat.lt_of_le_of_lt (Nat.div_le_self a b) (by omega))]
theorem FR_scale {a b t : Nat} (ht : 0 < t) (hb : 0 < b) (h1 : t * a < 2147483648) (h2 : t * b < 2147483648) (w : Int) : FR ((t * a : Nat) : Int) (t * b) w = FR (a : Int) b w := by
  have a1 : a ≤ t * a := Nat.le_mul_of_pos_left a ht
  have b1 : b ≤ t * b := Nat.le_mul_of_pos_left b ht
  have hg : 0 < Nat.gcd a b := Nat.gcd_pos_of_pos_right _ hb
  have hg2 : Nat.gcd a b ≤ b := Nat.gcd_le_right a hb
  have tg : t * Nat.gcd a b ≤ t * b := Nat.mul_le_mul_left t hg2
  have tp : 0 < t * Nat.gcd a b := Nat.mul_pos ht hg
  unfold FR
  rw [Int.natAbs_natCast, Int.natAbs_natCast, Nat.gcd_mul_left, qdiv_m (a := t * b) h2 tp (by omega), qdiv_m (a := t * a) h1 tp (by omega), qdiv_m (a := b) (by omega) hg (by omega), qdiv_m (a := a) (by omega) hg (by omega), Nat.mul_div_mul_left _ _ ht, Nat.mul_div_mul_left _ _ ht]
theorem pow_b {c j m : Nat} (hc : c ≤ 10) (hj : j ≤ m) (hm : m ≤ 6) : c ^ j ≤ 10 ^ j ∧ 10 ^ j ≤ 1000000 ∧ 0 < 10 ^ j := by
  refine ⟨Nat.pow_le_pow_left hc j, ?_, Nat.pow_pos (by decide)⟩
  have : 10 ^ j ≤ 10 ^ 6 := Nat.pow_le_pow_right (by decide) (by omega)
  omega
section CHANCE
variable {h h' g : Mem} {n : Nat} {c H : Nat → Fin 10} {ow : Nat → Fin 4} {S sm : Int} {k : Nat} {ri : Nat → Fin 10} {sp : Nat → Fin 4} {wo : Nat → Fin 10} {law hr : Nat} {cl : Int}
/-- an hour in which a star pays -/
def Pys (n : Nat) (c H : Nat → Fin 10) (ri : Nat → Fin 10) (sp : Nat → Fin 4) (wo : Nat → Fin 10) (sm : Int) (law hr s i : Nat) : Prop := 0 < get1 (HD n c H (AL n) law ri sp s (hr + i)) (fun _ => True) (wo s).val (smk n c (AL n) sm)
noncomputable def s_chance (n : Nat) (c H : Nat → Fin 10) (k : Nat) (ri : Nat → Fin 10) (sp : Nat → Fin 4) (wo : Nat → Fin 10) (sm : Int) (law hr : Nat) (s m d w : Int) : Int := if 0 ≤ s ∧ s < (k : Int) then if 1 ≤ m ∧ m ≤ 6 then if 0 ≤ d ∧ d ≤ 10 then FR (((10 ^ cnt (Pys n c H ri sp wo sm law hr s.toNat) m.toNat - d.toNat ^ cnt (Pys n c H ri sp wo sm law hr s.toNat) m.toNat : Nat) : Int)) (10 ^ cnt (Pys n c H ri sp wo sm law hr s.toNat) m.toNat) w else -2 else -2 else -1
theorem x_chance (v : CV h n c H ow sm k ri sp wo law hr cl) (s m d w : Int) : ∃ h', p_X8_chance h s m d w = some (s_chance n c H k ri sp wo sm law hr s m d w, h') ∧ Sc h h' := by
  unfold p_X8_chance s_chance
  rw [t_hasSR v.2.1, bd_n]
  by_cases q0 : 0 ≤ s ∧ s < (k : Int)
  · rw [if01_t q0, if_pos q0, x_span, bd_n]
    by_cases q : 1 ≤ m ∧ m ≤ 6
    · rw [if01_t q, if_pos q]
      by_cases d0 : d < 0
      · rw [if_pos d0, if_neg (by omega)]; exact ⟨h, rfl, Sc.rf h⟩
      · rw [if_neg d0]
        by_cases d1 : d ≤ 10
        · rw [if_pos d1, if_pos (show 0 ≤ d ∧ d ≤ 10 from ⟨by omega, d1⟩)]
          obtain ⟨m', rfl⟩ := toN (show 0 ≤ m by omega)
          obtain ⟨s', rfl⟩ := toN q0.1
          obtain ⟨d', rfl⟩ := toN (show 0 ≤ d by omega)
          have hs : s' < k := by omega
          simp only [Int.toNat_natCast]
          obtain ⟨h', e, sv⟩ := x_survey v
          have v' := v.sc sv.sc
          have hn := v.1.1
          have h40 := v.2.2.2.2.2.1
          rw [e, bd_n]
          refine ⟨h', ?_, sv.sc⟩
          generalize hP : Pys n c H ri sp wo sm law hr s' = P at *
          refine loop_up (fun f i (a : Int × Int) => p_X8_chance_L48 f h' (s' : Int) (m' : Int) (d' : Int) w a.1 a.2 i) (fun j => (((10 ^ cnt P j : Nat) : Int), ((d' ^ cnt P j : Nat) : Int))) m' _ ?_ ?_ 300 0 (Nat.zero_le _) (by omega)
          · intro f i hi
            have cle := cnt_le P i
            have pb := pow_b (c := d') (j := cnt P i + 1) (m := 6) (by omega) (by omega) (by omega)
            have pb0 := pow_b (c := d') (j := cnt P i) (m := 6) (by omega) (by omega) (by omega)
            simp only [p_X8_chance_L48]
            unfold p_X8_chance_48
            rw [if_neg (by omega), v'.2.2.2.1, wr_s (by omega) (by omega), ← Int.natCast_add, t_payOf sv hn v'.2.1 hs (by have := v.2.2.2.2.2.1; omega), bd_n]
            have eP : P i ↔ 0 < get1 (HD n c H (AL n) law ri sp s' (hr + i)) (fun _ => True) (wo s').val (smk n c (AL n) sm) := by rw [← hP]; exact Iff.rfl
            by_cases z : P i
            · have := eP.mp z
              rw [if_neg (by omega), show (10 : Int) = ((10 : Nat) : Int) from rfl, ← Int.natCast_mul, ← Int.natCast_mul, ← Nat.pow_succ, ← Nat.pow_succ, wr_s (a := ((10 ^ (cnt P i + 1) : Nat) : Int)) (by omega) (by omega), wr_s (a := ((d' ^ (cnt P i + 1) : Nat) : Int)) (by omega) (by omega), cnt_t z]
              unfold p_X8_chance_92
              rw [wr_1 (by omega)]
            · have : ¬ 0 < get1 (HD n c H (AL n) law ri sp s' (hr + i)) (fun _ => True) (wo s').val (smk n c (AL n) sm) := fun y => z (eP.mpr y)
              rw [if_pos (by omega), cnt_f z]
              unfold p_X8_chance_92
              rw [wr_1 (by omega)]
          · intro f
            have cle := cnt_le P m'
            have pb := pow_b (c := d') (j := cnt P m') (m := 6) (by omega) (by omega) (by omega)
            simp only [p_X8_chance_L48]
            unfold p_X8_chance_48
            rw [if_pos (by omega)]
            unfold p_X8_chance_98
            rw [wr_s (by omega) (by omega), ← Int.ofNat_sub pb.1, x_frac h' (by omega) pb.2.2 (by omega), bd_n]
        · rw [if_neg d1, if_neg (by omega)]; exact ⟨h, rfl, Sc.rf h⟩
    · rw [if01_f q, if_neg q]; exact ⟨h, rfl, Sc.rf h⟩
  · rw [if01_f q0, if_neg q0]; exact ⟨h, rfl, Sc.rf h⟩
theorem y_chance (v : MV2 h n c H ow sm k ri sp wo law hr cl) (s m d w : Int) : ∃ h', p_X9_chance h s m d w = some (s_chance n c H k ri sp wo sm law hr s m d w, h') ∧ Sm h h' := by
  refine ⟨_, ?_, Sm.up0 h⟩
  have v' := v.md (Sm.up0 h)
  obtain ⟨v1, v2, v3, v4, v5, v6, v7⟩ := id v'
  have hk := v2.1
  unfold p_X9_chance s_chance
  generalize up h 45 0 0 = g at *
  rw [m_noStar v2, bd_n]
  by_cases q0 : 0 ≤ s ∧ s < (k : Int)
  · rw [if10_t q0, if_pos q0, m_in, bd_n]
    by_cases q : 1 ≤ m ∧ m ≤ 6
    · rw [if01_t q, if_pos q, m_in, bd_n]
      by_cases d1 : 0 ≤ d ∧ d ≤ 10
      · rw [if01_t d1, if_pos d1]
        obtain ⟨m', rfl⟩ := toN (show 0 ≤ m by omega)
        obtain ⟨s', rfl⟩ := toN q0.1
        obtain ⟨d', rfl⟩ := toN (show 0 ≤ d by omega)
        have hs : s' < k := by omega
        simp only [Int.toNat_natCast]
        generalize hP : Pys n c H ri sp wo sm law hr s' = P at *
        rw [v4]
        have e0 : (hr : Int) + ((0 : Nat) : Int) = (hr : Int) := by omega
        have key := loop_up (fun f i (a : Int × Int) => p_X9_chance_L57 f g (s' : Int) (m' : Int) (d' : Int) w a.1 a.2 ((hr : Int) + i)) (fun j => (((d' ^ cnt P j * 10 ^ (j - cnt P j) : Nat) : Int), ((10 ^ j : Nat) : Int))) m' (some (FR (((10 ^ cnt P m' - d' ^ cnt P m' : Nat) : Int)) (10 ^ cnt P m') w, g)) ?_ ?_ 300 0 (Nat.zero_le _) (by omega)
        · simp only [e0] at key
          exact key
        · intro f i hi
          have cle := cnt_le P i
          have pb := pow_b (c := 10) (j := i + 1) (m := 6) (by omega) (by omega) (by omega)
          have pc := Nat.mul_le_mul (pow_b (c := d') (j := cnt P i) (m := 6) (by omega) (by omega) (by omega)).1 (Nat.le_refl (10 ^ (i - cnt P i)))
          rw [← Nat.pow_add, show cnt P i + (i - cnt P i) = i by omega] at pc
          have pi := pow_b (c := 10) (j := i) (m := 6) (by omega) (by omega) (by omega)
          have pi1 : 10 ^ (i + 1) = 10 ^ i * 10 := Nat.pow_succ 10 i
          simp only [p_X9_chance_L57]
          unfold p_X9_chance_57
          rw [v4, wr_s (a := (hr : Int) + (m' : Int)) (by omega) (by omega), if_neg (by omega), m_all v1, bd_n, v3, ← Int.natCast_add, m_holder v1 v2 hs (by omega), bd_n, Int.natCast_add]
          have eP : P i ↔ 0 < get1 (HD n c H (AL n) law ri sp s' (hr + i)) (fun _ => True) (wo s').val (smk n c (AL n) sm) := by rw [← hP]; exact Iff.rfl
          have no : ¬ P i → p_X9_chance_123 (fun h l1 l2 l3 l4 l5 l6 l7 => p_X9_chance_L57 f h l1 l2 l3 l4 l5 l6 l7) g (s' : Int) (m' : Int) (d' : Int) w ((d' ^ cnt P i * 10 ^ (i - cnt P i) : Nat) : Int) ((10 ^ i : Nat) : Int) ((hr : Int) + (i : Int)) = p_X9_chance_L57 f g (s' : Int) (m' : Int) (d' : Int) w ((d' ^ cnt P (i + 1) * 10 ^ (i + 1 - cnt P (i + 1)) : Nat) : Int) ((10 ^ (i + 1) : Nat) : Int) ((hr : Int) + ((i : Int) + 1)) := by
            intro z
            unfold p_X9_chance_123 p_X9_chance_124 p_X9_chance_139
            rw [if_pos rfl, show (10 : Int) = ((10 : Nat) : Int) from rfl, ← Int.natCast_mul, ← Int.natCast_mul, Nat.mul_assoc, ← Nat.pow_succ, ← Nat.pow_succ, show (i - cnt P i).succ = i + 1 - cnt P i by omega, cnt_f z, wr_s (a := (hr : Int) + (i : Int) + 1) (by omega) (by omega), Int.add_assoc]
            have : d' ^ cnt P i * 10 ^ (i + 1 - cnt P i) = d' ^ cnt P i * 10 ^ (i - cnt P i) * 10 := by rw [show i + 1 - cnt P i = (i - cnt P i) + 1 by omega, Nat.pow_succ, Nat.mul_assoc]
            rw [wr_s (a := ((d' ^ cnt P i * 10 ^ (i + 1 - cnt P i) : Nat) : Int)) (by omega) (by omega), wr_s (by omega) (by omega)]
          rcases HD_in n c H (AL n) law ri sp s' (hr + i) with z | ⟨j, z1, z2, z3⟩
          · rw [if_pos z]
            apply no
            rw [eP, get1_f (Or.inl z)]
            decide
          · rw [if_neg (by omega), bd_n, v1.2.2.1, z2, m_pays v1 v2 hs z1, bd_n]
            rw [get1_t z2 trivial] at eP
            by_cases z : P i
            · have := eP.mp z
              rw [if_neg (by omega)]
              unfold p_X9_chance_124 p_X9_chance_139
              rw [if_neg (by decide), show (10 : Int) = ((10 : Nat) : Int) from rfl, ← Int.natCast_mul, ← Int.natCast_mul, ← Nat.pow_succ, wr_s (a := (hr : Int) + (i : Int) + 1) (by omega) (by omega), Int.add_assoc, cnt_t z, show i + 1 - (cnt P i + 1) = i - cnt P i by omega]
              have e1 : d' ^ cnt P i * 10 ^ (i - cnt P i) * d' = d' ^ (cnt P i + 1) * 10 ^ (i - cnt P i) := by rw [Nat.pow_succ, Nat.mul_right_comm]
              have e2 : d' ^ cnt P i * 10 ^ (i - cnt P i) * d' ≤ 10 ^ i * 10 := Nat.mul_le_mul pc (by omega)
              rw [wr_s (a := ((d' ^ cnt P i * 10 ^ (i - cnt P i) * d' : Nat) : Int)) (by omega) (by omega), e1, wr_s (by omega) (by omega)]
            · have : ¬ (0 : Int) < (((wo s').val - smk n c (AL n) sm j : Nat) : Int) := fun y => z (eP.mpr y)
              rw [if_pos (by omega)]
              exact no z
        · intro f
          have cle := cnt_le P m'
          have pb := pow_b (c := d') (j := cnt P m') (m := 6) (by omega) (by omega) (by omega)
          have pm := pow_b (c := 10) (j := m') (m := 6) (by omega) (by omega) (by omega)
          have pt := pow_b (c := 10) (j := m' - cnt P m') (m := 6) (by omega) (by omega) (by omega)
          have eD : 10 ^ m' = 10 ^ (m' - cnt P m') * 10 ^ cnt P m' := by rw [← Nat.pow_add]; congr 1; omega
          have lN : d' ^ cnt P m' * 10 ^ (m' - cnt P m') ≤ 10 ^ m' := by rw [eD, Nat.mul_comm]; exact Nat.mul_le_mul_left _ pb.1
          have eS : 10 ^ m' - d' ^ cnt P m' * 10 ^ (m' - cnt P m') = 10 ^ (m' - cnt P m') * (10 ^ cnt P m' - d' ^ cnt P m') := by rw [eD, Nat.mul_sub, Nat.mul_comm (d' ^ cnt P m')]
          simp only [p_X9_chance_L57]
          unfold p_X9_chance_57
          rw [v4, wr_s (a := (hr : Int) + (m' : Int)) (by omega) (by omega), if_pos (by omega)]
          unfold p_X9_chance_155
          rw [wr_s (by omega) (by omega), ← Int.ofNat_sub lN, y_frac g (by omega) (by omega) (by omega), bd_n, eS, eD, FR_scale pt.2.2 pb.2.2 (by omega) (by omega)]
      · rw [if01_f d1, if_neg d1]
    · rw [if01_f q, if_neg q]
  · rw [if10_f q0, if_neg q0]
/-- NIGHTS -/
def nxs (s : Int) : Int := wl (wl (s * 6364136223846793005) + 1442695040888963407)
def sdn (s : Int) : Nat → Int
  | 0 => s
  | k + 1 => nxs (sdn s k)
abbrev Cld (s : Int) : Prop := lcmp64 (lrem64 (lushr64 s 33) 3) 0 = 0
noncomputable def NT (n : Nat) (c H : Nat → Fin 10) (ow : Nat → Fin 4) (k : Nat) (ri : Nat → Fin 10) (sp : Nat → Fin 4) (wo : Nat → Fin 10) (sm : Int) (law hr : Nat) (sd : Int) (i : Nat) : Int := @ite Int (Cld (sdn sd (i + 1))) (Classical.propDecidable _) 0 (PA n c H (AL n) sm law k ri sp wo (fun j => (4 : Int) = 4 ∨ ((ow j).val : Int) = 4) (hr + i))
theorem NT_b (n : Nat) (c H : Nat → Fin 10) (ow : Nat → Fin 4) {k : Nat} (hk : k ≤ 4) (ri : Nat → Fin 10) (sp : Nat → Fin 4) (wo : Nat → Fin 10) (sm : Int) (law hr : Nat) (sd : Int) (i : Nat) : 0 ≤ NT n c H ow k ri sp wo sm law hr sd i ∧ NT n c H ow k ri sp wo sm law hr sd i ≤ 36 := by
  have := PA_b n c H (AL n) sm law k ri sp wo (fun j => (4 : Int) = 4 ∨ ((ow j).val : Int) = 4) (hr + i) hk
  unfold NT
  split <;> omega
noncomputable def s_nights (n : Nat) (c H : Nat → Fin 10) (ow : Nat → Fin 4) (k : Nat) (ri : Nat → Fin 10) (sp : Nat → Fin 4) (wo : Nat → Fin 10) (sm : Int) (law hr : Nat) (sd m : Int) : Int := if 1 ≤ m ∧ m ≤ 30 then sumF (NT n c H ow k ri sp wo sm law hr sd) m.toNat else -2
/-- the seed after -/
def s_seed (sd m : Int) : Int := if 1 ≤ m ∧ m ≤ 30 then sdn sd m.toNat else sd
theorem up_up (h : Mem) (i : Nat) (k a b : Int) : up (up h i k a) i k b = up h i k b := by
  funext j x
  by_cases q : j = i ∧ x = k
  · simp [up, q.1, q.2]
  · simp [up, q]
theorem up_self (h : Mem) (i : Nat) (k : Int) : up h i k (h i k) = h := by
  funext j x
  by_cases q : j = i ∧ x = k
  · rw [q.1, q.2, up_eq]
  · simp [up, q]
theorem CV.seed (v : CV h n c H ow sm k ri sp wo law hr cl) (s : Int) : CV (up h 0 12 s) n c H ow sm k ri sp wo law hr cl := by
  obtain ⟨v1, v2, v3, v4, v5, v6⟩ := v
  have e : ∀ i, i ≠ 0 → up h 0 12 s i = h i := fun i hi => by funext z; exact up_c _ _ _ _ hi
  exact ⟨v1.same (e _ (by decide)) (e _ (by decide)) (e _ (by decide)) (e _ (by decide)), v2.same (e _ (by decide)) (e _ (by decide)) (e _ (by decide)) (e _ (by decide)), by rw [up_k _ _ _ _ (by decide)]; exact v3, by rw [e 7 (by decide)]; exact v4, by rw [e 7 (by decide)]; exact v5, v6⟩
theorem SvP.seed (v : SvP h h' n c H S sm law) (s : Int) : SvP (up h 0 12 s) (up h' 0 12 s) n c H S sm law := by
  obtain ⟨v1, v2, v3, v4⟩ := v
  have e : ∀ i, i ≠ 0 → up h' 0 12 s i = h' i := fun i hi => by funext z; exact up_c _ _ _ _ hi
  refine ⟨fun i a b c => ?_, by rw [e 30 (by decide)]; exact v2, by rw [e 31 (by decide)]; exact v3, by rw [e 32 (by decide)]; exact v4⟩
  funext z
  by_cases q : i = 0 ∧ z = 12
  · rw [q.1, q.2, up_eq, up_eq]
  · have := congrFun (v1 i a b c) z
    simp [up, q, this]
theorem x_nights (v : CV h n c H ow sm k ri sp wo law hr cl) (m : Int) : ∃ h', p_X8_nights h m = some (s_nights n c H ow k ri sp wo sm law hr (h 0 12) m, h') ∧ Sc (up h 0 12 (s_seed (h 0 12) m)) h' := by
  unfold p_X8_nights s_nights s_seed
  rw [x_span, bd_n]
  by_cases q : 1 ≤ m ∧ m ≤ 30
  · rw [if01_t q, if_pos q, if_pos q]
    obtain ⟨m', rfl⟩ := toN (show 0 ≤ m by omega)
    simp only [Int.toNat_natCast]
    obtain ⟨h', e, sv⟩ := x_survey v
    have hn := v.1.1
    have hk := v.2.1.1
    have h40 := v.2.2.2.2.2.1
    rw [e, bd_n]
    refine loop_inv (fun f i (a : Mem × Int) => p_X8_nights_L20 f a.1 (m' : Int) a.2 i) m' (fun j a => SvP (up h 0 12 (sdn (h 0 12) j)) a.1 n c H (AL n) sm law ∧ a.2 = sumF (NT n c H ow k ri sp wo sm law hr (h 0 12)) j) (fun o => ∃ h', o = some (sumF (NT n c H ow k ri sp wo sm law hr (h 0 12)) m', h') ∧ Sc (up h 0 12 (sdn (h 0 12) m')) h') ?_ ?_ 300 0 (h', 0) (Nat.zero_le _) (by omega) ⟨by rw [show sdn (h 0 12) 0 = h 0 12 from rfl, up_self]; exact sv, rfl⟩
    · rintro f i ⟨a, t⟩ hi ⟨i1, i2⟩
      simp only at i1 i2
      subst i2
      have sb := sumF_b (g := NT n c H ow k ri sp wo sm law hr (h 0 12)) (lo := 0) (hi := 36) (n := i) (fun s _ => NT_b n c H ow hk ri sp wo sm law hr (h 0 12) s)
      have nb := NT_b n c H ow hk ri sp wo sm law hr (h 0 12) i
      have es : a 0 12 = sdn (h 0 12) i := by rw [i1.1 0 (by decide) (by decide) (by decide), up_eq]
      have i1' := i1.seed (sdn (h 0 12) (i + 1))
      rw [up_up] at i1'
      have va := (v.seed (sdn (h 0 12) (i + 1))).sc i1'.sc
      simp only [p_X8_nights_L20]
      unfold p_X8_nights_20
      rw [if_neg (by omega), up_eq, es]
      change ∃ a', _ ∧ (if Cld (sdn (h 0 12) (i + 1)) then p_X8_nights_62 (fun h l1 l2 l3 => p_X8_nights_L20 f h l1 l2 l3) (up a 0 12 (sdn (h 0 12) (i + 1))) (m' : Int) (sumF (NT n c H ow k ri sp wo sm law hr (h 0 12)) i) (i : Int) 1 else p_X8_nights_62 (fun h l1 l2 l3 => p_X8_nights_L20 f h l1 l2 l3) (up a 0 12 (sdn (h 0 12) (i + 1))) (m' : Int) (sumF (NT n c H ow k ri sp wo sm law hr (h 0 12)) i) (i : Int) 0) = _
      generalize up a 0 12 (sdn (h 0 12) (i + 1)) = b at *
      refine ⟨(b, sumF (NT n c H ow k ri sp wo sm law hr (h 0 12)) (i + 1)), ⟨i1', rfl⟩, ?_⟩
      have eN : sumF (NT n c H ow k ri sp wo sm law hr (h 0 12)) (i + 1) = sumF (NT n c H ow k ri sp wo sm law hr (h 0 12)) i + NT n c H ow k ri sp wo sm law hr (h 0 12) i := rfl
      unfold p_X8_nights_62
      by_cases z : Cld (sdn (h 0 12) (i + 1))
      · have e0 : NT n c H ow k ri sp wo sm law hr (h 0 12) i = 0 := if_pos z
        rw [if_pos z, if_neg (by decide), eN, e0, Int.add_zero]
        unfold p_X8_nights_99
        rw [wr_1 (by omega)]
      · have e0 : NT n c H ow k ri sp wo sm law hr (h 0 12) i = PA n c H (AL n) sm law k ri sp wo (fun j => (4 : Int) = 4 ∨ ((ow j).val : Int) = 4) (hr + i) := if_neg z
        rw [if_neg z, if_pos rfl, t_every va.1, bd_n, va.2.2.2.1, wr_s (a := (hr : Int) + (i : Int)) (by omega) (by omega), ← Int.natCast_add, t_paidAt i1' hn va.2.1 (T := AL n) (pr := fun j => (4 : Int) = 4 ∨ ((ow j).val : Int) = 4) (fun r h1 h2 => ⟨fun _ => Or.inl rfl, fun _ => h2⟩) (by omega), bd_n, ← e0]
        unfold p_X8_nights_99
        rw [wr_1 (by omega), wr_s (by omega) (by omega), eN]
    · rintro f ⟨a, t⟩ ⟨i1, i2⟩
      simp only at i1 i2
      subst i2
      simp only [p_X8_nights_L20]
      unfold p_X8_nights_20
      rw [if_pos (by omega)]
      exact ⟨a, rfl, i1.sc⟩
  · rw [if01_f q, if_neg q, if_neg q, up_self]; exact ⟨h, rfl, Sc.rf h⟩
theorem MV2.seed (v : MV2 h n c H ow sm k ri sp wo law hr cl) (s : Int) : MV2 (up h 45 26 s) n c H ow sm k ri sp wo law hr cl := by
  have e : ∀ i, i ≠ 45 → up h 45 26 s i = h i := fun i hi => by funext z; exact up_c _ _ _ _ hi
  have f : ∀ f : Int, f ≠ 26 → up h 45 26 s 45 f = h 45 f := fun f hf => up_k _ _ _ _ hf
  obtain ⟨⟨p1, p2, p3, p4, p5, p6⟩, ⟨m1, m2, m3, m4, m5⟩, q1, q2, q3, q4⟩ := v
  refine ⟨⟨p1, ?_, ?_, ?_, ?_, ?_⟩, ⟨m1, ?_, ?_, ?_, ?_⟩, ?_, ?_, ?_, q4⟩ <;> simp only [e 47 (by decide), e 48 (by decide), e 49 (by decide), e 50 (by decide), e 53 (by decide), f 4 (by decide), f 5 (by decide), f 6 (by decide)] <;> assumption
theorem Sm.seed {h h' : Mem} (s : Sm h h') (x : Int) : Sm (up h 45 26 x) (up h' 45 26 x) := by
  refine ⟨fun i q1 q2 q3 q4 q5 q6 => ?_, fun f q => ?_⟩
  · funext z
    rw [up_c _ _ _ _ q1, up_c _ _ _ _ q1, s.1 i q1 q2 q3 q4 q5 q6]
  · by_cases e : f = 26
    · subst e; rw [up_eq, up_eq]
    · rw [up_k _ _ _ _ e, up_k _ _ _ _ e, s.2 f q]
theorem y_nights (v : MV2 h n c H ow sm k ri sp wo law hr cl) (m : Int) : ∃ h', p_X9_nights h m = some (s_nights n c H ow k ri sp wo sm law hr (h 45 26) m, h') ∧ Sm (up h 45 26 (s_seed (h 45 26) m)) h' := by
  have s0 := Sm.up0 h
  have v0 := v.md s0
  have e26 : up h 45 0 0 45 26 = h 45 26 := up_k _ _ _ _ (by decide)
  unfold p_X9_nights s_nights s_seed
  generalize up h 45 0 0 = g at *
  rw [m_in, bd_n]
  by_cases q : 1 ≤ m ∧ m ≤ 30
  · rw [if01_t q, if_pos q, if_pos q]
    obtain ⟨m', rfl⟩ := toN (show 0 ≤ m by omega)
    simp only [Int.toNat_natCast]
    obtain ⟨b, eb, b1, b2⟩ := m_begin g
    have hk := v.2.1.1
    have h40 := v.2.2.2.2.2.1
    have pb := v0.1.bg b1 b2
    have sb0 := s0.tr (Sm.bg b1)
    rw [eb, bd_n]
    refine loop_inv (fun f i (a : Mem × Int) => p_X9_nights_L28 f a.1 (m' : Int) a.2 i) m' (fun j a => Sm (up h 45 26 (sdn (h 45 26) j)) a.1 ∧ PV a.1 54 n c H ow sm ∧ a.1 45 26 = sdn (h 45 26) j ∧ a.2 = sumF (NT n c H ow k ri sp wo sm law hr (h 45 26)) j) (fun o => ∃ h', o = some (sumF (NT n c H ow k ri sp wo sm law hr (h 45 26)) m', h') ∧ Sm (up h 45 26 (sdn (h 45 26) m')) h') ?_ ?_ 300 0 (b, 0) (Nat.zero_le _) (by omega) ⟨by rw [show sdn (h 45 26) 0 = h 45 26 from rfl, up_self]; exact sb0, pb, by show b 45 26 = _; rw [b1 45 (by decide), e26]; rfl, rfl⟩
    · rintro f i ⟨a, t⟩ hi ⟨i1, i2, i3, i4⟩
      simp only at i1 i2 i3 i4
      subst i4
      have sb := sumF_b (g := NT n c H ow k ri sp wo sm law hr (h 45 26)) (lo := 0) (hi := 36) (n := i) (fun s _ => NT_b n c H ow hk ri sp wo sm law hr (h 45 26) s)
      have nb := NT_b n c H ow hk ri sp wo sm law hr (h 45 26) i
      have i1' := i1.seed (sdn (h 45 26) (i + 1))
      rw [up_up] at i1'
      have i2' : PV (up a 45 26 (sdn (h 45 26) (i + 1))) 54 n c H ow sm := by
        obtain ⟨hn, h4, h5, hc, hH, ho⟩ := i2
        exact ⟨hn, by rw [up_k _ _ _ _ (by decide)]; exact h4, by rw [up_c _ _ _ _ (by decide)]; exact h5, fun r hr => by rw [up_c _ _ _ _ (by decide)]; exact hc r hr, fun r hr => by rw [up_c _ _ _ _ (by decide)]; exact hH r hr, fun r hr => by rw [up_c _ _ _ _ (by decide)]; exact ho r hr⟩
      have i3' : up a 45 26 (sdn (h 45 26) (i + 1)) 45 26 = sdn (h 45 26) (i + 1) := up_eq _ _ _ _
      simp only [p_X9_nights_L28]
      unfold p_X9_nights_28
      rw [if_neg (by omega), up_eq, i3]
      change ∃ a', _ ∧ (if Cld (sdn (h 45 26) (i + 1)) then p_X9_nights_76 (fun h l1 l2 l3 => p_X9_nights_L28 f h l1 l2 l3) (up a 45 26 (sdn (h 45 26) (i + 1))) (m' : Int) (sumF (NT n c H ow k ri sp wo sm law hr (h 45 26)) i) (i : Int) 11 1 else p_X9_nights_76 (fun h l1 l2 l3 => p_X9_nights_L28 f h l1 l2 l3) (up a 45 26 (sdn (h 45 26) (i + 1))) (m' : Int) (sumF (NT n c H ow k ri sp wo sm law hr (h 45 26)) i) (i : Int) 11 0) = _
      generalize up a 45 26 (sdn (h 45 26) (i + 1)) = d at *
      have eN : sumF (NT n c H ow k ri sp wo sm law hr (h 45 26)) (i + 1) = sumF (NT n c H ow k ri sp wo sm law hr (h 45 26)) i + NT n c H ow k ri sp wo sm law hr (h 45 26) i := rfl
      have fin : ∀ x : Int, TK n c H (AL n) sm law k ri sp wo (fun j => (4 : Int) = 4 ∨ ((ow j).val : Int) = 4) x (hr + i) 1 = NT n c H ow k ri sp wo sm law hr (h 45 26) i → ∃ a' : Mem × Int, (Sm (up h 45 26 (sdn (h 45 26) (i + 1))) a'.1 ∧ PV a'.1 54 n c H ow sm ∧ a'.1 45 26 = sdn (h 45 26) (i + 1) ∧ a'.2 = sumF (NT n c H ow k ri sp wo sm law hr (h 45 26)) (i + 1)) ∧ p_X9_nights_76 (fun h l1 l2 l3 => p_X9_nights_L28 f h l1 l2 l3) d (m' : Int) (sumF (NT n c H ow k ri sp wo sm law hr (h 45 26)) i) (i : Int) 11 x = p_X9_nights_L28 f a'.1 (m' : Int) a'.2 ((i : Int) + 1) := by
        intro x hx
        have sx : Sm d (up d 54 11 x) := Sm.upr d (by decide) _ _
        have px : PV (up d 54 11 x) 54 n c H ow sm := by
          obtain ⟨hn, h4, h5, hc, hH, ho⟩ := i2'
          exact ⟨hn, by rw [up_c _ _ _ _ (by decide)]; exact h4, by rw [up_k _ _ _ _ (by decide)]; exact h5, fun r hr => by rw [up_c _ _ _ _ (by decide)]; exact hc r hr, fun r hr => by rw [up_k _ _ _ _ (by omega)]; exact hH r hr, fun r hr => by rw [up_k _ _ _ _ (by omega)]; exact ho r hr⟩
        have q11 : up d 54 11 x 54 11 = x := up_eq _ _ _ _
        have q26 : up d 54 11 x 45 26 = sdn (h 45 26) (i + 1) := by rw [up_c _ _ _ _ (by decide)]; exact i3'
        have vx := (v.seed (sdn (h 45 26) (i + 1))).md (i1'.tr sx)
        unfold p_X9_nights_76
        rw [gd_w (by decide)]
        have sxx := i1'.tr sx
        generalize up d 54 11 x = e at *
        rw [m_all vx.1, bd_n, vx.2.2.2.1, vx.2.2.1, wr_s (a := (hr : Int) + (i : Int)) (by omega) (by omega), ← Int.natCast_add, show (1 : Int) = ((1 : Nat) : Int) from rfl, m_rentsOf px vx.2.1 (by omega) (by omega) (AL n) (by decide), q11, hx, bd_n, ← show (1 : Int) = ((1 : Nat) : Int) from rfl, wr_1 (by omega), wr_s (by omega) (by omega), ← eN]
        exact ⟨(e, sumF (NT n c H ow k ri sp wo sm law hr (h 45 26)) (i + 1)), ⟨sxx, px, q26, rfl⟩, rfl⟩
      by_cases z : Cld (sdn (h 45 26) (i + 1))
      · rw [if_pos z]
        apply fin
        have e0 : NT n c H ow k ri sp wo sm law hr (h 45 26) i = 0 := if_pos z
        rw [e0]
        exact if_neg (by decide)
      · rw [if_neg z]
        apply fin
        have e0 : NT n c H ow k ri sp wo sm law hr (h 45 26) i = PA n c H (AL n) sm law k ri sp wo (fun j => (4 : Int) = 4 ∨ ((ow j).val : Int) = 4) (hr + i) := if_neg z
        rw [e0]
        have e1 : TK n c H (AL n) sm law k ri sp wo (fun j => (4 : Int) = 4 ∨ ((ow j).val : Int) = 4) 0 (hr + i) 1 = sumF (fun i' => PA n c H (AL n) sm law k ri sp wo (fun j => (4 : Int) = 4 ∨ ((ow j).val : Int) = 4) (hr + i + i')) 1 := if_pos rfl
        rw [e1]
        show 0 + _ = _
        rw [Int.zero_add]
        rfl
    · rintro f ⟨a, t⟩ ⟨i1, i2, i3, i4⟩
      simp only at i1 i2 i3 i4
      subst i4
      simp only [p_X9_nights_L28]
      unfold p_X9_nights_28
      rw [if_pos (by omega)]
      exact ⟨a, rfl, i1⟩
  · rw [if01_f q, if_neg q, if_neg q, up_self]; exact ⟨g, rfl, s0⟩
end CHANCE
