/-! ===== fires ===== -/
def CpP (h h' : Mem) (t u : Nat) : Prop := (∀ i, ¬ (t ≤ i ∧ i ≤ t + 4) → h' i = h i) ∧ (∀ f : Int, f = 4 ∨ f = 5 ∨ f = 6 ∨ f = 7 → h' t f = h u f) ∧ (∀ x : Int, 0 ≤ x → x < 5 → h' (t + 1) x = h (u + 1) x) ∧ (∀ x : Int, 0 ≤ x → x < 5 → h' (t + 2) x = h (u + 2) x) ∧ (∀ x : Int, 0 ≤ x → x < 5 → h' (t + 3) x = h (u + 3) x) ∧ ∀ x : Int, 0 ≤ x → x < 4 → h' (t + 4) x = h (u + 4) x
theorem t_copy (h : Mem) (t u : Nat) (htu : t + 4 < u ∨ u + 4 < t) (h7 : h u 7 = 0 ∨ h u 7 = 1) : ∃ h', p_X6_copyOf h t u = some h' ∧ CpP h h' t u := by
  have n0 : u ≠ t := by omega
  have a : ∀ i j : Nat, i ≤ 4 → j ≤ 4 → u + i ≠ t + j := fun i j _ _ => by omega
  have b : ∀ i : Nat, i ≤ 4 → u ≠ t + i := fun i _ => by omega
  have d : ∀ i : Nat, i ≤ 4 → u + i ≠ t := fun i _ => by omega
  have a11 := a 1 1 (by omega) (by omega)
  have a21 := a 2 1 (by omega) (by omega)
  have a22 := a 2 2 (by omega) (by omega)
  have a31 := a 3 1 (by omega) (by omega)
  have a32 := a 3 2 (by omega) (by omega)
  have a33 := a 3 3 (by omega) (by omega)
  have a41 := a 4 1 (by omega) (by omega)
  have a42 := a 4 2 (by omega) (by omega)
  have a43 := a 4 3 (by omega) (by omega)
  have b1 := b 1 (by omega)
  have b2 := b 2 (by omega)
  have b3 := b 3 (by omega)
  have b4 := b 4 (by omega)
  unfold p_X6_copyOf p_X6_copyOf_64
  refine ⟨_, if_pos ?_, ?_, ?_, ?_, ?_, ?_, ?_⟩
  · simpa [up, cp, n0, b1, b2, b3, b4] using h7
  · intro i hi
    have i0 : i ≠ t := by omega
    have i1 : i ≠ t + 1 := by omega
    have i2 : i ≠ t + 2 := by omega
    have i3 : i ≠ t + 3 := by omega
    have i4 : i ≠ t + 4 := by omega
    funext x
    simp [up, cp, i0, i1, i2, i3, i4]
  · rintro f (rfl | rfl | rfl | rfl) <;> simp [up, cp, n0, b1, b2, b3, b4]
  · intro x x0 x5
    simp [up, cp, x0, x5]
  · intro x x0 x5
    simp [up, cp, x0, x5, a21]
  · intro x x0 x5
    simp [up, cp, x0, x5, a31, a32]
  · intro x x0 x5
    simp [up, cp, x0, x5, a41, a42, a43]
section FIRES
variable {h h' g : Mem} {n : Nat} {c H : Nat → Fin 10} {ow : Nat → Fin 4} {S sm : Int} {k : Nat} {ri : Nat → Fin 10} {sp : Nat → Fin 4} {wo : Nat → Fin 10} {law hr : Nat} {cl : Int}
theorem CpP.tv {t u : Nat} (z : CpP h h' t u) (v : TV h u n c H ow sm) : TV h' t n c H ow sm := by
  obtain ⟨hn, h4, h5, hc, hH, ho⟩ := v
  refine ⟨hn, by rw [z.2.1 4 (by decide)]; exact h4, by rw [z.2.1 5 (by decide)]; exact h5, fun r hr => ?_, fun r hr => ?_, fun r hr => ?_⟩
  · rw [z.2.2.1 _ (by omega) (by omega)]; exact hc r hr
  · rw [z.2.2.2.1 _ (by omega) (by omega)]; exact hH r hr
  · rw [z.2.2.2.2.1 _ (by omega) (by omega)]; exact ho r hr
/-- the trial town stands beside the night -/
def FV (g : Mem) (n : Nat) (c H : Nat → Fin 10) (ow : Nat → Fin 4) (sm : Int) (k : Nat) (ri : Nat → Fin 10) (sp : Nat → Fin 4) (wo : Nat → Fin 10) (law hr : Nat) (cl : Int) (x : Int) (H' : Nat → Fin 10) : Prop := CV g n c H ow sm k ri sp wo law hr cl ∧ TV g 12 n c H' ow x ∧ g 12 6 = (hr : Int) ∧ g 12 7 = cl
theorem x_trial (v : CV h n c H ow sm k ri sp wo law hr cl) : ∃ h', p_X6_copyOf h 12 7 = some h' ∧ Sc h h' ∧ FV h' n c H ow sm k ri sp wo law hr cl sm H := by
  obtain ⟨h', e, z⟩ := t_copy h 12 7 (by decide) (by rw [v.2.2.2.2.1]; exact v.2.2.2.2.2.2)
  have s : Sc h h' := fun i q _ _ => z.1 i q
  exact ⟨h', e, s, v.sc s, z.tv v.1, by rw [z.2.1 6 (by decide)]; exact v.2.2.2.1, by rw [z.2.1 7 (by decide)]; exact v.2.2.2.2.1⟩
theorem Sc.up (h : Mem) {i : Nat} (hi : (12 ≤ i ∧ i ≤ 16) ∨ (30 ≤ i ∧ i ≤ 32) ∨ (42 ≤ i ∧ i ≤ 44)) (f a : Int) : Sc h (up h i f a) := fun j q1 q2 q3 => by funext z; exact up_c _ _ _ _ (by omega)
theorem FV.sv {x : Int} {H' : Nat → Fin 10} {H2 : Nat → Fin 10} {S2 sm2 : Int} (v : FV h n c H ow sm k ri sp wo law hr cl x H') (s : SvP h h' n c H2 S2 sm2 law) : FV h' n c H ow sm k ri sp wo law hr cl x H' := by
  have e : ∀ i, i < 30 → h' i = h i := fun i hi => s.1 i (by omega) (by omega) (by omega)
  exact ⟨v.1.sc s.sc, v.2.1.same (e _ (by decide)) (e _ (by decide)) (e _ (by decide)) (e _ (by decide)), by rw [e 12 (by decide)]; exact v.2.2.1, by rw [e 12 (by decide)]; exact v.2.2.2⟩
theorem FV.smoke {x : Int} {H' : Nat → Fin 10} (v : FV h n c H ow sm k ri sp wo law hr cl x H') (y : Int) : FV (up h 12 5 y) n c H ow sm k ri sp wo law hr cl y H' := by
  obtain ⟨v1, ⟨hn, h4, h5, hc, hH, ho⟩, v3, v4⟩ := v
  refine ⟨v1.sc (Sc.up h (Or.inl ⟨by decide, by decide⟩) _ _), ⟨hn, by rw [up_k _ _ _ _ (by decide)]; exact h4, up_eq _ _ _ _, fun r hr => ?_, fun r hr => ?_, fun r hr => ?_⟩, by rw [up_k _ _ _ _ (by decide)]; exact v3, by rw [up_k _ _ _ _ (by decide)]; exact v4⟩
  · rw [up_c _ _ _ _ (by decide)]; exact hc r hr
  · rw [up_c _ _ _ _ (by decide)]; exact hH r hr
  · rw [up_c _ _ _ _ (by decide)]; exact ho r hr
/-- what a set of fires is worth -/
noncomputable def FW (n : Nat) (c H : Nat → Fin 10) (ow : Nat → Fin 4) (law k : Nat) (ri : Nat → Fin 10) (sp : Nat → Fin 4) (wo : Nat → Fin 10) (cl : Int) (hr m v : Nat) : Int := RT n c H ow (AL n) (v : Int) law k ri sp wo cl hr m 4 + ((m * pop v : Nat) : Int)
theorem FW_b (n : Nat) (c H : Nat → Fin 10) (ow : Nat → Fin 4) (law k : Nat) (ri : Nat → Fin 10) (sp : Nat → Fin 4) (wo : Nat → Fin 10) (cl : Int) (hr m v : Nat) (hk : k ≤ 4) (hm : m ≤ 100) : 0 ≤ FW n c H ow law k ri sp wo cl hr m v ∧ FW n c H ow law k ri sp wo cl hr m v ≤ 5000 := by
  have h1 := RT_b n c H ow (AL n) (v : Int) law k ri sp wo cl hr m 4 hk
  have h2 : m * pop v ≤ 100 * 5 := Nat.mul_le_mul hm (pop_b v)
  unfold FW
  omega
theorem x_gain {x : Int} (v : FV h n c H ow sm k ri sp wo law hr cl x H) {u m : Nat} (hu : u < 32) (hm : m ≤ 100) : ∃ h', p_X8_gainOfFires h (u : Int) (m : Int) = some (FW n c H ow law k ri sp wo cl hr m u, h') ∧ Sc h h' ∧ FV h' n c H ow sm k ri sp wo law hr cl (u : Int) H := by
  have v1 := v.smoke (u : Int)
  have hn := v.1.1.1
  have hk := v.1.2.1.1
  obtain ⟨h', e, s⟩ := t_survey v1.2.1 (by decide) (AL_hi hn) law
  have v2 := v1.sv s
  refine ⟨h', ?_, (Sc.up h (i := 12) (Or.inl ⟨by decide, by decide⟩) _ _).tr s.sc, v2⟩
  unfold p_X8_gainOfFires
  rw [t_every v1.2.1, bd_n, v1.1.2.2.1, e, bd_n, t_every v2.2.1, bd_n]
  have := t_takings (t := 12) s hn v2.1.2.1 (T := AL n) (pr := fun j => (4 : Int) = 4 ∨ ((ow j).val : Int) = 4) (fun r h1 h2 => ⟨fun _ => Or.inl rfl, fun _ => h2⟩) v2.2.2.1 (by have := v.1.2.2.2.2.2.1; omega) hm
  rw [v2.2.2.2] at this
  have h1 := RT_b n c H ow (AL n) (u : Int) law k ri sp wo cl hr m 4 hk
  have h2 : m * pop u ≤ 100 * 5 := Nat.mul_le_mul hm (pop_b u)
  rw [this, bd_n, j_many h' hu, bd_n, ← Int.natCast_mul, wr_s (a := ((m * pop u : Nat) : Int)) (by omega) (by omega)]
  change some (wr (RT n c H ow (AL n) (u : Int) law k ri sp wo cl hr m 4 + _), h') = _
  rw [wr_s (by omega) (by omega)]
  rfl
/-- the best set -/
def bst (F : Nat → Int) : Nat → Nat
  | 0 => 0
  | v + 1 => if F (bst F v) < F (v + 1) ∨ (F (v + 1) = F (bst F v) ∧ pop (v + 1) < pop (bst F v)) then v + 1 else bst F v
theorem bst_le (F : Nat → Int) : ∀ v, bst F v ≤ v
  | 0 => Nat.le_refl 0
  | v + 1 => by
    have := bst_le F v
    unfold bst
    split <;> omega
theorem bst_t {F : Nat → Int} {v : Nat} (h : F (bst F v) < F (v + 1) ∨ (F (v + 1) = F (bst F v) ∧ pop (v + 1) < pop (bst F v))) : bst F (v + 1) = v + 1 := if_pos h
theorem bst_f {F : Nat → Int} {v : Nat} (h : ¬ (F (bst F v) < F (v + 1) ∨ (F (v + 1) = F (bst F v) ∧ pop (v + 1) < pop (bst F v)))) : bst F (v + 1) = bst F v := if_neg h
noncomputable def s_fires (n : Nat) (c H : Nat → Fin 10) (ow : Nat → Fin 4) (k : Nat) (ri : Nat → Fin 10) (sp : Nat → Fin 4) (wo : Nat → Fin 10) (law hr : Nat) (cl m w : Int) : Int := if 1 ≤ m ∧ m ≤ 10 then if 0 ≤ w ∧ w ≤ 1 then if w = 0 then ((bst (FW n c H ow law k ri sp wo cl hr m.toNat) (ns n - 1) : Nat) : Int) else FW n c H ow law k ri sp wo cl hr m.toNat (bst (FW n c H ow law k ri sp wo cl hr m.toNat) (ns n - 1)) else -2 else -2
theorem x_fires (v : CV h n c H ow sm k ri sp wo law hr cl) (m w : Int) : ∃ h', p_X8_fires h m w = some (s_fires n c H ow k ri sp wo law hr cl m w, h') ∧ Sc h h' := by
  unfold p_X8_fires s_fires
  rw [x_span, bd_n]
  by_cases q : 1 ≤ m ∧ m ≤ 10
  · rw [if01_t q, if_pos q]
    by_cases w0 : w < 0
    · rw [if_pos w0, if_neg (by omega)]; exact ⟨h, rfl, Sc.rf h⟩
    · rw [if_neg w0]
      by_cases w1 : w ≤ 1
      · rw [if_pos w1, if_pos (show 0 ≤ w ∧ w ≤ 1 from ⟨by omega, w1⟩)]
        obtain ⟨m', rfl⟩ := toN (show 0 ≤ m by omega)
        simp only [Int.toNat_natCast]
        obtain ⟨g0, e0, s0, f0⟩ := x_trial v
        obtain ⟨g1, e1, s1, f1⟩ := x_gain f0 (u := 0) (m := m') (by omega) (by omega)
        have e1' : p_X8_gainOfFires g0 0 (m' : Int) = some (FW n c H ow law k ri sp wo cl hr m' 0, g1) := e1
        rw [e0, bd_n, e1', bd_n]
        have hn := v.1.1
        have hk := v.2.1.1
        obtain ⟨eA, nb1, nb2⟩ := AL_ns hn
        have hF := fun u => FW_b n c H ow law k ri sp wo cl hr m' u hk (by omega)
        generalize hFe : FW n c H ow law k ri sp wo cl hr m' = F at *
        refine loop_inv (fun f i (a : Mem × Int × Int) => p_X8_fires_L45 f a.1 (m' : Int) w a.2.1 a.2.2 i) (ns n) (fun j a => 1 ≤ j ∧ Sc h a.1 ∧ (∃ x, FV a.1 n c H ow sm k ri sp wo law hr cl x H) ∧ a.2.1 = ((bst F (j - 1) : Nat) : Int) ∧ a.2.2 = F (bst F (j - 1))) (fun o => ∃ h', o = some (if w = 0 then ((bst F (ns n - 1) : Nat) : Int) else F (bst F (ns n - 1)), h') ∧ Sc h h') ?_ ?_ 300 1 (g1, 0, F 0) nb1 (by omega) ⟨by omega, s0.tr s1, ⟨_, f1⟩, rfl, rfl⟩
        · rintro f j ⟨ga, b, fb⟩ hj ⟨j1, i1, ⟨x, i2⟩, i3, i4⟩
          simp only at i1 i2 i3 i4
          obtain ⟨j', rfl⟩ : ∃ j', j = j' + 1 := ⟨j - 1, by omega⟩
          simp only [Nat.add_sub_cancel] at i3 i4
          subst i3 i4
          obtain ⟨g2, e2, s2, f2⟩ := x_gain i2 (u := j' + 1) (m := m') (by omega) (by omega)
          rw [hFe] at e2
          have bl := bst_le F j'
          simp only [p_X8_fires_L45]
          unfold p_X8_fires_45
          rw [t_every i2.1.1, bd_n, if_neg (by omega), e2, bd_n, j_many g2 (by omega), bd_n, j_many g2 (by omega), bd_n]
          have keep : bst F (j' + 1) = bst F j' → ∃ a' : Mem × Int × Int, (1 ≤ j' + 1 + 1 ∧ Sc h a'.1 ∧ (∃ x, FV a'.1 n c H ow sm k ri sp wo law hr cl x H) ∧ a'.2.1 = ((bst F (j' + 1 + 1 - 1) : Nat) : Int) ∧ a'.2.2 = F (bst F (j' + 1 + 1 - 1))) ∧ p_X8_fires_111 (fun h l1 l2 l3 l4 l5 => p_X8_fires_L45 f h l1 l2 l3 l4 l5) g2 (m' : Int) w ((bst F j' : Nat) : Int) (F (bst F j')) ((j' + 1 : Nat) : Int) = p_X8_fires_L45 f a'.1 (m' : Int) w a'.2.1 a'.2.2 (((j' + 1 : Nat) : Int) + 1) := by
            intro z
            refine ⟨(g2, ((bst F j' : Nat) : Int), F (bst F j')), ⟨by omega, i1.tr s2, ⟨_, f2⟩, ?_, ?_⟩, ?_⟩
            · rw [Nat.add_sub_cancel, z]
            · rw [Nat.add_sub_cancel, z]
            · unfold p_X8_fires_111
              rw [wr_1 (by omega)]
          have take : bst F (j' + 1) = j' + 1 → ∃ a' : Mem × Int × Int, (1 ≤ j' + 1 + 1 ∧ Sc h a'.1 ∧ (∃ x, FV a'.1 n c H ow sm k ri sp wo law hr cl x H) ∧ a'.2.1 = ((bst F (j' + 1 + 1 - 1) : Nat) : Int) ∧ a'.2.2 = F (bst F (j' + 1 + 1 - 1))) ∧ p_X8_fires_104 (fun h l1 l2 l3 l4 l5 => p_X8_fires_L45 f h l1 l2 l3 l4 l5) g2 (m' : Int) w ((j' + 1 : Nat) : Int) (F (j' + 1)) = p_X8_fires_L45 f a'.1 (m' : Int) w a'.2.1 a'.2.2 (((j' + 1 : Nat) : Int) + 1) := by
            intro z
            refine ⟨(g2, ((j' + 1 : Nat) : Int), F (j' + 1)), ⟨by omega, i1.tr s2, ⟨_, f2⟩, ?_, ?_⟩, ?_⟩
            · rw [Nat.add_sub_cancel, z]
            · rw [Nat.add_sub_cancel, z]
            · unfold p_X8_fires_104 p_X8_fires_111
              rw [wr_1 (by omega)]
          have cmp : ∀ s0 : Int, (s0 = 0 ↔ pop (bst F j') ≤ pop (j' + 1)) → ∃ a' : Mem × Int × Int, (1 ≤ j' + 1 + 1 ∧ Sc h a'.1 ∧ (∃ x, FV a'.1 n c H ow sm k ri sp wo law hr cl x H) ∧ a'.2.1 = ((bst F (j' + 1 + 1 - 1) : Nat) : Int) ∧ a'.2.2 = F (bst F (j' + 1 + 1 - 1))) ∧ p_X8_fires_83 (fun h l1 l2 l3 l4 l5 => p_X8_fires_L45 f h l1 l2 l3 l4 l5) g2 (m' : Int) w ((bst F j' : Nat) : Int) (F (bst F j')) ((j' + 1 : Nat) : Int) (F (j' + 1)) s0 = p_X8_fires_L45 f a'.1 (m' : Int) w a'.2.1 a'.2.2 (((j' + 1 : Nat) : Int) + 1) := by
            intro s0 hs0
            unfold p_X8_fires_83
            by_cases z : F (bst F j') < F (j' + 1)
            · rw [if_pos z]; exact take (bst_t (Or.inl z))
            · rw [if_neg z]
              by_cases z2 : F (j' + 1) = F (bst F j')
              · rw [if_pos z2]
                by_cases z3 : s0 = 0
                · rw [if_pos z3]
                  have := hs0.mp z3
                  exact keep (bst_f (by omega))
                · rw [if_neg z3]
                  have : ¬ pop (bst F j') ≤ pop (j' + 1) := fun y => z3 (hs0.mpr y)
                  exact take (bst_t (Or.inr ⟨z2, by omega⟩))
              · rw [if_neg z2]; exact keep (bst_f (by omega))
          by_cases z : pop (bst F j') ≤ pop (j' + 1)
          · rw [if_pos (by omega)]; exact cmp 0 ⟨fun _ => z, fun _ => rfl⟩
          · rw [if_neg (by omega)]; exact cmp 1 ⟨fun y => absurd y (by decide), fun y => absurd y z⟩
        · rintro f ⟨ga, b, fb⟩ ⟨j1, i1, ⟨x, i2⟩, i3, i4⟩
          simp only at i1 i2 i3 i4
          subst i3 i4
          simp only [p_X8_fires_L45]
          unfold p_X8_fires_45
          rw [t_every i2.1.1, bd_n, if_pos (by omega)]
          unfold p_X8_fires_117
          refine ⟨ga, ?_, i1⟩
          split <;> rfl
      · rw [if_neg w1, if_neg (by omega)]; exact ⟨h, rfl, Sc.rf h⟩
  · rw [if01_f q, if_neg q]; exact ⟨h, rfl, Sc.rf h⟩
theorem Sm.up45 (h : Mem) {f : Int} (hf : f ≠ 2 ∧ f ≠ 4 ∧ f ≠ 5 ∧ f ≠ 6 ∧ f ≠ 19 ∧ f ≠ 22 ∧ f ≠ 26) (a : Int) : Sm h (up h 45 f a) := ⟨fun i q _ _ _ _ _ => by funext z; exact up_c _ _ _ _ q, fun f' q => up_k _ _ _ _ (by omega)⟩
theorem Sm.upr (h : Mem) {i : Nat} (hi : i = 51 ∨ i = 52 ∨ i = 54 ∨ i = 61 ∨ i = 62) (f a : Int) : Sm h (up h i f a) := ⟨fun j q1 q2 q3 q4 q5 q6 => by funext z; exact up_c _ _ _ _ (by omega), fun f' q => up_c _ _ _ _ (by omega)⟩
/-- the trial page -/
theorem m_begin (h : Mem) : ∃ h', p_X9_begin h = some h' ∧ (∀ i, i ≠ 54 → h' i = h i) ∧ ∀ z : Nat, z < 17 → h' 54 (z : Int) = h 53 (z : Int) := by
  unfold p_X9_begin
  refine loop_inv (fun f i (a : Mem) => p_X9_begin_L2 f a i) 17 (fun j a => (∀ i, i ≠ 54 → a i = h i) ∧ ∀ z : Nat, z < j → a 54 (z : Int) = h 53 (z : Int)) (fun o => ∃ h', o = some h' ∧ (∀ i, i ≠ 54 → h' i = h i) ∧ ∀ z : Nat, z < 17 → h' 54 (z : Int) = h 53 (z : Int)) ?_ ?_ 300 0 h (Nat.zero_le _) (by omega) ⟨fun _ _ => rfl, fun z hz => by omega⟩
  · rintro f j a hj ⟨i1, i2⟩
    simp only [p_X9_begin_L2]
    unfold p_X9_begin_2
    rw [if_neg (by omega), gd_w (by omega), gd_w (by omega), wr_1 (by omega)]
    refine ⟨_, ⟨fun i hi => ?_, fun z hz => ?_⟩, rfl⟩
    · rw [← i1 i hi]
      funext y
      exact up_c _ _ _ _ hi
    · by_cases e : z = j
      · subst e
        rw [up_eq, i1 53 (by decide)]
      · rw [up_k _ _ _ _ (by omega)]
        exact i2 z (by omega)
  · rintro f a ⟨i1, i2⟩
    simp only [p_X9_begin_L2]
    unfold p_X9_begin_2
    rw [if_pos (by decide)]
    exact ⟨a, rfl, i1, i2⟩
theorem Sm.bg {h h' : Mem} (i1 : ∀ i, i ≠ 54 → h' i = h i) : Sm h h' := ⟨fun i _ _ _ q _ _ => i1 i q, fun f _ => by rw [i1 45 (by decide)]⟩
theorem PV.bg {h h' : Mem} (v : PV h 53 n c H ow sm) (i1 : ∀ i, i ≠ 54 → h' i = h i) (i2 : ∀ z : Nat, z < 17 → h' 54 (z : Int) = h 53 (z : Int)) : PV h' 54 n c H ow sm := by
  obtain ⟨hn, h4, h5, hc, hH, ho⟩ := v
  refine ⟨hn, by rw [i1 45 (by decide)]; exact h4, by have := i2 5 (by decide); rw [show (5 : Int) = ((5 : Nat) : Int) from rfl, this]; exact h5, fun r hr => by rw [i1 47 (by decide)]; exact hc r hr, fun r hr => by rw [i2 r (by omega)]; exact hH r hr, fun r hr => ?_⟩
  have := i2 (6 + r) (by omega)
  rw [show (6 : Int) + (r : Int) = ((6 + r : Nat) : Int) by omega, this, show ((6 + r : Nat) : Int) = (6 : Int) + (r : Int) by omega]
  exact ho r hr
theorem y_fires (v : MV2 h n c H ow sm k ri sp wo law hr cl) (m w : Int) : ∃ h', p_X9_fires h m w = some (s_fires n c H ow k ri sp wo law hr cl m w, h') ∧ Sm h h' := by
  have s0 := Sm.up0 h
  have v0 := v.md s0
  unfold p_X9_fires s_fires
  generalize up h 45 0 0 = g at *
  rw [m_in, bd_n]
  by_cases q : 1 ≤ m ∧ m ≤ 10
  · rw [if01_t q, if_pos q, m_in, bd_n]
    by_cases w1 : 0 ≤ w ∧ w ≤ 1
    · rw [if01_t w1, if_pos w1]
      obtain ⟨m', rfl⟩ := toN (show 0 ≤ m by omega)
      simp only [Int.toNat_natCast]
      have hn := v.1.1
      have hk := v.2.1.1
      obtain ⟨eA, nb1, nb2⟩ := AL_ns hn
      have hF := fun u => FW_b n c H ow law k ri sp wo cl hr m' u hk (by omega)
      have s1 : Sm g (up (up g 45 35 (-9)) 45 36 0) := (Sm.up45 g (by decide) _).tr (Sm.up45 _ (by decide) _)
      have find : ∃ h', p_X9_findFires g (m' : Int) = some h' ∧ Sm g h' ∧ h' 45 35 = ((bst (FW n c H ow law k ri sp wo cl hr m') (ns n - 1) : Nat) : Int) ∧ h' 45 36 = FW n c H ow law k ri sp wo cl hr m' (bst (FW n c H ow law k ri sp wo cl hr m') (ns n - 1)) := by
        unfold p_X9_findFires
        have e35 : up (up g 45 35 (-9)) 45 36 0 45 35 = -9 := by rw [up_k _ _ _ _ (by decide), up_eq]
        generalize up (up g 45 35 (-9)) 45 36 0 = g1 at *
        generalize hFe : FW n c H ow law k ri sp wo cl hr m' = F at *
        refine loop_inv (fun f i (a : Mem) => p_X9_findFires_L13 f a (m' : Int) i) (ns n) (fun j a => Sm g a ∧ ((j = 0 ∧ a 45 35 = -9) ∨ (1 ≤ j ∧ a 45 35 = ((bst F (j - 1) : Nat) : Int) ∧ a 45 36 = F (bst F (j - 1))))) (fun o => ∃ h', o = some h' ∧ Sm g h' ∧ h' 45 35 = ((bst F (ns n - 1) : Nat) : Int) ∧ h' 45 36 = F (bst F (ns n - 1))) ?_ ?_ 300 0 g1 (Nat.zero_le _) (by omega) ⟨s1, Or.inl ⟨rfl, e35⟩⟩
        · rintro f j a hj ⟨i1, i2⟩
          have va := v0.md i1
          simp only [p_X9_findFires_L13]
          unfold p_X9_findFires_13
          rw [m_all va.1, bd_n, if_neg (by omega)]
          obtain ⟨b, eb, b1, b2⟩ := m_begin a
          rw [eb, bd_n]
          have sb : Sm a (up b 54 5 (j : Int)) := (Sm.bg b1).tr (Sm.upr b (by decide) _ _)
          have vb := va.md sb
          have pb : PV (up b 54 5 (j : Int)) 54 n c H ow (j : Int) := by
            have p0 := va.1.bg b1 b2
            obtain ⟨hn, h4, h5, hc, hH, ho⟩ := p0
            exact ⟨hn, by rw [up_c _ _ _ _ (by decide)]; exact h4, up_eq _ _ _ _, fun r hr => by rw [up_c _ _ _ _ (by decide)]; exact hc r hr, fun r hr => by rw [up_k _ _ _ _ (by omega)]; exact hH r hr, fun r hr => by rw [up_k _ _ _ _ (by omega)]; exact ho r hr⟩
          have p11 : up b 54 5 (j : Int) 54 11 = cl := by
            rw [up_k _ _ _ _ (by decide), show (11 : Int) = ((11 : Nat) : Int) from rfl, b2 11 (by decide)]
            exact va.2.2.2.2.1
          have f35 : up b 54 5 (j : Int) 45 35 = a 45 35 := by rw [up_c _ _ _ _ (by decide), b1 45 (by decide)]
          have f36 : up b 54 5 (j : Int) 45 36 = a 45 36 := by rw [up_c _ _ _ _ (by decide), b1 45 (by decide)]
          generalize up b 54 5 (j : Int) = d at *
          have hR : p_X9_rentsOf d 54 (AL n) (hr : Int) (m' : Int) 4 (law : Int) = some (RT n c H ow (AL n) (j : Int) law k ri sp wo cl hr m' 4) := by
            rw [m_rentsOf pb vb.2.1 (by have := v.2.2.2.2.2.1; omega) (by omega) (AL n) (by decide), p11]
            rfl
          have h1 := RT_b n c H ow (AL n) (j : Int) law k ri sp wo cl hr m' 4 hk
          have h2 : m' * pop j ≤ 100 * 5 := Nat.mul_le_mul (by omega) (pop_b j)
          have eF : F j = RT n c H ow (AL n) (j : Int) law k ri sp wo cl hr m' 4 + ((m' * pop j : Nat) : Int) := by rw [← hFe]; rfl
          rw [m_all vb.1, bd_n, vb.2.2.2.1, vb.2.2.1, hR, bd_n, m_many d (by omega), bd_n, ← Int.natCast_mul, wr_s (a := ((m' * pop j : Nat) : Int)) (by omega) (by omega), wr_s (a := RT n c H ow (AL n) (j : Int) law k ri sp wo cl hr m' 4 + ((m' * pop j : Nat) : Int)) (by omega) (by omega), ← eF, f35, f36]
          have sd := i1.tr sb
          have take : bst F j = j → ∃ a', (Sm g a' ∧ ((j + 1 = 0 ∧ a' 45 35 = -9) ∨ (1 ≤ j + 1 ∧ a' 45 35 = ((bst F (j + 1 - 1) : Nat) : Int) ∧ a' 45 36 = F (bst F (j + 1 - 1))))) ∧ p_X9_findFires_104 (fun h l1 l2 => p_X9_findFires_L13 f h l1 l2) d (m' : Int) (j : Int) (F j) = p_X9_findFires_L13 f a' (m' : Int) ((j : Int) + 1) := by
            intro z
            refine ⟨up (up d 45 35 (j : Int)) 45 36 (F j), ⟨(sd.tr (Sm.up45 d (by decide) _)).tr (Sm.up45 _ (by decide) _), Or.inr ⟨by omega, ?_, ?_⟩⟩, ?_⟩
            · rw [up_k _ _ _ _ (by decide), up_eq, Nat.add_sub_cancel, z]
            · rw [up_eq, Nat.add_sub_cancel, z]
            · unfold p_X9_findFires_104 p_X9_findFires_114
              rw [wr_1 (by omega)]
          by_cases z0 : a 45 35 = -9
          · rw [if_pos z0]
            apply take
            rcases i2 with ⟨j0, _⟩ | ⟨j0, x1, x2⟩
            · subst j0; rfl
            · omega
          · rw [if_neg z0]
            rcases i2 with ⟨_, y⟩ | ⟨j0, x1, x2⟩
            · exact absurd y z0
            · obtain ⟨j', rfl⟩ : ∃ j', j = j' + 1 := ⟨j - 1, by omega⟩
              simp only [Nat.add_sub_cancel] at x1 x2
              have bl := bst_le F j'
              rw [x1, x2]
              have keep : bst F (j' + 1) = bst F j' → ∃ a', (Sm g a' ∧ ((j' + 1 + 1 = 0 ∧ a' 45 35 = -9) ∨ (1 ≤ j' + 1 + 1 ∧ a' 45 35 = ((bst F (j' + 1 + 1 - 1) : Nat) : Int) ∧ a' 45 36 = F (bst F (j' + 1 + 1 - 1))))) ∧ p_X9_findFires_114 (fun h l1 l2 => p_X9_findFires_L13 f h l1 l2) d (m' : Int) ((j' + 1 : Nat) : Int) = p_X9_findFires_L13 f a' (m' : Int) (((j' + 1 : Nat) : Int) + 1) := by
                intro z
                refine ⟨d, ⟨sd, Or.inr ⟨by omega, ?_, ?_⟩⟩, ?_⟩
                · rw [Nat.add_sub_cancel, z, f35, x1]
                · rw [Nat.add_sub_cancel, z, f36, x2]
                · unfold p_X9_findFires_114
                  rw [wr_1 (by omega)]
              by_cases z : F (bst F j') < F (j' + 1)
              · rw [if_pos z]; exact take (bst_t (Or.inl z))
              · rw [if_neg z]
                by_cases z2 : F (j' + 1) = F (bst F j')
                · rw [if_pos z2, m_many d (by omega), bd_n, bd_n]
                  by_cases z3 : pop (bst F j') ≤ pop (j' + 1)
                  · rw [if_pos (by omega)]
                    exact keep (bst_f (by omega))
                  · rw [if_neg (by omega)]
                    exact take (bst_t (Or.inr ⟨z2, by omega⟩))
                · rw [if_neg z2]; exact keep (bst_f (by omega))
        · rintro f a ⟨i1, i2⟩
          have va := v0.md i1
          simp only [p_X9_findFires_L13]
          unfold p_X9_findFires_13
          rw [m_all va.1, bd_n, if_pos (by omega)]
          rcases i2 with ⟨j0, _⟩ | ⟨_, x1, x2⟩
          · omega
          · exact ⟨a, rfl, i1, x1, x2⟩
      obtain ⟨h', e, sf, x1, x2⟩ := find
      rw [e, bd_n, x1, x2]
      refine ⟨h', ?_, s0.tr sf⟩
      split <;> rfl
    · rw [if01_f w1, if_neg w1]; exact ⟨g, rfl, s0⟩
  · rw [if01_f q, if_neg q]; exact ⟨g, rfl, s0⟩
end FIRES
