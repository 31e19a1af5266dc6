/-! ===== keep, again ===== -/
section KEEP
variable {h h' g : Mem} {n : Nat} {c : Nat → Fin 10} {k : Nat} {ri : Nat → Fin 10} {sp : Nat → Fin 4} {wo : Nat → Fin 10} {law a : Nat} {pg : Nat → Pg} {f0 : Nat} {q0 : Pg} {f1 : Nat} {q1 : Pg} {w : Nat} {ce ho : Nat → Fin 10} {sh : Nat → Fin 2} {tx : Nat} {by' : Nat → Fin 256} {sd : Int} {p : Pg} {t u s f : Nat}
theorem CpP.cp (z : CpP h h' t u) (v : CP h u n c p) : CP h' t n c p := by
  obtain ⟨v1, v2, v3, v4⟩ := v
  exact ⟨z.tv v1, by rw [z.2.1 6 (by decide)]; exact v2, by rw [z.2.1 7 (by decide)]; exact v3, fun l hl => by rw [z.2.2.2.2.2 _ (by omega) (by omega)]; exact v4 l hl⟩
theorem y_keepL (hn : n ≤ 5) (v : IM h n c k ri sp wo law a pg f0 q0 f1 q1 w ce ho sh tx by' sd) {s : Nat} (hs : s < 2) : ∃ h', p_X9_keep_L26 300 (up h 57 (s : Int) 1) (s : Int) 0 = some ((pT (pg a) : Int), h') ∧ Hi h h' ∧ (∀ i, i ≠ 56 → i ≠ 57 → h' i = h i) ∧ (∀ z : Int, z ≠ (s : Int) → h' 57 z = h 57 z) ∧ h' 57 (s : Int) = 1 ∧ (∀ z : Nat, z < 17 → h' 56 (17 * (s : Int) + (z : Int)) = h 53 (z : Int)) ∧ ∀ z : Int, z < 17 * (s : Int) ∨ 17 * (s : Int) + 17 ≤ z → h' 56 z = h 56 z := by
  refine loop_inv (fun f i (m : Mem) => p_X9_keep_L26 f m (s : Int) i) 17 (fun j m => (∀ i, i ≠ 56 → m i = up h 57 (s : Int) 1 i) ∧ (∀ z : Nat, z < j → m 56 (17 * (s : Int) + (z : Int)) = h 53 (z : Int)) ∧ ∀ z : Int, z < 17 * (s : Int) ∨ 17 * (s : Int) + 17 ≤ z → m 56 z = h 56 z) (fun o => ∃ h', o = some ((pT (pg a) : Int), h') ∧ Hi h h' ∧ (∀ i, i ≠ 56 → i ≠ 57 → h' i = h i) ∧ (∀ z : Int, z ≠ (s : Int) → h' 57 z = h 57 z) ∧ h' 57 (s : Int) = 1 ∧ (∀ z : Nat, z < 17 → h' 56 (17 * (s : Int) + (z : Int)) = h 53 (z : Int)) ∧ ∀ z : Int, z < 17 * (s : Int) ∨ 17 * (s : Int) + 17 ≤ z → h' 56 z = h 56 z) ?_ ?_ 300 0 (up h 57 (s : Int) 1) (Nat.zero_le _) (by omega) ⟨fun _ _ => rfl, fun z hz => by omega, fun z _ => up_c _ _ _ _ (by decide)⟩
  · rintro f j m hj ⟨i1, i2, i3⟩
    have m53 : ∀ z : Int, m 53 z = h 53 z := fun z => by rw [i1 53 (by decide)]; exact up_c _ _ _ _ (by decide)
    simp only [p_X9_keep_L26]
    unfold p_X9_keep_26
    rw [if_neg (by omega), gd_w (by omega), wr_s (a := 17 * (s : Int)) (by omega) (by omega), wr_s (a := 17 * (s : Int) + (j : Int)) (by omega) (by omega), gd_w (by omega), wr_1 (by omega), m53]
    refine ⟨_, ⟨fun i hi => ?_, fun z hz => ?_, fun z hz => ?_⟩, rfl⟩
    · rw [← i1 i hi]; funext q; exact up_c _ _ _ _ hi
    · by_cases e : z = j
      · subst e; rw [up_eq]
      · rw [up_k _ _ _ _ (by omega)]; exact i2 z (by omega)
    · rw [up_k _ _ _ _ (by omega)]; exact i3 z hz
  · rintro f m ⟨i1, i2, i3⟩
    have E : ∀ i, i ≠ 56 → i ≠ 57 → m i = h i := fun i a1 a2 => by rw [i1 i a1]; funext z; exact up_c _ _ _ _ a2
    simp only [p_X9_keep_L26]
    unfold p_X9_keep_26 p_X9_keep_55
    rw [if_pos (by decide), E 53 (by decide) (by decide), v.1.2.2.2.2.2]
    exact ⟨m, rfl, fun i hi => E i (by omega) (by omega), E, fun z hz => by rw [i1 57 (by decide), up_k _ _ _ _ hz], by rw [i1 57 (by decide), up_eq], i2, i3⟩
theorem y_keep0 (v : IM h n c k ri sp wo law a pg f0 q0 f1 q1 w ce ho sh tx by' sd) : ∃ h', p_X9_keep_L26 300 (up h 57 0 1) 0 0 = some ((pT (pg a) : Int), h') ∧ Hi h h' ∧ IM h' n c k ri sp wo law a pg 1 (pg a) f1 q1 w ce ho sh tx by' sd := by
  have hn := v.2.1.1
  obtain ⟨h', e, hi, s1, s2, s3, s4, s5⟩ := y_keepL hn v (s := 0) (by decide)
  obtain ⟨v1, v2, v3, v4, v5, v6, v7, v8⟩ := v
  have e45 := s1 45 (by decide) (by decide)
  refine ⟨h', e, hi, by rw [s1 53 (by decide) (by decide)]; exact v1, v2.same (fun i a b => s1 i (by omega) (by omega)) (by rw [e45]) (by rw [e45]) (by rw [e45]), v3.same (s1 55 (by decide) (by decide)) (by rw [e45]), Or.inr ⟨rfl, s3, v1.ext hn (fun z hz => s4 z hz)⟩, ?_, v6.same (fun i a b => s1 i (by omega) (by omega)) (by rw [e45]), v7.same (s1 46 (by decide) (by decide)) (by rw [e45]), by rw [e45]; exact v8⟩
  rcases v5 with ⟨x1, x2⟩ | ⟨x1, x2, x3⟩
  · exact Or.inl ⟨x1, by rw [s2 _ (by decide)]; exact x2⟩
  · exact Or.inr ⟨x1, by rw [s2 _ (by decide)]; exact x2, x3.ext hn (fun z hz => s5 _ (by omega))⟩
theorem y_keep1 (v : IM h n c k ri sp wo law a pg f0 q0 f1 q1 w ce ho sh tx by' sd) : ∃ h', p_X9_keep_L26 300 (up h 57 1 1) 1 0 = some ((pT (pg a) : Int), h') ∧ Hi h h' ∧ IM h' n c k ri sp wo law a pg f0 q0 1 (pg a) w ce ho sh tx by' sd := by
  have hn := v.2.1.1
  obtain ⟨h', e, hi, s1, s2, s3, s4, s5⟩ := y_keepL hn v (s := 1) (by decide)
  obtain ⟨v1, v2, v3, v4, v5, v6, v7, v8⟩ := v
  have e45 := s1 45 (by decide) (by decide)
  refine ⟨h', e, hi, by rw [s1 53 (by decide) (by decide)]; exact v1, v2.same (fun i a b => s1 i (by omega) (by omega)) (by rw [e45]) (by rw [e45]) (by rw [e45]), v3.same (s1 55 (by decide) (by decide)) (by rw [e45]), ?_, Or.inr ⟨rfl, s3, v1.ext hn (fun z hz => s4 z hz)⟩, v6.same (fun i a b => s1 i (by omega) (by omega)) (by rw [e45]), v7.same (s1 46 (by decide) (by decide)) (by rw [e45]), by rw [e45]; exact v8⟩
  rcases v4 with ⟨x1, x2⟩ | ⟨x1, x2, x3⟩
  · exact Or.inl ⟨x1, by rw [s2 _ (by decide)]; exact x2⟩
  · exact Or.inr ⟨x1, by rw [s2 _ (by decide)]; exact x2, x3.ext hn (fun z hz => s5 _ (by omega))⟩
theorem x_keepT (v : IC h n c k ri sp wo law a pg f0 q0 f1 q1 w ce ho sh tx by' sd) (h01 : pC (pg a) = 0 ∨ pC (pg a) = 1) {t : Nat} (ht : 12 < t) (ht2 : t + 4 < 30) : ∃ g, p_X6_copyOf h (t + 1) 7 = some g ∧ g 7 = h 7 ∧ CP (up g t 1 1) (t + 1) n c (pg a) ∧ up g t 1 1 t 1 = 1 ∧ (∀ i, i < t ∨ t + 5 < i → up g t 1 1 i = h i) := by
  obtain ⟨g, e, z⟩ := t_copy h (t + 1) 7 (Or.inr (by omega)) (by rw [v.1.2.2.1]; exact h01)
  refine ⟨g, e, z.1 7 (by omega), (z.cp v.1).same (fun i a b => by funext q; exact up_c _ _ _ _ (by omega)), up_eq _ _ _ _, fun i hi => ?_⟩
  rw [← z.1 i (by omega)]
  funext q
  exact up_c _ _ _ _ (by omega)
theorem pr_keep (B : Nat) (x : Int) : Pair B B (fun h => p_X8_keep h x) (fun h => p_X9_keep h x) := by
  intro h i
  have idle := inv_idle i
  obtain ⟨n, c, k, ri, sp, wo, law, a, pg, f0, q0, f1, q1, w, ce, ho, sh, tx, by', sd, i1, i2, i3⟩ := i
  show ∃ (u : Int) (h1 h2 : Mem), p_X8_keep h x = some (u, h1) ∧ p_X9_keep h1 x = some (u, h2) ∧ INV B h2
  have vp := i3.2.2.2.1 a (Nat.le_refl a)
  have ivk := i3
  obtain ⟨w1, w2, w3, w4, w5, w6⟩ := i3
  unfold p_X8_keep p_X9_keep p_X8_slotOf
  by_cases x0 : x = 0
  · subst x0
    obtain ⟨g, eg, g7, cpg, gf, gs⟩ := x_keepT i1 vp.1 (t := 17) (by decide) (by decide)
    rw [if_pos rfl, bd_n, if_pos rfl, eg, bd_n]
    have lo : Lo h (up g 17 1 1) := fun i hi => gs i (by omega)
    have j1 : IC (up g 17 1 1) n c k ri sp wo law a pg 1 (pg a) f1 q1 w ce ho sh tx by' sd := by
      obtain ⟨v1, v2, v3, v4, v5, v6, v7, v8⟩ := i1
      exact ⟨v1.same (fun i a b => gs i (by omega)), v2.same (fun i a b => gs i (by omega)) (by rw [gs 0 (by decide)]), v3.same (fun i a b => gs i (by omega)), Or.inr ⟨rfl, gf, cpg⟩, v5.same (fun i a b => gs i (by omega)), v6.same (fun i a b => gs i (by omega)), v7.same (fun i a b => gs i (by omega)), by rw [gs 0 (by decide)]; exact v8⟩
    have h76 : up g 17 1 1 7 6 = (pT (pg a) : Int) := j1.1.2.1
    have j2 := i2.lo lo
    refine ⟨(pT (pg a) : Int), up g 17 1 1, ?_⟩
    generalize up g 17 1 1 = b at *
    have sm := Sm.up0 b
    obtain ⟨d, ed, hi, k2⟩ := y_keep0 (j2.md sm)
    refine ⟨d, by rw [h76], ?_, n, c, k, ri, sp, wo, law, a, pg, 1, pg a, f1, q1, w, ce, ho, sh, tx, by', sd, (j1.hi sm.hi).hi hi, k2, w1, w2, w3, w4, vp, w6⟩
    rw [m_in, bd_n, if01_t (by decide), gd_w (by decide), ed]
  · by_cases x1 : x = 1
    · subst x1
      obtain ⟨g, eg, g7, cpg, gf, gs⟩ := x_keepT i1 vp.1 (t := 23) (by decide) (by decide)
      rw [if_neg (by decide), if_pos rfl, bd_n, if_neg (by decide), if_pos rfl, eg, bd_n]
      have lo : Lo h (up g 23 1 1) := fun i hi => gs i (by omega)
      have j1 : IC (up g 23 1 1) n c k ri sp wo law a pg f0 q0 1 (pg a) w ce ho sh tx by' sd := by
        obtain ⟨v1, v2, v3, v4, v5, v6, v7, v8⟩ := i1
        exact ⟨v1.same (fun i a b => gs i (by omega)), v2.same (fun i a b => gs i (by omega)) (by rw [gs 0 (by decide)]), v3.same (fun i a b => gs i (by omega)), v4.same (fun i a b => gs i (by omega)), Or.inr ⟨rfl, gf, cpg⟩, v6.same (fun i a b => gs i (by omega)), v7.same (fun i a b => gs i (by omega)), by rw [gs 0 (by decide)]; exact v8⟩
      have h76 : up g 23 1 1 7 6 = (pT (pg a) : Int) := j1.1.2.1
      have j2 := i2.lo lo
      refine ⟨(pT (pg a) : Int), up g 23 1 1, ?_⟩
      generalize up g 23 1 1 = b at *
      have sm := Sm.up0 b
      obtain ⟨d, ed, hi, k2⟩ := y_keep1 (j2.md sm)
      refine ⟨d, by rw [h76], ?_, n, c, k, ri, sp, wo, law, a, pg, f0, q0, 1, pg a, w, ce, ho, sh, tx, by', sd, (j1.hi sm.hi).hi hi, k2, w1, w2, w3, w4, w5, vp⟩
      rw [m_in, bd_n, if01_t (by decide), gd_w (by decide), ed]
    · rw [if_neg x0, if_neg x1, bd_n, if_neg (by decide), if_neg (by decide), gd_w rfl]
      refine ⟨-1, h, _, rfl, ?_, idle⟩
      rw [m_in, bd_n, if01_f (by omega)]
theorem x_againT (v : IC h n c k ri sp wo law a pg f0 q0 f1 q1 w ce ho sh tx by' sd) {t : Nat} (ht : 12 < t) (ht2 : t + 4 < 30) {q : Pg} (hq : CP h (t + 1) n c q) (h01 : pC q = 0 ∨ pC q = 1) : ∃ g, p_X6_copyOf h 7 (t + 1) = some g ∧ IC (up g 33 3 0) n c k ri sp wo law 0 (fun _ => q) f0 q0 f1 q1 w ce ho sh tx by' sd ∧ Lo h (up g 33 3 0) := by
  obtain ⟨g, e, z⟩ := t_copy h 7 (t + 1) (Or.inl (by omega)) (by rw [hq.2.2.1]; exact h01)
  have gs : ∀ i, i < 7 ∨ 11 < i → i ≠ 33 → up g 33 3 0 i = h i := fun i h1 h2 => by
    rw [← z.1 i (by omega)]; funext x; exact up_c _ _ _ _ h2
  obtain ⟨v1, v2, v3, v4, v5, v6, v7, v8⟩ := v
  exact ⟨g, e, ⟨(z.cp hq).same (fun i a b => by funext x; exact up_c _ _ _ _ (by omega)), v2.same (fun i a b => gs i (by omega) (by omega)) (by rw [gs 0 (by decide) (by decide)]), ⟨up_eq _ _ _ _, fun j hj => by omega⟩, v4.same (fun i a b => gs i (by omega) (by omega)), v5.same (fun i a b => gs i (by omega) (by omega)), v6.same (fun i a b => gs i (by omega) (by omega)), v7.same (fun i a b => gs i (by omega) (by omega)), by rw [gs 0 (by decide) (by decide)]; exact v8⟩, fun i hi => gs i (by omega) (by omega)⟩
theorem y_againL (v : IM h n c k ri sp wo law a pg f0 q0 f1 q1 w ce ho sh tx by' sd) {s : Nat} (hs : s < 2) {q : Pg} (hq : PgF (fun i => h 56 (17 * (s : Int) + i)) n q) : ∃ h', p_X9_again_L31 300 h (s : Int) 0 = some ((pT q : Int), h') ∧ Hi h h' ∧ IM h' n c k ri sp wo law 0 (fun _ => q) f0 q0 f1 q1 w ce ho sh tx by' sd := by
  obtain ⟨v1, v2, v3, v4, v5, v6, v7, v8⟩ := v
  have hn := v2.1
  refine loop_inv (fun f i (m : Mem) => p_X9_again_L31 f m (s : Int) i) 17 (fun j m => (∀ i, i ≠ 53 → m i = h i) ∧ ∀ z : Nat, z < j → m 53 (z : Int) = h 56 (17 * (s : Int) + (z : Int))) (fun o => ∃ h', o = some ((pT q : Int), h') ∧ Hi h h' ∧ IM h' n c k ri sp wo law 0 (fun _ => q) f0 q0 f1 q1 w ce ho sh tx by' sd) ?_ ?_ 300 0 h (Nat.zero_le _) (by omega) ⟨fun _ _ => rfl, fun z hz => by omega⟩
  · rintro f j m hj ⟨i1, i2⟩
    simp only [p_X9_again_L31]
    unfold p_X9_again_31
    rw [if_neg (by omega), wr_s (a := 17 * (s : Int)) (by omega) (by omega), wr_s (a := 17 * (s : Int) + (j : Int)) (by omega) (by omega), gd_w (by omega), gd_w (by omega), wr_1 (by omega), i1 56 (by decide)]
    refine ⟨_, ⟨fun i hi => ?_, fun z hz => ?_⟩, rfl⟩
    · rw [← i1 i hi]; funext x; exact up_c _ _ _ _ hi
    · by_cases e : z = j
      · subst e; rw [up_eq]
      · rw [up_k _ _ _ _ (by omega)]; exact i2 z (by omega)
  · rintro f m ⟨i1, i2⟩
    have pf : PgF (m 53) n q := hq.ext hn (fun z hz => i2 z hz)
    simp only [p_X9_again_L31]
    unfold p_X9_again_31 p_X9_again_60
    rw [if_pos (by decide), up_c _ _ _ _ (by decide), pf.2.2.2.2.2]
    have E : ∀ i, i ≠ 45 → i ≠ 53 → up m 45 19 0 i = h i := fun i a1 a2 => by rw [← i1 i a2]; funext z; exact up_c _ _ _ _ a1
    have F : ∀ f : Int, f ≠ 19 → up m 45 19 0 45 f = h 45 f := fun f hf => by rw [up_k _ _ _ _ hf, i1 45 (by decide)]
    refine ⟨_, rfl, fun i hi => E i (by omega) (by omega), ?_, v2.same (fun i a b => E i (by omega) (by omega)) (F 4 (by decide)) (F 5 (by decide)) (F 6 (by decide)), ⟨up_eq _ _ _ _, fun j hj => by omega⟩, v4.same (E 56 (by decide) (by decide)) (E 57 (by decide) (by decide)), v5.same (E 56 (by decide) (by decide)) (E 57 (by decide) (by decide)), v6.same (fun i a b => E i (by omega) (by omega)) (F 22 (by decide)), v7.same (E 46 (by decide) (by decide)) (F 2 (by decide)), by rw [F 26 (by decide)]; exact v8⟩
    have : up m 45 19 0 53 = m 53 := by funext z; exact up_c _ _ _ _ (by decide)
    rw [this]
    exact pf
theorem pr_again (B : Nat) (x : Int) : Pair B B (fun h => p_X8_again h x) (fun h => p_X9_again h x) := by
  intro h i
  have idle := inv_idle i
  obtain ⟨n, c, k, ri, sp, wo, law, a, pg, f0, q0, f1, q1, w, ce, ho, sh, tx, by', sd, i1, i2, i3⟩ := i
  show ∃ (u : Int) (h1 h2 : Mem), p_X8_again h x = some (u, h1) ∧ p_X9_again h1 x = some (u, h2) ∧ INV B h2
  obtain ⟨w1, w2, w3, w4, w5, w6⟩ := i3
  unfold p_X8_again p_X9_again p_X8_slotOf p_X0_clear
  by_cases x0 : x = 0
  · subst x0
    rw [if_pos rfl, bd_n, if_pos rfl]
    rcases i1.2.2.2.1 with ⟨y1, y2⟩ | ⟨y1, y2, y3⟩
    · have m0 : h 57 0 = 0 := by
        rcases i2.2.2.2.1 with ⟨z1, z2⟩ | ⟨z1, z2, z3⟩
        · exact z2
        · omega
      rw [if_pos y2]
      refine ⟨-3, h, _, rfl, ?_, idle⟩
      rw [m_in, bd_n, if01_t (by decide), gd_w (by decide), up_c _ _ _ _ (by decide), if_pos m0]
    · rcases i2.2.2.2.1 with ⟨z1, z2⟩ | ⟨z1, z2, z3⟩
      · omega
      · obtain ⟨g, eg, j1, lo⟩ := x_againT i1 (t := 17) (by decide) (by decide) y3 w5.1
        rw [if_neg (by omega), eg, bd_n, bd_n]
        have h76 : up g 33 3 0 7 6 = (pT q0 : Int) := j1.1.2.1
        have j2 := i2.lo lo
        refine ⟨(pT q0 : Int), up g 33 3 0, ?_⟩
        generalize up g 33 3 0 = b at *
        have sm := Sm.up0 b
        have m0 : b 57 0 = 1 := by rw [lo 57 (by decide)]; exact z2
        have pf : PgF (fun i => up b 45 0 0 56 (17 * ((0 : Nat) : Int) + i)) n q0 := by
          rcases (j2.md sm).2.2.2.1 with ⟨t1, t2⟩ | ⟨t1, t2, t3⟩
          · omega
          · exact t3
        obtain ⟨d, ed, hi, k2⟩ := y_againL (j2.md sm) (s := 0) (by decide) pf
        refine ⟨d, by rw [h76], ?_, n, c, k, ri, sp, wo, law, 0, fun _ => q0, f0, q0, f1, q1, w, ce, ho, sh, tx, by', sd, (j1.hi sm.hi).hi hi, k2, w1, w2, by decide, fun j hj => w5, w5, w6⟩
        rw [m_in, bd_n, if01_t (by decide), gd_w (by decide), up_c _ _ _ _ (by decide), m0, if_neg (by decide)]
        exact ed
  · by_cases x1 : x = 1
    · subst x1
      rw [if_neg (by decide), if_pos rfl, bd_n, if_neg (by decide), if_pos rfl]
      rcases i1.2.2.2.2.1 with ⟨y1, y2⟩ | ⟨y1, y2, y3⟩
      · have m0 : h 57 1 = 0 := by
          rcases i2.2.2.2.2.1 with ⟨z1, z2⟩ | ⟨z1, z2, z3⟩
          · exact z2
          · omega
        rw [if_pos y2]
        refine ⟨-3, h, _, rfl, ?_, idle⟩
        rw [m_in, bd_n, if01_t (by decide), gd_w (by decide), up_c _ _ _ _ (by decide), if_pos m0]
      · rcases i2.2.2.2.2.1 with ⟨z1, z2⟩ | ⟨z1, z2, z3⟩
        · omega
        · obtain ⟨g, eg, j1, lo⟩ := x_againT i1 (t := 23) (by decide) (by decide) y3 w6.1
          rw [if_neg (by omega), eg, bd_n, bd_n]
          have h76 : up g 33 3 0 7 6 = (pT q1 : Int) := j1.1.2.1
          have j2 := i2.lo lo
          refine ⟨(pT q1 : Int), up g 33 3 0, ?_⟩
          generalize up g 33 3 0 = b at *
          have sm := Sm.up0 b
          have m0 : b 57 1 = 1 := by rw [lo 57 (by decide)]; exact z2
          have pf : PgF (fun i => up b 45 0 0 56 (17 * ((1 : Nat) : Int) + i)) n q1 := by
            rcases (j2.md sm).2.2.2.2.1 with ⟨t1, t2⟩ | ⟨t1, t2, t3⟩
            · omega
            · exact t3
          obtain ⟨d, ed, hi, k2⟩ := y_againL (j2.md sm) (s := 1) (by decide) pf
          refine ⟨d, by rw [h76], ?_, n, c, k, ri, sp, wo, law, 0, fun _ => q1, f0, q0, f1, q1, w, ce, ho, sh, tx, by', sd, (j1.hi sm.hi).hi hi, k2, w1, w2, by decide, fun j hj => w6, w5, w6⟩
          rw [m_in, bd_n, if01_t (by decide), gd_w (by decide), up_c _ _ _ _ (by decide), m0, if_neg (by decide)]
          exact ed
    · rw [if_neg x0, if_neg x1, bd_n, if_neg (by decide), if_neg (by decide), gd_w rfl]
      refine ⟨-1, h, _, rfl, ?_, idle⟩
      rw [m_in, bd_n, if01_f (by omega)]
end KEEP
