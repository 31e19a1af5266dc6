/-! ===== build, light, sell, clouds ===== -/
section MUTATE
variable {h h' g : Mem} {n : Nat} {c : Nat → Fin 10} {k : Nat} {ri : Nat → Fin 10} {sp : Nat → Fin 4} {wo : Nat → Fin 10} {law a : Nat} {pg : Nat → Pg} {f0 : Nat} {q0 : Pg} {f1 : Nat} {q1 : Pg} {w : Nat} {ce ho : Nat → Fin 10} {sh : Nat → Fin 2} {tx : Nat} {by' : Nat → Fin 256} {sd : Int} {p : Pg} {t s f : Nat}
theorem IC.act (v : IC h n c k ri sp wo law a pg f0 q0 f1 q1 w ce ho sh tx by' sd) (ha : a ≤ 14) (e : ∀ i, i < 7 ∨ 11 < i → ¬ (12 ≤ i ∧ i ≤ 16) → ¬ (30 ≤ i ∧ i ≤ 32) → ¬ (42 ≤ i ∧ i ≤ 44) → g i = h i) (cp : CP g 7 n c p) {kd rf ws : Int} (u : UndoR n c k ri sp wo law kd rf ws p (pg a)) : ∃ h1, p_X0_add g kd rf ws = some h1 ∧ IC h1 n c k ri sp wo law (na a) (np a pg p) f0 q0 f1 q1 w ce ho sh tx by' sd ∧ Lo h h1 ∧ ∀ i, i < 33 → h1 i = g i := by
  obtain ⟨v1, v2, v3, v4, v5, v6, v7, v8⟩ := v
  obtain ⟨h1, e1, s1, ac⟩ := (v3.same (fun i a b => e i (by omega) (by omega) (by omega) (by omega))).add ha u
  have E : ∀ i, i < 7 ∨ 11 < i → i < 33 ∨ 36 < i → ¬ (12 ≤ i ∧ i ≤ 16) → ¬ (30 ≤ i ∧ i ≤ 32) → ¬ (42 ≤ i ∧ i ≤ 44) → h1 i = h i := fun i a1 a2 a3 a4 a5 => (s1 i a2).trans (e i a1 a3 a4 a5)
  refine ⟨h1, e1, ⟨?_, v2.same (fun i a b => E i (by omega) (by omega) (by omega) (by omega) (by omega)) (by rw [E 0 (by decide) (by decide) (by decide) (by decide) (by decide)]), ac, v4.same (fun i a b => E i (by omega) (by omega) (by omega) (by omega) (by omega)), v5.same (fun i a b => E i (by omega) (by omega) (by omega) (by omega) (by omega)), v6.same (fun i a b => E i (by omega) (by omega) (by omega) (by omega) (by omega)), v7.same (fun i a b => E i (by omega) (by omega) (by omega) (by omega) (by omega)), by rw [E 0 (by decide) (by decide) (by decide) (by decide) (by decide)]; exact v8⟩, fun i hi => E i (by omega) (by omega) (by omega) (by omega) (by omega), fun i hi => s1 i (by omega)⟩
  rw [np_top]
  exact cp.same (fun i a b => s1 i (by omega))
theorem IM.act (v : IM h n c k ri sp wo law a pg f0 q0 f1 q1 w ce ho sh tx by' sd) (ha : a ≤ 14) (p : Pg) : ∃ g, p_X9_note h = some g ∧ Hi h g ∧ g 53 = h 53 ∧ g 45 4 = h 45 4 ∧ (∀ i, i = 47 ∨ i = 48 ∨ i = 49 ∨ i = 50 → g i = h i) ∧ g 45 5 = h 45 5 ∧ g 45 6 = h 45 6 ∧ ∀ d : Mem, (∀ i, i ≠ 53 → d i = g i) → PgF (d 53) n p → IM d n c k ri sp wo law (na a) (np a pg p) f0 q0 f1 q1 w ce ho sh tx by' sd := by
  obtain ⟨v1, v2, v3, v4, v5, v6, v7, v8⟩ := v
  obtain ⟨g, eg, s1, s2, bk⟩ := v3.note v2.1 ha v1 p
  refine ⟨g, eg, fun i hi => s1 i (by omega) (by omega), s1 53 (by decide) (by decide), s2 4 (by decide), fun i hi => s1 i (by omega) (by omega), s2 5 (by decide), s2 6 (by decide), fun d hd pf => ?_⟩
  have E : ∀ i, i ≠ 45 → i ≠ 53 → i ≠ 55 → d i = h i := fun i a1 a2 a3 => (hd i a2).trans (s1 i a1 a3)
  have F : ∀ f : Int, f ≠ 19 → d 45 f = h 45 f := fun f hf => by rw [hd 45 (by decide), s2 f hf]
  exact ⟨by rw [np_top]; exact pf, v2.same (fun i a b => E i (by omega) (by omega) (by omega)) (F 4 (by decide)) (F 5 (by decide)) (F 6 (by decide)), bk.same (hd 55 (by decide)) (by rw [hd 45 (by decide)]), v4.same (E 56 (by decide) (by decide) (by decide)) (E 57 (by decide) (by decide) (by decide)), v5.same (E 56 (by decide) (by decide) (by decide)) (E 57 (by decide) (by decide) (by decide)), v6.same (fun i a b => E i (by omega) (by omega) (by omega)) (F 22 (by decide)), v7.same (E 46 (by decide) (by decide) (by decide)) (F 2 (by decide)), by rw [F 26 (by decide)]; exact v8⟩
theorem IV.act {B B' : Nat} (i : IV B law a pg q0 q1) (hB : B ≤ B') (hB' : B' ≤ 600) (v : VP B' p) : IV B' law (na a) (np a pg p) q0 q1 := by
  obtain ⟨i1, i2, i3, i4, i5, i6⟩ := i
  have nb := na_b i3
  refine ⟨hB', i2, nb.2.1, fun j hj => ?_, i5.up hB, i6.up hB⟩
  by_cases e : j = na a
  · subst e; rw [np_top]; exact v
  · rw [np_low pg p (by omega)]
    exact (i4 _ (by omega)).up hB
theorem inv_idle {B : Nat} (i : INV B h) : INV B (up h 45 0 0) := by
  obtain ⟨n, c, k, ri, sp, wo, law, a, pg, f0, q0, f1, q1, w, ce, ho, sh, tx, by', sd, i1, i2, i3⟩ := i
  have s := Sm.up0 h
  exact ⟨n, c, k, ri, sp, wo, law, a, pg, f0, q0, f1, q1, w, ce, ho, sh, tx, by', sd, i1.hi s.hi, i2.md s, i3⟩
theorem bxor_bxor {x : Int} (hx : RI x) (b : Int) : bxor (bxor x b) b = x := by
  unfold bxor
  rw [show I3 ((I3 x ^^^ I3 b).toInt) = I3 x ^^^ I3 b from I3_toInt _, Int32.xor_assoc, Int32.xor_self, Int32.xor_zero, toInt_I3 hx]
theorem pr_build (B : Nat) (r x : Int) : Pair B B (fun h => p_X8_build h r x) (fun h => p_X9_build h r x) := by
  intro h i
  have idle := inv_idle i
  obtain ⟨n, c, k, ri, sp, wo, law, a, pg, f0, q0, f1, q1, w, ce, ho, sh, tx, by', sd, i1, i2, i3⟩ := i
  show ∃ (u : Int) (h1 h2 : Mem), p_X8_build h r x = some (u, h1) ∧ p_X9_build h1 r x = some (u, h2) ∧ INV B h2
  obtain ⟨cp1, cp2, cp3, cp4⟩ := id i1.1
  obtain ⟨hn, a4, a5, hc, hH, hO⟩ := id cp1
  have mv := (i2.md (Sm.up0 h)).mv i3
  unfold p_X8_build p_X9_build
  rw [t_hasR cp1, bd_n]
  by_cases q0' : 0 ≤ r ∧ r < (n : Int)
  · rw [if01_t q0']
    obtain ⟨r', rfl⟩ := toN q0'.1
    have hr : r' < n := by omega
    by_cases x0 : x < 0
    · rw [if_pos x0]
      refine ⟨-2, h, _, rfl, ?_, idle⟩
      rw [m_noRoof mv.1, bd_n, if10_t q0', m_in, bd_n, if01_f (by omega)]
    · rw [if_neg x0]
      by_cases x1 : x < 10
      · rw [if_pos x1, gd_w (by omega), hH r' hr]
        by_cases same : (((pH (pg a)) r').val : Int) = x
        · rw [if_pos same]
          refine ⟨-3, h, _, rfl, ?_, idle⟩
          rw [m_noRoof mv.1, bd_n, if10_t q0', m_in, bd_n, if01_t (by omega), gd_w (by omega), mv.1.2.2.2.2.1 r' hr, if_pos same]
        · rw [if_neg same]
          obtain ⟨x', rfl⟩ := toN (show 0 ≤ x by omega)
          have fx := fd_v (show x' < 10 by omega)
          obtain ⟨e1, t1⟩ := cp1.seth hr (fd x')
          rw [fx] at e1 t1
          rw [e1, bd_n]
          let P : Pg := (fun i => if i = r' then fd x' else pH (pg a) i, pO (pg a), pS (pg a), pC (pg a), pP (pg a), pT (pg a))
          have hcp : CP (up h (7 + 2) (r' : Int) (x' : Int)) 7 n c P := ⟨t1, by rw [up_c _ _ _ _ (by decide)]; exact cp2, by rw [up_c _ _ _ _ (by decide)]; exact cp3, fun l hl => by rw [up_c _ _ _ _ (by decide)]; exact cp4 l hl⟩
          have hu : UndoR n c k ri sp wo law 0 (r' : Int) (((pH (pg a)) r').val : Int) P (pg a) := by
            refine Or.inl ⟨rfl, r', pH (pg a) r', hr, rfl, rfl, ?_⟩
            have : (fun i => if i = r' then pH (pg a) r' else pH P i) = pH (pg a) := by
              funext i
              by_cases e : i = r'
              · rw [if_pos e, e]
              · rw [if_neg e]
                show (if i = r' then fd x' else pH (pg a) i) = _
                rw [if_neg e]
            rw [this]
            rfl
          obtain ⟨h1, ea, j1, lo, _⟩ := i1.act i3.2.2.1 (fun i hi _ _ _ => by funext z; exact up_c _ _ _ _ (by omega)) hcp hu
          rw [ea, bd_n]
          have j2 := i2.lo lo
          have sm := Sm.up0 h1
          have m1 := (j2.md sm).mv i3
          obtain ⟨g, eg, hi, e53, e4, e47, e5, e6, mk⟩ := (j2.md sm).act i3.2.2.1 P
          refine ⟨_, h1, up g 53 (r' : Int) (x' : Int), rfl, ?_, n, c, k, ri, sp, wo, law, na a, np a pg P, f0, q0, f1, q1, w, ce, ho, sh, tx, by', sd, (j1.hi sm.hi).hi (hi.tr (Hi.up g (by decide) _ _)), mk _ (fun i hi => by funext z; exact up_c _ _ _ _ hi) ?_, i3.act (Nat.le_refl B) i3.1 (i3.2.2.2.1 a (Nat.le_refl a))⟩
          · rw [m_noRoof m1.1, bd_n, if10_t q0', m_in, bd_n, if01_t (by omega), gd_w (by omega), m1.1.2.2.2.2.1 r' hr, if_neg same, eg, bd_n, gd_w (by omega)]
          · obtain ⟨p1, p2, p3, p4, p5, p6⟩ := (j2.md sm).1
            rw [← e53] at p1 p2 p3 p4 p5 p6
            refine ⟨fun i hi => ?_, by rw [up_k _ _ _ _ (by omega)]; exact p2, fun i hi => by rw [up_k _ _ _ _ (by omega)]; exact p3 i hi, by rw [up_k _ _ _ _ (by omega)]; exact p4, fun l hl => by rw [up_k _ _ _ _ (by omega)]; exact p5 l hl, by rw [up_k _ _ _ _ (by omega)]; exact p6⟩
            show up g 53 (r' : Int) (x' : Int) 53 (i : Int) = (((if i = r' then fd x' else pH (pg a) i) : Fin 10).val : Int)
            by_cases e : i = r'
            · subst e; rw [up_eq, if_pos rfl, fx]
            · rw [up_k _ _ _ _ (by omega), if_neg e]; exact p1 i hi
      · rw [if_neg x1]
        refine ⟨-2, h, _, rfl, ?_, idle⟩
        rw [m_noRoof mv.1, bd_n, if10_t q0', m_in, bd_n, if01_f (by omega)]
  · rw [if01_f q0']
    refine ⟨-1, h, _, rfl, ?_, idle⟩
    rw [m_noRoof mv.1, bd_n, if10_f q0']
theorem pr_light (B : Nat) (r : Int) : Pair B B (fun h => p_X8_light h r) (fun h => p_X9_light h r) := by
  intro h i
  have idle := inv_idle i
  obtain ⟨n, c, k, ri, sp, wo, law, a, pg, f0, q0, f1, q1, w, ce, ho, sh, tx, by', sd, i1, i2, i3⟩ := i
  show ∃ (u : Int) (h1 h2 : Mem), p_X8_light h r = some (u, h1) ∧ p_X9_light h1 r = some (u, h2) ∧ INV B h2
  obtain ⟨cp1, cp2, cp3, cp4⟩ := id i1.1
  obtain ⟨hn, a4, a5, hc, hH, hO⟩ := id cp1
  have mv := (i2.md (Sm.up0 h)).mv i3
  have vp := i3.2.2.2.1 a (Nat.le_refl a)
  unfold p_X8_light p_X9_light
  rw [t_hasR cp1, bd_n]
  by_cases q0' : 0 ≤ r ∧ r < (n : Int)
  · rw [if01_t q0', a5]
    obtain ⟨r', rfl⟩ := toN q0'.1
    have hr : r' < n := by omega
    let P : Pg := (pH (pg a), pO (pg a), bxor (pS (pg a)) (bshl 1 (r' : Int)), pC (pg a), pP (pg a), pT (pg a))
    have hcp : CP (up h 7 5 (bxor (pS (pg a)) (bshl 1 (r' : Int)))) 7 n c P := ⟨⟨hn, by rw [up_k _ _ _ _ (by decide)]; exact a4, up_eq _ _ _ _, fun i hi => by rw [up_c _ _ _ _ (by decide)]; exact hc i hi, fun i hi => by rw [up_c _ _ _ _ (by decide)]; exact hH i hi, fun i hi => by rw [up_c _ _ _ _ (by decide)]; exact hO i hi⟩, by rw [up_k _ _ _ _ (by decide)]; exact cp2, by rw [up_k _ _ _ _ (by decide)]; exact cp3, fun l hl => by rw [up_c _ _ _ _ (by decide)]; exact cp4 l hl⟩
    have hu : UndoR n c k ri sp wo law 1 (r' : Int) 0 P (pg a) := by
      refine Or.inr (Or.inl ⟨rfl, r', hr, rfl, ?_⟩)
      have : bxor (pS P) (bshl 1 (r' : Int)) = pS (pg a) := bxor_bxor vp.2.1 _
      rw [this]
      rfl
    obtain ⟨h1, ea, j1, lo, same⟩ := i1.act i3.2.2.1 (fun i hi _ _ _ => by funext z; exact up_c _ _ _ _ (by omega)) hcp hu
    rw [ea, bd_n]
    have j2 := i2.lo lo
    have sm := Sm.up0 h1
    have m1 := (j2.md sm).mv i3
    obtain ⟨g, eg, hi, e53, e4, e47, e5, e6, mk⟩ := (j2.md sm).act i3.2.2.1 P
    obtain ⟨p1, p2, p3, p4, p5, p6⟩ := (j2.md sm).1
    rw [← e53] at p1 p2 p3 p4 p5 p6
    have h5 : h1 7 5 = bxor (pS (pg a)) (bshl 1 (r' : Int)) := by rw [same 7 (by decide), up_eq]
    refine ⟨_, h1, up g 53 5 (bxor (g 53 5) (bshl 1 (r' : Int))), rfl, ?_, n, c, k, ri, sp, wo, law, na a, np a pg P, f0, q0, f1, q1, w, ce, ho, sh, tx, by', sd, (j1.hi sm.hi).hi (hi.tr (Hi.up g (by decide) _ _)), mk _ (fun i hi => by funext z; exact up_c _ _ _ _ hi) ?_, i3.act (Nat.le_refl B) i3.1 ⟨vp.1, RI_toInt _, vp.2.2⟩⟩
    · rw [m_noRoof m1.1, bd_n, if10_t q0', eg, bd_n, up_eq, p2, h5]
    · refine ⟨fun i hi => by rw [up_k _ _ _ _ (by omega)]; exact p1 i hi, by rw [up_eq, p2]; rfl, fun i hi => by rw [up_k _ _ _ _ (by omega)]; exact p3 i hi, by rw [up_k _ _ _ _ (by omega)]; exact p4, fun l hl => by rw [up_k _ _ _ _ (by omega)]; exact p5 l hl, by rw [up_k _ _ _ _ (by omega)]; exact p6⟩
  · rw [if01_f q0']
    refine ⟨-1, h, _, rfl, ?_, idle⟩
    rw [m_noRoof mv.1, bd_n, if10_f q0']
theorem TV.seto {H : Nat → Fin 10} {ow : Nat → Fin 4} {sm : Int} (v : TV h t n c H ow sm) {r : Nat} (hr : r < n) (x : Fin 4) : p_X6_setOwner h t (r : Int) ((x.val : Nat) : Int) = some (up h (t + 3) (r : Int) ((x.val : Nat) : Int)) ∧ TV (up h (t + 3) (r : Int) ((x.val : Nat) : Int)) t n c H (fun i => if i = r then x else ow i) sm := by
  obtain ⟨hn, h4, h5, hc, hH, ho⟩ := id v
  constructor
  · unfold p_X6_setOwner
    rw [t_has v hr, bd_n, if_neg (by decide), gd_w (by omega)]
  · refine ⟨hn, by rw [up_c _ _ _ _ (by omega)]; exact h4, by rw [up_c _ _ _ _ (by omega)]; exact h5, fun i hi => by rw [up_c _ _ _ _ (by omega)]; exact hc i hi, fun i hi => by rw [up_c _ _ _ _ (by omega)]; exact hH i hi, fun i hi => ?_⟩
    by_cases e : i = r
    · subst e
      rw [up_eq]
      simp
    · rw [up_k _ _ _ _ (by omega)]
      simp only [if_neg e]
      exact ho i hi
def fo (z : Nat) : Fin 4 := ⟨z % 4, Nat.mod_lt _ (by decide)⟩
theorem fo_v {z : Nat} (h : z < 4) : (fo z).val = z := Nat.mod_eq_of_lt h
theorem pr_sell (B : Nat) (r x : Int) : Pair B B (fun h => p_X8_sell h r x) (fun h => p_X9_sell h r x) := by
  intro h i
  have idle := inv_idle i
  obtain ⟨n, c, k, ri, sp, wo, law, a, pg, f0, q0, f1, q1, w, ce, ho, sh, tx, by', sd, i1, i2, i3⟩ := i
  show ∃ (u : Int) (h1 h2 : Mem), p_X8_sell h r x = some (u, h1) ∧ p_X9_sell h1 r x = some (u, h2) ∧ INV B h2
  obtain ⟨cp1, cp2, cp3, cp4⟩ := id i1.1
  obtain ⟨hn, a4, a5, hc, hH, hO⟩ := id cp1
  have mv := (i2.md (Sm.up0 h)).mv i3
  unfold p_X8_sell p_X9_sell
  rw [t_hasR cp1, bd_n]
  by_cases q0' : 0 ≤ r ∧ r < (n : Int)
  · rw [if01_t q0', x_landlord, bd_n]
    obtain ⟨r', rfl⟩ := toN q0'.1
    have hr : r' < n := by omega
    by_cases x1 : 0 ≤ x ∧ x < 4
    · rw [if01_t x1, gd_w (by omega), hO r' hr]
      by_cases same : (((pO (pg a)) r').val : Int) = x
      · rw [if_pos same]
        refine ⟨-3, h, _, rfl, ?_, idle⟩
        rw [m_noRoof mv.1, bd_n, if10_t q0', m_in, bd_n, if01_t (by omega), wr_s (a := 6 + (r' : Int)) (by omega) (by omega), gd_w (by omega), mv.1.2.2.2.2.2 r' hr, if_pos same]
      · rw [if_neg same]
        obtain ⟨x', rfl⟩ := toN x1.1
        have fx := fo_v (show x' < 4 by omega)
        obtain ⟨e1, t1⟩ := cp1.seto hr (fo x')
        rw [fx] at e1 t1
        rw [e1, bd_n]
        let P : Pg := (pH (pg a), fun i => if i = r' then fo x' else pO (pg a) i, pS (pg a), pC (pg a), pP (pg a), pT (pg a))
        have hcp : CP (up h (7 + 3) (r' : Int) (x' : Int)) 7 n c P := ⟨t1, by rw [up_c _ _ _ _ (by decide)]; exact cp2, by rw [up_c _ _ _ _ (by decide)]; exact cp3, fun l hl => by rw [up_c _ _ _ _ (by decide)]; exact cp4 l hl⟩
        have hu : UndoR n c k ri sp wo law 2 (r' : Int) (((pO (pg a)) r').val : Int) P (pg a) := by
          refine Or.inr (Or.inr (Or.inl ⟨rfl, r', pO (pg a) r', hr, rfl, rfl, ?_⟩))
          have : (fun i => if i = r' then pO (pg a) r' else pO P i) = pO (pg a) := by
            funext i
            by_cases e : i = r'
            · rw [if_pos e, e]
            · rw [if_neg e]
              show (if i = r' then fo x' else pO (pg a) i) = _
              rw [if_neg e]
          rw [this]
          rfl
        obtain ⟨h1, ea, j1, lo, _⟩ := i1.act i3.2.2.1 (fun i hi _ _ _ => by funext z; exact up_c _ _ _ _ (by omega)) hcp hu
        rw [ea, bd_n]
        have j2 := i2.lo lo
        have sm := Sm.up0 h1
        have m1 := (j2.md sm).mv i3
        obtain ⟨g, eg, hi, e53, e4, e47, e5, e6, mk⟩ := (j2.md sm).act i3.2.2.1 P
        refine ⟨_, h1, up g 53 (6 + (r' : Int)) (x' : Int), rfl, ?_, n, c, k, ri, sp, wo, law, na a, np a pg P, f0, q0, f1, q1, w, ce, ho, sh, tx, by', sd, (j1.hi sm.hi).hi (hi.tr (Hi.up g (by decide) _ _)), mk _ (fun i hi => by funext z; exact up_c _ _ _ _ hi) ?_, i3.act (Nat.le_refl B) i3.1 (i3.2.2.2.1 a (Nat.le_refl a))⟩
        · rw [m_noRoof m1.1, bd_n, if10_t q0', m_in, bd_n, if01_t (by omega), wr_s (a := 6 + (r' : Int)) (by omega) (by omega), gd_w (by omega), m1.1.2.2.2.2.2 r' hr, if_neg same, eg, bd_n, gd_w (by omega)]
        · obtain ⟨p1, p2, p3, p4, p5, p6⟩ := (j2.md sm).1
          rw [← e53] at p1 p2 p3 p4 p5 p6
          refine ⟨fun i hi => by rw [up_k _ _ _ _ (by omega)]; exact p1 i hi, by rw [up_k _ _ _ _ (by omega)]; exact p2, fun i hi => ?_, by rw [up_k _ _ _ _ (by omega)]; exact p4, fun l hl => by rw [up_k _ _ _ _ (by omega)]; exact p5 l hl, by rw [up_k _ _ _ _ (by omega)]; exact p6⟩
          show up g 53 (6 + (r' : Int)) (x' : Int) 53 (6 + (i : Int)) = (((if i = r' then fo x' else pO (pg a) i) : Fin 4).val : Int)
          by_cases e : i = r'
          · subst e; rw [up_eq, if_pos rfl, fx]
          · rw [up_k _ _ _ _ (by omega), if_neg e]; exact p3 i hi
    · rw [if01_f x1]
      refine ⟨-1, h, _, rfl, ?_, idle⟩
      rw [m_noRoof mv.1, bd_n, if10_t q0', m_in, bd_n, if01_f (by omega)]
  · rw [if01_f q0']
    refine ⟨-1, h, _, rfl, ?_, idle⟩
    rw [m_noRoof mv.1, bd_n, if10_f q0']
theorem pr_clouds (B : Nat) : Pair B B (fun h => p_X8_clouds h) (fun h => p_X9_clouds h) := by
  intro h i
  obtain ⟨n, c, k, ri, sp, wo, law, a, pg, f0, q0, f1, q1, w, ce, ho, sh, tx, by', sd, i1, i2, i3⟩ := i
  show ∃ (u : Int) (h1 h2 : Mem), p_X8_clouds h = some (u, h1) ∧ p_X9_clouds h1 = some (u, h2) ∧ INV B h2
  obtain ⟨cp1, cp2, cp3, cp4⟩ := id i1.1
  obtain ⟨hn, a4, a5, hc, hH, hO⟩ := id cp1
  have vp := i3.2.2.2.1 a (Nat.le_refl a)
  let P : Pg := (pH (pg a), pO (pg a), pS (pg a), 1 - pC (pg a), pP (pg a), pT (pg a))
  have eP : pC P = 1 - pC (pg a) := rfl
  have vP : VP B P := ⟨by rw [eP]; rcases vp.1 with z | z <;> omega, vp.2⟩
  have e8 : p_X8_clouds h = p_X8_clouds_19 h (pC P) := by
    unfold p_X8_clouds
    rw [cp3, eP]
    rcases vp.1 with z | z
    · rw [z, if_pos rfl]; rfl
    · rw [z, if_neg (by decide)]; rfl
  rw [e8]
  unfold p_X8_clouds_19
  rw [gd_w vP.1]
  have hcp : CP (up h 7 7 (pC P)) 7 n c P := ⟨⟨hn, by rw [up_k _ _ _ _ (by decide)]; exact a4, by rw [up_k _ _ _ _ (by decide)]; exact a5, fun i hi => by rw [up_c _ _ _ _ (by decide)]; exact hc i hi, fun i hi => by rw [up_c _ _ _ _ (by decide)]; exact hH i hi, fun i hi => by rw [up_c _ _ _ _ (by decide)]; exact hO i hi⟩, by rw [up_k _ _ _ _ (by decide)]; exact cp2, up_eq _ _ _ _, fun l hl => by rw [up_c _ _ _ _ (by decide)]; exact cp4 l hl⟩
  have hu : UndoR n c k ri sp wo law 3 0 0 P (pg a) := by
    refine Or.inr (Or.inr (Or.inr (Or.inl ⟨rfl, ?_⟩)))
    have : (1 : Int) - pC P = pC (pg a) := by rw [eP]; omega
    rw [this]
    rfl
  obtain ⟨h1, ea, j1, lo, same⟩ := i1.act i3.2.2.1 (fun i hi _ _ _ => by funext z; exact up_c _ _ _ _ (by omega)) hcp hu
  rw [ea, bd_n]
  have j2 := i2.lo lo
  have sm := Sm.up0 h1
  obtain ⟨g, eg, hi, e53, e4, e47, e5, e6, mk⟩ := (j2.md sm).act i3.2.2.1 P
  obtain ⟨p1, p2, p3, p4, p5, p6⟩ := (j2.md sm).1
  rw [← e53] at p1 p2 p3 p4 p5 p6
  have h7 : h1 7 7 = pC P := by rw [same 7 (by decide), up_eq]
  refine ⟨pC P, h1, up g 53 11 (wr (1 - g 53 11)), ?_, ?_, n, c, k, ri, sp, wo, law, na a, np a pg P, f0, q0, f1, q1, w, ce, ho, sh, tx, by', sd, (j1.hi sm.hi).hi (hi.tr (Hi.up g (by decide) _ _)), mk _ (fun i hi => by funext z; exact up_c _ _ _ _ hi) ?_, i3.act (Nat.le_refl B) i3.1 vP⟩
  · rw [h7]
    rcases vP.1 with z | z
    · rw [z, if_pos rfl]
    · rw [z, if_neg (by decide)]
  · unfold p_X9_clouds
    rw [eg, bd_n, up_eq, p4]
    have : wr (1 - pC (pg a)) = pC P := by rw [eP]; exact wr_s (by rcases vp.1 with z | z <;> omega) (by rcases vp.1 with z | z <;> omega)
    rw [this]
  · refine ⟨fun i hi => by rw [up_k _ _ _ _ (by omega)]; exact p1 i hi, by rw [up_k _ _ _ _ (by omega)]; exact p2, fun i hi => by rw [up_k _ _ _ _ (by omega)]; exact p3 i hi, ?_, fun l hl => by rw [up_k _ _ _ _ (by omega)]; exact p5 l hl, by rw [up_k _ _ _ _ (by omega)]; exact p6⟩
    rw [up_eq, p4, eP]
    exact wr_s (by rcases vp.1 with z | z <;> omega) (by rcases vp.1 with z | z <;> omega)
end MUTATE
