/-! ===== undo ===== -/
section UNDO
variable {h h' g : Mem} {n : Nat} {c : Nat → Fin 10} {k : Nat} {ri : Nat → Fin 10} {sp : Nat → Fin 4} {wo : Nat → Fin 10} {law a : Nat} {pg : Nat → Pg} {f0 : Nat} {q0 : Pg} {f1 : Nat} {q1 : Pg} {w : Nat} {ce ho : Nat → Fin 10} {sh : Nat → Fin 2} {tx : Nat} {by' : Nat → Fin 256} {sd : Int} {p : Pg} {t s f : Nat}
theorem IC.back (v : IC h n c k ri sp wo law (a + 1) pg f0 q0 f1 q1 w ce ho sh tx by' sd) (e : ∀ i, i < 7 ∨ 11 < i → i ≠ 33 → ¬ (12 ≤ i ∧ i ≤ 16) → ¬ (30 ≤ i ∧ i ≤ 32) → ¬ (42 ≤ i ∧ i ≤ 44) → g i = h i) (e33 : g 33 3 = (a : Int)) (cp : CP g 7 n c (pg a)) : IC g n c k ri sp wo law a pg f0 q0 f1 q1 w ce ho sh tx by' sd := by
  obtain ⟨v1, v2, v3, v4, v5, v6, v7, v8⟩ := v
  have E : ∀ i, i < 7 ∨ 16 < i → i < 30 ∨ 33 < i → i < 42 ∨ 44 < i → g i = h i := fun i a1 a2 a3 => e i (by omega) (by omega) (by omega) (by omega) (by omega)
  refine ⟨cp, v2.same (fun i a b => E i (by omega) (by omega) (by omega)) (by rw [E 0 (by decide) (by decide) (by decide)]), ⟨e33, fun j hj => ?_⟩, v4.same (fun i a b => E i (by omega) (by omega) (by omega)), v5.same (fun i a b => E i (by omega) (by omega) (by omega)), v6.same (fun i a b => E i (by omega) (by omega) (by omega)), v7.same (fun i a b => E i (by omega) (by omega) (by omega)), by rw [E 0 (by decide) (by decide) (by decide)]; exact v8⟩
  rw [E 34 (by decide) (by decide) (by decide), E 35 (by decide) (by decide) (by decide), E 36 (by decide) (by decide) (by decide)]
  exact v3.2 j (by omega)
theorem x_undo {B : Nat} (v : IC h n c k ri sp wo law (a + 1) pg f0 q0 f1 q1 w ce ho sh tx by' sd) (iv : IV B law (a + 1) pg q0 q1) : ∃ h', p_X8_undo h = some ((a : Int), h') ∧ IC h' n c k ri sp wo law a pg f0 q0 f1 q1 w ce ho sh tx by' sd ∧ Lo h h' := by
  have ha := iv.2.2.1
  have vp := iv.2.2.2.1 (a + 1) (Nat.le_refl _)
  have cv := v.cv iv
  obtain ⟨cp1, cp2, cp3, cp4⟩ := id v.1
  have u := v.2.2.1.2 a (by omega)
  have h33 : h 33 3 = ((a + 1 : Nat) : Int) := v.2.2.1.1
  unfold p_X8_undo p_X0_takeLast
  rw [h33, if_pos (by omega), wr_s (a := ((a + 1 : Nat) : Int) - 1) (by omega) (by omega), show ((a + 1 : Nat) : Int) - 1 = (a : Int) by omega, bd_n]
  simp only []
  rw [up_eq, if_neg (by omega), if_pos (by omega)]
  have b34 : up h 33 3 (a : Int) 34 (a : Int) = h 34 (a : Int) := up_c _ _ _ _ (by decide)
  have b35 : up h 33 3 (a : Int) 35 (a : Int) = h 35 (a : Int) := up_c _ _ _ _ (by decide)
  have b36 : up h 33 3 (a : Int) 36 (a : Int) = h 36 (a : Int) := up_c _ _ _ _ (by decide)
  have sb : ∀ i, i ≠ 33 → up h 33 3 (a : Int) i = h i := fun i hi => by funext z; exact up_c _ _ _ _ hi
  have t33 : up h 33 3 (a : Int) 33 3 = (a : Int) := up_eq _ _ _ _
  have cvb : CV (up h 33 3 (a : Int)) n c (pH (pg (a + 1))) (pO (pg (a + 1))) (pS (pg (a + 1))) k ri sp wo law (pT (pg (a + 1))) (pC (pg (a + 1))) := by
    obtain ⟨w1, w2, w3, w4, w5, w6⟩ := cv
    exact ⟨w1.same (sb _ (by decide)) (sb _ (by decide)) (sb _ (by decide)) (sb _ (by decide)), w2.same (sb _ (by decide)) (sb _ (by decide)) (sb _ (by decide)) (sb _ (by decide)), by rw [sb 0 (by decide)]; exact w3, by rw [sb 7 (by decide)]; exact w4, by rw [sb 7 (by decide)]; exact w5, w6⟩
  have cpb : CP (up h 33 3 (a : Int)) 7 n c (pg (a + 1)) := v.1.same (fun i _ _ => sb i (by omega))
  generalize up h 33 3 (a : Int) = b at *
  rw [gd_w (by omega), gd_w (by omega), b34, b35, b36]
  obtain ⟨bp1, bp2, bp3, bp4⟩ := id cpb
  have fin : ∀ m : Mem, (∀ i, i < 7 ∨ 11 < i → ¬ (30 ≤ i ∧ i ≤ 32) → m i = b i) → CP m 7 n c (pg a) → ∃ h', p_X8_undo_174 m = some ((a : Int), h') ∧ IC h' n c k ri sp wo law a pg f0 q0 f1 q1 w ce ho sh tx by' sd ∧ Lo h h' := by
    intro m hm cp
    have e33 : m 33 3 = (a : Int) := by rw [hm 33 (by decide) (by decide)]; exact t33
    refine ⟨m, ?_, v.back (fun i a1 a2 a3 a4 a5 => by rw [hm i a1 a4, sb i a2]) e33 cp, fun i hi => by rw [hm i (by omega) (by omega), sb i (by omega)]⟩
    unfold p_X8_undo_174
    rw [e33]
  rcases u with ⟨u1, r, x, hr, u2, u3, u4⟩ | ⟨u1, r, hr, u2, u4⟩ | ⟨u1, r, x, hr, u2, u3, u4⟩ | ⟨u1, u4⟩ | ⟨u1, hp, u4⟩
  · obtain ⟨e1, t1⟩ := bp1.seth hr x
    rw [u1, if_pos rfl, gd_w (by omega), u2, u3, e1, bd_n]
    refine fin _ (fun i hi _ => by funext z; exact up_c _ _ _ _ (by omega)) ?_
    rw [u4]
    exact ⟨t1, by rw [up_c _ _ _ _ (by decide)]; exact bp2, by rw [up_c _ _ _ _ (by decide)]; exact bp3, fun l hl => by rw [up_c _ _ _ _ (by decide)]; exact bp4 l hl⟩
  · rw [u1, if_neg (by decide), if_pos rfl, u2, bp1.2.2.1]
    refine fin _ (fun i hi _ => by funext z; exact up_c _ _ _ _ (by omega)) ?_
    rw [u4]
    obtain ⟨hn, a4, a5, hc, hH, hO⟩ := bp1
    exact ⟨⟨hn, by rw [up_k _ _ _ _ (by decide)]; exact a4, up_eq _ _ _ _, fun i hi => by rw [up_c _ _ _ _ (by decide)]; exact hc i hi, fun i hi => by rw [up_c _ _ _ _ (by decide)]; exact hH i hi, fun i hi => by rw [up_c _ _ _ _ (by decide)]; exact hO i hi⟩, by rw [up_k _ _ _ _ (by decide)]; exact bp2, by rw [up_k _ _ _ _ (by decide)]; exact bp3, fun l hl => by rw [up_c _ _ _ _ (by decide)]; exact bp4 l hl⟩
  · obtain ⟨e1, t1⟩ := bp1.seto hr x
    rw [u1, if_neg (by decide), if_neg (by decide), if_pos rfl, gd_w (by omega), u2, u3, e1, bd_n]
    refine fin _ (fun i hi _ => by funext z; exact up_c _ _ _ _ (by omega)) ?_
    rw [u4]
    exact ⟨t1, by rw [up_c _ _ _ _ (by decide)]; exact bp2, by rw [up_c _ _ _ _ (by decide)]; exact bp3, fun l hl => by rw [up_c _ _ _ _ (by decide)]; exact bp4 l hl⟩
  · rw [u1, if_neg (by decide), if_neg (by decide), if_neg (by decide), if_pos rfl, bp3]
    have go : ∀ s0 : Int, s0 = 1 - pC (pg (a + 1)) → (s0 = 0 ∨ s0 = 1) → ∃ h', p_X8_undo_149 b s0 = some ((a : Int), h') ∧ IC h' n c k ri sp wo law a pg f0 q0 f1 q1 w ce ho sh tx by' sd ∧ Lo h h' := by
      intro s0 hs h01
      unfold p_X8_undo_149
      rw [gd_w h01]
      refine fin _ (fun i hi _ => by funext z; exact up_c _ _ _ _ (by omega)) ?_
      rw [u4]
      obtain ⟨hn, a4, a5, hc, hH, hO⟩ := bp1
      exact ⟨⟨hn, by rw [up_k _ _ _ _ (by decide)]; exact a4, by rw [up_k _ _ _ _ (by decide)]; exact a5, fun i hi => by rw [up_c _ _ _ _ (by decide)]; exact hc i hi, fun i hi => by rw [up_c _ _ _ _ (by decide)]; exact hH i hi, fun i hi => by rw [up_c _ _ _ _ (by decide)]; exact hO i hi⟩, by rw [up_k _ _ _ _ (by decide)]; exact bp2, by rw [up_eq, hs]; rfl, fun l hl => by rw [up_c _ _ _ _ (by decide)]; exact bp4 l hl⟩
    rcases vp.1 with z | z
    · rw [if_pos z]; exact go 1 (by omega) (Or.inr rfl)
    · rw [if_neg (by omega)]; exact go 0 (by omega) (Or.inl rfl)
  · rw [u1, if_neg (by decide), if_neg (by decide), if_neg (by decide), if_neg (by decide), bp2]
    have h40 := cv.2.2.2.2.2.1
    have cvm : CV (up b 7 6 (wr ((pT (pg (a + 1)) : Int) - 1))) n c (pH (pg (a + 1))) (pO (pg (a + 1))) (pS (pg (a + 1))) k ri sp wo law (pT (pg (a + 1)) - 1) (pC (pg (a + 1))) := by
      obtain ⟨⟨hn, a4, a5, hc, hH, hO⟩, w2, w3, w4, w5, w6, w7⟩ := cvb
      have e : ∀ i, i ≠ 7 → up b 7 6 (wr ((pT (pg (a + 1)) : Int) - 1)) i = b i := fun i hi => by funext z; exact up_c _ _ _ _ hi
      exact ⟨⟨hn, by rw [up_k _ _ _ _ (by decide)]; exact a4, by rw [up_k _ _ _ _ (by decide)]; exact a5, fun i hi => by rw [up_c _ _ _ _ (by decide)]; exact hc i hi, fun i hi => by rw [up_c _ _ _ _ (by decide)]; exact hH i hi, fun i hi => by rw [up_c _ _ _ _ (by decide)]; exact hO i hi⟩, w2.same (e _ (by decide)) (e _ (by decide)) (e _ (by decide)) (e _ (by decide)), by rw [e 0 (by decide)]; exact w3, by rw [up_eq, wr_s (by omega) (by omega)]; omega, by rw [up_k _ _ _ _ (by decide)]; exact w5, by omega, w7⟩
    obtain ⟨d, ed, sd', pd⟩ := x_pay cvm (s := -1) (Or.inr rfl)
    rw [ed, bd_n]
    refine fin d (fun i hi h2 => ?_) ?_
    · rw [sd' i (by omega) (by omega) (by omega) (by omega)]; funext z; exact up_c _ _ _ _ (by omega)
    · rw [u4]
      obtain ⟨⟨hn, a4, a5, hc, hH, hO⟩, w2, w3, w4, w5, w6, w7⟩ := cvm
      have s7 := sd' 7 (by decide) (by decide) (by decide) (by decide)
      refine ⟨⟨hn, by rw [s7]; exact a4, by rw [s7]; exact a5, fun i hi => by rw [sd' _ (by decide) (by decide) (by decide) (by decide)]; exact hc i hi, fun i hi => by rw [sd' _ (by decide) (by decide) (by decide) (by decide)]; exact hH i hi, fun i hi => by rw [sd' _ (by decide) (by decide) (by decide) (by decide)]; exact hO i hi⟩, by rw [s7]; exact w4, by rw [s7]; exact w5, fun l hl => ?_⟩
      show d 11 (l : Int) = if l < 4 then _ else _
      rw [if_pos hl, pd l hl, up_c _ _ _ _ (by decide), show b 11 (l : Int) = pP (pg (a + 1)) l from bp4 l hl]
      rfl
theorem y_undo (v : IM h n c k ri sp wo law (a + 1) pg f0 q0 f1 q1 w ce ho sh tx by' sd) (ha : a + 1 ≤ 14) : ∃ h', p_X9_undo h = some ((a : Int), h') ∧ IM h' n c k ri sp wo law a pg f0 q0 f1 q1 w ce ho sh tx by' sd ∧ Hi h h' := by
  have v0 := v.md (Sm.up0 h)
  have hi0 := (Sm.up0 h).hi
  unfold p_X9_undo
  generalize up h 45 0 0 = g at *
  obtain ⟨v1, v2, v3, v4, v5, v6, v7, v8⟩ := v0
  have hn := v2.1
  have e19 : g 45 19 = ((a + 1 : Nat) : Int) := v3.1
  rw [e19, if_neg (by omega), wr_s (a := ((a + 1 : Nat) : Int) - 1) (by omega) (by omega), show ((a + 1 : Nat) : Int) - 1 = (a : Int) by omega]
  refine loop_inv (fun f i (m : Mem) => p_X9_undo_L27 f m i) 17 (fun j m => (∀ i, i ≠ 53 → m i = up g 45 19 (a : Int) i) ∧ ∀ z : Nat, z < j → m 53 (z : Int) = g 55 (17 * (a : Int) + (z : Int))) (fun o => ∃ h', o = some ((a : Int), h') ∧ IM h' n c k ri sp wo law a pg f0 q0 f1 q1 w ce ho sh tx by' sd ∧ Hi h h') ?_ ?_ 300 0 (up g 45 19 (a : Int)) (Nat.zero_le _) (by omega) ⟨fun _ _ => rfl, fun z hz => by omega⟩
  · rintro f j m hj ⟨i1, i2⟩
    have m19 : m 45 19 = (a : Int) := by rw [i1 45 (by decide), up_eq]
    simp only [p_X9_undo_L27]
    unfold p_X9_undo_27
    rw [if_neg (by omega), m19, wr_s (a := 17 * (a : Int)) (by omega) (by omega), wr_s (a := 17 * (a : Int) + (j : Int)) (by omega) (by omega), gd_w (by omega), gd_w (by omega), wr_1 (by omega)]
    refine ⟨_, ⟨fun i hi => ?_, fun z hz => ?_⟩, rfl⟩
    · rw [← i1 i hi]; funext q; exact up_c _ _ _ _ hi
    · by_cases e : z = j
      · subst e; rw [up_eq, i1 55 (by decide), up_c _ _ _ _ (by decide)]
      · rw [up_k _ _ _ _ (by omega)]; exact i2 z (by omega)
  · rintro f m ⟨i1, i2⟩
    have m19 : m 45 19 = (a : Int) := by rw [i1 45 (by decide), up_eq]
    have E : ∀ i, i ≠ 45 → i ≠ 53 → m i = g i := fun i a1 a2 => by rw [i1 i a2]; funext z; exact up_c _ _ _ _ a1
    have F : ∀ f : Int, f ≠ 19 → m 45 f = g 45 f := fun f hf => by rw [i1 45 (by decide), up_k _ _ _ _ hf]
    simp only [p_X9_undo_L27]
    unfold p_X9_undo_27 p_X9_undo_59
    rw [if_pos (by decide), m19]
    refine ⟨m, rfl, ⟨(v3.2 a (by omega)).ext hn (fun z hz => i2 z hz), v2.same (fun i a b => E i (by omega) (by omega)) (F 4 (by decide)) (F 5 (by decide)) (F 6 (by decide)), ⟨m19, fun j hj => by rw [E 55 (by decide) (by decide)]; exact v3.2 j (by omega)⟩, v4.same (E 56 (by decide) (by decide)) (E 57 (by decide) (by decide)), v5.same (E 56 (by decide) (by decide)) (E 57 (by decide) (by decide)), v6.same (fun i a b => E i (by omega) (by omega)) (F 22 (by decide)), v7.same (E 46 (by decide) (by decide)) (F 2 (by decide)), by rw [F 26 (by decide)]; exact v8⟩, hi0.tr (fun i hi => E i (by omega) (by omega))⟩
theorem pr_undo (B : Nat) : Pair B B (fun h => p_X8_undo h) (fun h => p_X9_undo h) := by
  intro h i
  have idle := inv_idle i
  obtain ⟨n, c, k, ri, sp, wo, law, a, pg, f0, q0, f1, q1, w, ce, ho, sh, tx, by', sd, i1, i2, i3⟩ := i
  show ∃ (u : Int) (h1 h2 : Mem), p_X8_undo h = some (u, h1) ∧ p_X9_undo h1 = some (u, h2) ∧ INV B h2
  cases a with
  | zero =>
    have e33 : h 33 3 = 0 := i1.2.2.1.1
    have e19 : h 45 19 = 0 := i2.2.2.1.1
    refine ⟨-3, h, up h 45 0 0, ?_, ?_, idle⟩
    · unfold p_X8_undo p_X0_takeLast
      rw [e33, if_neg (by decide), bd_n]
      simp only []
      rw [if_pos (by decide)]
    · unfold p_X9_undo; rw [up_k _ _ _ _ (by decide), if_pos e19]
  | succ a =>
    obtain ⟨h1, e1, j1, lo⟩ := x_undo i1 i3
    have j2 := i2.lo lo
    obtain ⟨h2, e2, k2, hi⟩ := y_undo j2 i3.2.2.1
    obtain ⟨w1, w2, w3, w4, w5⟩ := i3
    exact ⟨_, h1, h2, e1, e2, n, c, k, ri, sp, wo, law, a, pg, f0, q0, f1, q1, w, ce, ho, sh, tx, by', sd, j1.hi hi, k2, w1, w2, by omega, fun j hj => w4 j (by omega), w5⟩
end UNDO
