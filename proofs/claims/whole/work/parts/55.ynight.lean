/-! ===== night, by the reference ===== -/
section YNIGHT
variable {h h' g m : Mem} {n : Nat} {c : Nat → Fin 10} {k : Nat} {ri : Nat → Fin 10} {sp : Nat → Fin 4} {wo : Nat → Fin 10} {law a : Nat} {pg : Nat → Pg} {f0 : Nat} {q0 : Pg} {f1 : Nat} {q1 : Pg} {w : Nat} {ce ho : Nat → Fin 10} {sh : Nat → Fin 2} {tx : Nat} {by' : Nat → Fin 256} {sd : Int} {S : TS}
theorem y_zero (m : Mem) : ∃ d, p_X9_night_41 m = p_X9_night_62 d ∧ (∀ i, i ≠ 53 → d i = m i) ∧ ∀ z : Nat, z < 17 → d 53 (z : Int) = 0 := by
  unfold p_X9_night_41
  refine loop_inv (fun f i (d : Mem) => p_X9_night_L43 f d i) 17 (fun j d => (∀ i, i ≠ 53 → d i = m i) ∧ ∀ z : Nat, z < j → d 53 (z : Int) = 0) (fun o => ∃ d, o = p_X9_night_62 d ∧ (∀ i, i ≠ 53 → d i = m i) ∧ ∀ z : Nat, z < 17 → d 53 (z : Int) = 0) ?_ ?_ 300 0 m (Nat.zero_le _) (by omega) ⟨fun _ _ => rfl, fun z hz => by omega⟩
  · rintro f j d hj ⟨i1, i2⟩
    simp only [p_X9_night_L43]
    unfold p_X9_night_43
    rw [if_neg (by omega), gd_w (by omega), wr_1 (by omega)]
    refine ⟨_, ⟨fun i hi => ?_, fun l hl => ?_⟩, rfl⟩
    · rw [← i1 i hi]; funext q; exact up_c _ _ _ _ hi
    · by_cases e : l = j
      · subst e; exact up_eq _ _ _ _
      · exact (up_k _ _ _ _ (by omega)).trans (i2 l (by omega))
  · rintro f d ⟨i1, i2⟩
    simp only [p_X9_night_L43]
    unfold p_X9_night_43
    rw [if_pos (by decide)]
    exact ⟨d, rfl, i1, i2⟩
theorem y_roofs (n5 : tn S ≤ 5) (h45 : g 45 5 = (tn S : Int)) (h51 : ∀ r : Nat, r < tn S → g 51 (4 * (r : Int)) = ((tc S r).val : Int) ∧ g 51 (4 * (r : Int) + 1) = ((tH S r).val : Int) ∧ g 51 (4 * (r : Int) + 2) = ((tS S r).val : Int) ∧ g 51 (4 * (r : Int) + 3) = ((tO S r).val : Int)) (z53 : ∀ z : Nat, z < 17 → g 53 (z : Int) = 0) : ∃ d, p_X9_night_62 g = p_X9_night_148 d ∧ (∀ i, i ≠ 47 → i ≠ 53 → d i = g i) ∧ (∀ r : Nat, r < tn S → d 47 (r : Int) = ((tc S r).val : Int) ∧ d 53 (r : Int) = ((tH S r).val : Int) ∧ d 53 (6 + (r : Int)) = ((tO S r).val : Int)) ∧ d 53 5 = sbt (tS S) (tn S) ∧ ∀ z : Nat, 11 ≤ z → z < 17 → d 53 (z : Int) = 0 := by
  unfold p_X9_night_62
  refine loop_inv (fun f i (d : Mem) => p_X9_night_L64 f d i) (tn S) (fun j d => (∀ i, i ≠ 47 → i ≠ 53 → d i = g i) ∧ (∀ r : Nat, r < j → d 47 (r : Int) = ((tc S r).val : Int) ∧ d 53 (r : Int) = ((tH S r).val : Int) ∧ d 53 (6 + (r : Int)) = ((tO S r).val : Int)) ∧ d 53 5 = sbt (tS S) j ∧ ∀ z : Nat, 11 ≤ z → z < 17 → d 53 (z : Int) = 0) (fun o => ∃ d, o = p_X9_night_148 d ∧ (∀ i, i ≠ 47 → i ≠ 53 → d i = g i) ∧ (∀ r : Nat, r < tn S → d 47 (r : Int) = ((tc S r).val : Int) ∧ d 53 (r : Int) = ((tH S r).val : Int) ∧ d 53 (6 + (r : Int)) = ((tO S r).val : Int)) ∧ d 53 5 = sbt (tS S) (tn S) ∧ ∀ z : Nat, 11 ≤ z → z < 17 → d 53 (z : Int) = 0) ?_ ?_ 300 0 g (Nat.zero_le _) (by omega) ⟨fun _ _ _ => rfl, fun r hr => by omega, z53 5 (by decide), fun z _ hz => z53 z hz⟩
  · rintro f j d hj ⟨i1, i2, i3, i4⟩
    obtain ⟨t0, t1, t2, t3⟩ := h51 j hj
    have e51 : d 51 = g 51 := i1 51 (by decide) (by decide)
    simp only [p_X9_night_L64]
    unfold p_X9_night_64 p_X9_night_123
    simp only [up_c _ _ _ _ (show (51 : Nat) ≠ 47 by decide), up_c _ _ _ _ (show (51 : Nat) ≠ 53 by decide), i1 45 (by decide) (by decide), h45, e51]
    rw [if_neg (by omega), wr_s (a := 4 * (j : Int)) (by omega) (by omega), wr_s (a := 4 * (j : Int) + 1) (by omega) (by omega), wr_s (a := 4 * (j : Int) + 2) (by omega) (by omega), wr_s (a := 4 * (j : Int) + 3) (by omega) (by omega), wr_s (a := 6 + (j : Int)) (by omega) (by omega), gd_w (by omega), gd_w (by omega), gd_w (by omega), gd_w (by omega), gd_w (by omega), gd_w (by omega), gd_w (by omega), t0, t1, t2, t3, wr_1 (by omega), up_k _ _ _ _ (show (5 : Int) ≠ (j : Int) by omega), up_c _ _ _ _ (show (53 : Nat) ≠ 47 by decide), i3]
    refine ⟨_, ⟨fun i a1 a2 => ?_, fun r hr => ?_, ?_, fun z z1 z2 => ?_⟩, rfl⟩
    · rw [← i1 i a1 a2]; funext q; rw [up_c _ _ _ _ a2, up_c _ _ _ _ a2, up_c _ _ _ _ a2, up_c _ _ _ _ a1]
    · by_cases e : r = j
      · subst e
        exact ⟨by rw [up_c _ _ _ _ (by decide), up_c _ _ _ _ (by decide), up_c _ _ _ _ (by decide), up_eq], by rw [up_k _ _ _ _ (by omega), up_k _ _ _ _ (by omega), up_eq], up_eq _ _ _ _⟩
      · obtain ⟨u1, u2, u3⟩ := i2 r (by omega)
        exact ⟨by rw [up_c _ _ _ _ (by decide), up_c _ _ _ _ (by decide), up_c _ _ _ _ (by decide), up_k _ _ _ _ (by omega)]; exact u1, by rw [up_k _ _ _ _ (by omega), up_k _ _ _ _ (by omega), up_k _ _ _ _ (by omega), up_c _ _ _ _ (by decide)]; exact u2, by rw [up_k _ _ _ _ (by omega), up_k _ _ _ _ (by omega), up_k _ _ _ _ (by omega), up_c _ _ _ _ (by decide)]; exact u3⟩
    · rw [up_k _ _ _ _ (by omega), up_eq]; rfl
    · rw [up_k _ _ _ _ (by omega), up_k _ _ _ _ (by omega), up_k _ _ _ _ (by omega), up_c _ _ _ _ (by decide)]; exact i4 z z1 z2
  · rintro f d ⟨i1, i2, i3, i4⟩
    simp only [p_X9_night_L64]
    unfold p_X9_night_64
    rw [i1 45 (by decide) (by decide), h45, if_pos (by omega)]
    exact ⟨d, rfl, i1, i2, i3, i4⟩
theorem y_stars (k4 : tk S ≤ 4) (h45 : g 45 6 = (tk S : Int)) (h52 : ∀ s : Nat, s < tk S → g 52 (3 * (s : Int)) = ((tri S s).val : Int) ∧ g 52 (3 * (s : Int) + 1) = ((tsp S s).val : Int) ∧ g 52 (3 * (s : Int) + 2) = ((two S s).val : Int)) : ∃ d, p_X9_night_148 g = p_X9_night_210 d ∧ (∀ i, i ≠ 48 → i ≠ 49 → i ≠ 50 → d i = g i) ∧ ∀ r : Nat, r < tk S → d 48 (r : Int) = ((tri S r).val : Int) ∧ d 49 (r : Int) = ((tsp S r).val : Int) ∧ d 50 (r : Int) = ((two S r).val : Int) := by
  unfold p_X9_night_148
  refine loop_inv (fun f i (d : Mem) => p_X9_night_L150 f d i) (tk S) (fun j d => (∀ i, i ≠ 48 → i ≠ 49 → i ≠ 50 → d i = g i) ∧ ∀ r : Nat, r < j → d 48 (r : Int) = ((tri S r).val : Int) ∧ d 49 (r : Int) = ((tsp S r).val : Int) ∧ d 50 (r : Int) = ((two S r).val : Int)) (fun o => ∃ d, o = p_X9_night_210 d ∧ (∀ i, i ≠ 48 → i ≠ 49 → i ≠ 50 → d i = g i) ∧ ∀ r : Nat, r < tk S → d 48 (r : Int) = ((tri S r).val : Int) ∧ d 49 (r : Int) = ((tsp S r).val : Int) ∧ d 50 (r : Int) = ((two S r).val : Int)) ?_ ?_ 300 0 g (Nat.zero_le _) (by omega) ⟨fun _ _ _ _ => rfl, fun r hr => by omega⟩
  · rintro f j d hj ⟨i1, i2⟩
    obtain ⟨t0, t1, t2⟩ := h52 j hj
    have e52 : d 52 = g 52 := i1 52 (by decide) (by decide) (by decide)
    simp only [p_X9_night_L150]
    unfold p_X9_night_150 p_X9_night_204
    simp only [up_c _ _ _ _ (show (52 : Nat) ≠ 48 by decide), up_c _ _ _ _ (show (52 : Nat) ≠ 49 by decide), i1 45 (by decide) (by decide) (by decide), h45, e52]
    rw [if_neg (by omega), wr_s (a := 3 * (j : Int)) (by omega) (by omega), wr_s (a := 3 * (j : Int) + 1) (by omega) (by omega), wr_s (a := 3 * (j : Int) + 2) (by omega) (by omega), gd_w (by omega), gd_w (by omega), gd_w (by omega), gd_w (by omega), gd_w (by omega), gd_w (by omega), t0, t1, t2, wr_1 (by omega)]
    refine ⟨_, ⟨fun i a1 a2 a3 => ?_, fun r hr => ?_⟩, rfl⟩
    · rw [← i1 i a1 a2 a3]; funext q; rw [up_c _ _ _ _ a3, up_c _ _ _ _ a2, up_c _ _ _ _ a1]
    · by_cases e : r = j
      · subst e
        exact ⟨by rw [up_c _ _ _ _ (by decide), up_c _ _ _ _ (by decide), up_eq], by rw [up_c _ _ _ _ (by decide), up_eq], up_eq _ _ _ _⟩
      · obtain ⟨u1, u2, u3⟩ := i2 r (by omega)
        exact ⟨by rw [up_c _ _ _ _ (by decide), up_c _ _ _ _ (by decide), up_k _ _ _ _ (by omega)]; exact u1, by rw [up_c _ _ _ _ (by decide), up_k _ _ _ _ (by omega), up_c _ _ _ _ (by decide)]; exact u2, by rw [up_k _ _ _ _ (by omega), up_c _ _ _ _ (by decide), up_c _ _ _ _ (by decide)]; exact u3⟩
  · rintro f d ⟨i1, i2⟩
    simp only [p_X9_night_L150]
    unfold p_X9_night_150
    rw [i1 45 (by decide) (by decide) (by decide), h45, if_pos (by omega)]
    exact ⟨d, rfl, i1, i2⟩
theorem y_night (v : IM h n c k ri sp wo law a pg f0 q0 f1 q1 w ce ho sh tx by' sd) (htx : tx ≤ 48) (h9 : flt tx by' = -9) (n5 : tn (run tx by' 300 TS0 2).2 ≤ 5) (k4 : tk (run tx by' 300 TS0 2).2 ≤ 4) : ∃ e, p_X9_night h = some (((10 * tn (run tx by' 300 TS0 2).2 + tk (run tx by' 300 TS0 2).2 : Nat) : Int), e) ∧ IM e (tn (run tx by' 300 TS0 2).2) (tc (run tx by' 300 TS0 2).2) (tk (run tx by' 300 TS0 2).2) (tri (run tx by' 300 TS0 2).2) (tsp (run tx by' 300 TS0 2).2) (two (run tx by' 300 TS0 2).2) (dv tx by' 1) 0 (fun _ => sP (run tx by' 300 TS0 2).2) 0 (sP (run tx by' 300 TS0 2).2) 0 (sP (run tx by' 300 TS0 2).2) w ce ho sh tx by' sd ∧ Hi h e := by
  have s0 := Sm.up0 h
  have v0 := v.md s0
  obtain ⟨m, em, sm, mr⟩ := y_readNight v0.2.2.2.2.2.2.1 htx
  obtain ⟨d1, r9⟩ := flt_9 h9
  obtain ⟨rv, m11⟩ := mr h9
  have vm := v0.md sm
  obtain ⟨v1, v2, v3, v4, v5, v6, v7, v8⟩ := vm
  unfold p_X9_night
  rw [em, bd_n]
  simp only []
  rw [if_pos h9]
  generalize (run tx by' 300 TS0 2).2 = S at *
  obtain ⟨r1, r2, r3, r4⟩ := rv
  simp only [up_k _ _ _ _ (show (12 : Int) ≠ 4 by decide), up_k _ _ _ _ (show (13 : Int) ≠ 4 by decide), up_k _ _ _ _ (show (13 : Int) ≠ 5 by decide), m11, r1, r2]
  rw [← dv_of d1]
  have eb : ∀ i, i ≠ 45 → up (up (up m 45 4 ((dv tx by' 1 : Nat) : Int)) 45 5 (tn S : Int)) 45 6 (tk S : Int) i = m i := fun i hi => by funext z; rw [up_c _ _ _ _ hi, up_c _ _ _ _ hi, up_c _ _ _ _ hi]
  have fb : ∀ f : Int, f ≠ 4 → f ≠ 5 → f ≠ 6 → up (up (up m 45 4 ((dv tx by' 1 : Nat) : Int)) 45 5 (tn S : Int)) 45 6 (tk S : Int) 45 f = m 45 f := fun f a b c => by rw [up_k _ _ _ _ c, up_k _ _ _ _ b, up_k _ _ _ _ a]
  have f4 : up (up (up m 45 4 ((dv tx by' 1 : Nat) : Int)) 45 5 (tn S : Int)) 45 6 (tk S : Int) 45 4 = ((dv tx by' 1 : Nat) : Int) := by rw [up_k _ _ _ _ (by decide), up_k _ _ _ _ (by decide), up_eq]
  have f5 : up (up (up m 45 4 ((dv tx by' 1 : Nat) : Int)) 45 5 (tn S : Int)) 45 6 (tk S : Int) 45 5 = (tn S : Int) := by rw [up_k _ _ _ _ (by decide), up_eq]
  have f6 : up (up (up m 45 4 ((dv tx by' 1 : Nat) : Int)) 45 5 (tn S : Int)) 45 6 (tk S : Int) 45 6 = (tk S : Int) := up_eq _ _ _ _
  generalize up (up (up m 45 4 ((dv tx by' 1 : Nat) : Int)) 45 5 (tn S : Int)) 45 6 (tk S : Int) = b at *
  obtain ⟨x, ex, x1, x2⟩ := y_zero b
  obtain ⟨y, ey, y1, y2, y3, y4⟩ := y_roofs (g := x) n5 (by rw [x1 45 (by decide)]; exact f5) (by rw [x1 51 (by decide), eb 51 (by decide)]; exact r3) x2
  obtain ⟨z, ez, z1, z2⟩ := y_stars (g := y) k4 (by rw [y1 45 (by decide) (by decide), x1 45 (by decide)]; exact f6) (by rw [y1 52 (by decide) (by decide), x1 52 (by decide), eb 52 (by decide)]; exact r4)
  rw [ex, ey, ez]
  unfold p_X9_night_210
  have E : ∀ i, i ≠ 45 → i ≠ 47 → i ≠ 48 → i ≠ 49 → i ≠ 50 → i ≠ 53 → z i = m i := fun i a0 a1 a2 a3 a4 a5 => by rw [z1 i a2 a3 a4, y1 i a1 a5, x1 i a5, eb i a0]
  have E45 : z 45 = b 45 := by rw [z1 45 (by decide) (by decide) (by decide), y1 45 (by decide) (by decide), x1 45 (by decide)]
  have E53 : z 53 = y 53 := z1 53 (by decide) (by decide) (by decide)
  have E47 : z 47 = y 47 := z1 47 (by decide) (by decide) (by decide)
  have W : ∀ i, i ≠ 45 → i ≠ 57 → up (up (up z 45 19 0) 57 0 0) 57 1 0 i = z i := fun i a b => by funext q; rw [up_c _ _ _ _ b, up_c _ _ _ _ b, up_c _ _ _ _ a]
  have W45 : ∀ f : Int, f ≠ 19 → up (up (up z 45 19 0) 57 0 0) 57 1 0 45 f = b 45 f := fun f hf => by rw [up_c _ _ _ _ (by decide), up_c _ _ _ _ (by decide), up_k _ _ _ _ hf, E45]
  have W19 : up (up (up z 45 19 0) 57 0 0) 57 1 0 45 19 = 0 := by rw [up_c _ _ _ _ (by decide), up_c _ _ _ _ (by decide), up_eq]
  have W570 : up (up (up z 45 19 0) 57 0 0) 57 1 0 57 0 = 0 := by rw [up_k _ _ _ _ (by decide), up_eq]
  have W571 : up (up (up z 45 19 0) 57 0 0) 57 1 0 57 1 = 0 := up_eq _ _ _ _
  generalize up (up (up z 45 19 0) 57 0 0) 57 1 0 = e at *
  have no : ∀ r : Nat, ¬ r < 0 := fun r h => by omega
  rw [W45 5 (by decide), W45 6 (by decide), f5, f6, wr_s (a := 10 * (tn S : Int)) (by omega) (by omega), wr_s (by omega) (by omega)]
  have e53 : e 53 = y 53 := by rw [W 53 (by decide) (by decide), E53]
  have M : ∀ i, i ≠ 45 → i ≠ 47 → i ≠ 48 → i ≠ 49 → i ≠ 50 → i ≠ 53 → i ≠ 57 → e i = m i := fun i a0 a1 a2 a3 a4 a5 a6 => by rw [W i a0 a6, E i a0 a1 a2 a3 a4 a5]
  refine ⟨e, by congr 2, ⟨⟨fun r hr => by rw [e53]; exact (y2 r hr).2.1, by rw [e53]; exact y3, fun r hr => by rw [e53]; exact (y2 r hr).2.2, by rw [e53]; exact y4 11 (by decide) (by decide), fun l hl => ?_, by rw [e53]; exact y4 16 (by decide) (by decide)⟩, ⟨n5, by rw [W45 5 (by decide)]; exact f5, by rw [W 47 (by decide) (by decide), E47]; exact fun r hr => (y2 r hr).1, ⟨k4, by rw [W45 6 (by decide)]; exact f6, by rw [W 48 (by decide) (by decide)]; exact fun r hr => (z2 r hr).1, by rw [W 49 (by decide) (by decide)]; exact fun r hr => (z2 r hr).2.1, by rw [W 50 (by decide) (by decide)]; exact fun r hr => (z2 r hr).2.2⟩, by rw [W45 4 (by decide)]; exact f4⟩, ⟨W19, fun j hj => absurd hj (no j)⟩, Or.inl ⟨rfl, W570⟩, Or.inl ⟨rfl, W571⟩, v6.same (fun i a b => M i (by omega) (by omega) (by omega) (by omega) (by omega) (by omega) (by omega)) (by rw [W45 22 (by decide)]; exact fb 22 (by decide) (by decide) (by decide)), v7.same (M 46 (by decide) (by decide) (by decide) (by decide) (by decide) (by decide) (by decide)) (by rw [W45 2 (by decide)]; exact fb 2 (by decide) (by decide) (by decide)), by rw [W45 26 (by decide), fb 26 (by decide) (by decide) (by decide)]; exact v8⟩, (s0.tr sm).hi.tr (fun i hi => M i (by omega) (by omega) (by omega) (by omega) (by omega) (by omega) (by omega))⟩
  have := y4 (12 + l) (by omega) (by omega)
  rw [e53, show (12 : Int) + (l : Int) = ((12 + l : Nat) : Int) by omega]
  exact this
end YNIGHT
theorem pr_night (B : Nat) : Pair B B (fun h => p_X8_night h) (fun h => p_X9_night h) := by
  intro h i
  obtain ⟨n, c, k, ri, sp, wo, law, a, pg, f0, q0, f1, q1, w, ce, ho, sh, tx, by', sd, i1, i2, i3⟩ := i
  show ∃ (u : Int) (h1 h2 : Mem), p_X8_night h = some (u, h1) ∧ p_X9_night h1 = some (u, h2) ∧ INV B h2
  have tX := i1.2.2.2.2.2.2.1
  by_cases h9 : flt tx by' = -9
  · obtain ⟨e, ee, j1, lo⟩ := x_night i1 h9
    obtain ⟨d, ed, k2, hi⟩ := y_night (i2.lo lo) tX.1 h9 j1.1.1.1 j1.2.1.1.1
    obtain ⟨d1, _⟩ := flt_9 h9
    have l2 : dv tx by' 1 ≤ 2 := by have := dv_of d1; omega
    have vp : VP B (sP (run tx by' 300 TS0 2).2) := ⟨Or.inl rfl, RI_sbt _ _, fun _ => RI_0, Nat.zero_le _⟩
    exact ⟨_, e, d, ee, ed, _, _, _, _, _, _, _, _, _, _, _, _, _, w, ce, ho, sh, tx, by', sd, j1.hi hi, k2, i3.1, l2, by decide, fun j _ => vp, vp, vp⟩
  · have s0 := Sm.up0 h
    obtain ⟨m, em, sm, _⟩ := y_readNight (i2.md s0).2.2.2.2.2.2.1 tX.1
    have st := s0.tr sm
    refine ⟨-3, h, m, ?_, ?_, n, c, k, ri, sp, wo, law, a, pg, f0, q0, f1, q1, w, ce, ho, sh, tx, by', sd, i1.hi st.hi, i2.md st, i3⟩
    · unfold p_X8_night
      rw [x_firstFault tX, bd_n, if_neg h9]
    · unfold p_X9_night
      rw [em, bd_n]
      simp only []
      rw [if_neg h9]
