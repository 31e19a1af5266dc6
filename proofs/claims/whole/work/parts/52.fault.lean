/-! ===== the whole text, by the reference; fault ===== -/
section FAULT
variable {h h' g m : Mem} {tx : Nat} {by' : Nat → Fin 256} {S : TS} {p i : Nat}
theorem RV.p3 (r : RV m S) (x : Int) : RV (up m 45 3 x) S := by
  obtain ⟨r1, r2, r3, r4⟩ := r
  have e51 : up m 45 3 x 51 = m 51 := by funext z; exact up_c _ _ _ _ (by decide)
  have e52 : up m 45 3 x 52 = m 52 := by funext z; exact up_c _ _ _ _ (by decide)
  exact ⟨by rw [up_k _ _ _ _ (by decide)]; exact r1, by rw [up_k _ _ _ _ (by decide)]; exact r2, by rw [e51]; exact r3, by rw [e52]; exact r4⟩
theorem rnS (f : Nat) (m : Mem) : p_X9_readNight_L64 (f + 1) m = (if m 45 2 ≤ m 45 3 then some (-9, m) else bd (p_X9_readPart m) (fun q76 => if q76.1 = 0 then some (q76.2 45 3, q76.2) else p_X9_readNight_L64 f q76.2)) := rfl
theorem y_rn (htx : tx ≤ 48) : ∀ (f : Nat) (S : TS) (p : Nat) (m : Mem), TM m tx by' → RV m S → tn S ≤ 5 → tk S ≤ 4 → m 45 3 = (p : Int) → p ≤ tx → tx + 6 < f + p → ∃ m', p_X9_readNight_L64 f m = some ((run tx by' f S p).1, m') ∧ Sm m m' ∧ m' 45 11 = m 45 11 ∧ ((run tx by' f S p).1 = -9 → RV m' (run tx by' f S p).2) := by
  intro f
  induction f with
  | zero => intro S p m _ _ _ _ _ h1 h2; omega
  | succ f ih =>
    intro S p m v r n5 k4 h3 hp hf
    rw [rnS, v.1, h3]
    simp only [run]
    by_cases q : tx ≤ p
    · rw [if_pos (by omega), if_pos q]
      exact ⟨m, rfl, Sm.rf m, rfl, fun _ => r⟩
    · rw [if_neg (by omega), if_neg q]
      have ec : m 46 (p : Int) = chr tx by' p := by
        unfold chr
        rw [if_pos (by omega)]
        exact v.2 p (by omega)
      have s1 : Sm m (up m 45 3 ((p + 1 : Nat) : Int)) := Sm.rd m (Or.inl rfl) _
      have v1 := v.md s1
      have r1 := r.p3 ((p + 1 : Nat) : Int)
      have h31 : up m 45 3 ((p + 1 : Nat) : Int) 45 3 = ((p + 1 : Nat) : Int) := up_eq _ _ _ _
      have h11 : up m 45 3 ((p + 1 : Nat) : Int) 45 11 = m 45 11 := up_k _ _ _ _ (by decide)
      unfold p_X9_readPart
      rw [h3, gd_w (by omega), ec, wr_1 (by omega), show (p : Int) + 1 = ((p + 1 : Nat) : Int) by omega, r1.1]
      generalize up m 45 3 ((p + 1 : Nat) : Int) = d at *
      have bad : ∃ m', bd (p_X9_readPart_58 d) (fun q76 => if q76.1 = 0 then some (q76.2 45 3, q76.2) else p_X9_readNight_L64 f q76.2) = some (((p : Nat) : Int), m') ∧ Sm m m' ∧ m' 45 11 = m 45 11 := by
        unfold p_X9_readPart_58
        rw [bd_n, h31, wr_s (by omega) (by omega)]
        simp only []
        rw [if_pos trivial, up_eq, show ((p + 1 : Nat) : Int) - 1 = ((p : Nat) : Int) by omega]
        exact ⟨_, rfl, s1.tr (Sm.rd d (Or.inl rfl) _), by rw [up_k _ _ _ _ (by decide)]; exact h11⟩
      have star : ∃ m', bd (p_X9_readPart_39 d (chr tx by' p)) (fun q76 => if q76.1 = 0 then some (q76.2 45 3, q76.2) else p_X9_readNight_L64 f q76.2) = some ((if chr tx by' p = 83 ∧ tk S < 4 then if sflt tx by' p = -9 then run tx by' f (addS tx by' S p) (p + 4) else (sflt tx by' p, S) else ((p : Int), S)).1, m') ∧ Sm m m' ∧ m' 45 11 = m 45 11 ∧ ((if chr tx by' p = 83 ∧ tk S < 4 then if sflt tx by' p = -9 then run tx by' f (addS tx by' S p) (p + 4) else (sflt tx by' p, S) else ((p : Int), S)).1 = -9 → RV m' (if chr tx by' p = 83 ∧ tk S < 4 then if sflt tx by' p = -9 then run tx by' f (addS tx by' S p) (p + 4) else (sflt tx by' p, S) else ((p : Int), S)).2) := by
        unfold p_X9_readPart_39
        by_cases c : chr tx by' p = 83
        · rw [if_pos c, r1.2.1]
          by_cases k : tk S < 4
          · rw [if_neg (by omega), if_pos ⟨c, k⟩]
            obtain ⟨b, e, eb, se, e11, alt⟩ := y_readStar v1 htx r1 k h31 (by omega)
            rw [eb, bd_n]
            rcases alt with ⟨rfl, z1, z2⟩ | ⟨rfl, z1, z2, z3⟩
            · rw [if_neg z1, gd_w (Or.inl rfl), bd_n]
              simp only []
              rw [if_pos trivial, z2]
              exact ⟨e, rfl, s1.tr se, by rw [e11, h11], fun y => absurd y z1⟩
            · rw [if_pos z1, gd_w (Or.inr rfl), bd_n]
              simp only []
              rw [if_neg (by decide)]
              have lt : p + 3 < tx := by
                have : sflt tx by' p = -9 := z1
                unfold sflt at this
                by_cases q1 : Dg tx by' (p + 1) 0 9
                · rw [if_pos q1] at this
                  by_cases q2 : Dg tx by' (p + 2) 0 3
                  · rw [if_pos q2] at this
                    by_cases q3 : Dg tx by' (p + 3) 1 9
                    · exact lt_tx (show (0 : Int) ≤ 1 by decide) q3
                    · rw [if_neg q3] at this; omega
                  · rw [if_neg q2] at this; omega
                · rw [if_neg q1] at this; omega
              obtain ⟨m', em, sm, m11, mr⟩ := ih (addS tx by' S p) (p + 4) e (v1.md se) z3 n5 (show tk S + 1 ≤ 4 by omega) z2 (by omega) (by omega)
              exact ⟨m', em, (s1.tr se).tr sm, by rw [m11, e11, h11], mr⟩
          · rw [if_pos (by omega), if_neg (fun y => k y.2)]
            obtain ⟨m', e1, e2, e3⟩ := bad
            exact ⟨m', e1, e2, e3, fun y => by have y : (p : Int) = -9 := y; omega⟩
        · rw [if_neg c, if_neg (fun y => c y.1)]
          obtain ⟨m', e1, e2, e3⟩ := bad
          exact ⟨m', e1, e2, e3, fun y => by have y : (p : Int) = -9 := y; omega⟩
      by_cases c : chr tx by' p = 82
      · rw [if_pos c]
        by_cases n : tn S < 5
        · rw [if_neg (by omega), if_pos ⟨c, n⟩]
          obtain ⟨b, e, eb, se, e11, alt⟩ := y_readRoof v1 htx r1 n h31 (by omega)
          rw [eb, bd_n]
          rcases alt with ⟨rfl, z1, z2⟩ | ⟨rfl, z1, z2, z3⟩
          · rw [if_neg z1, gd_w (Or.inl rfl), bd_n]
            simp only []
            rw [if_pos trivial, z2]
            exact ⟨e, rfl, s1.tr se, by rw [e11, h11], fun y => absurd y z1⟩
          · rw [if_pos z1, gd_w (Or.inr rfl), bd_n]
            simp only []
            rw [if_neg (by decide)]
            have lt : p + 4 < tx := by
              have this : rflt tx by' S p = -9 := z1
              by_cases ok : OkR tx by' S p
              · have ro : rflt tx by' S p = (if Dg tx by' (p + 2) 0 9 then if Dg tx by' (p + 3) 0 1 then if Dg tx by' (p + 4) 0 3 then -9 else ((p + 4 : Nat) : Int) else ((p + 3 : Nat) : Int) else ((p + 2 : Nat) : Int)) := if_pos ok
                rw [ro] at this
                by_cases q1 : Dg tx by' (p + 2) 0 9
                · rw [if_pos q1] at this
                  by_cases q2 : Dg tx by' (p + 3) 0 1
                  · rw [if_pos q2] at this
                    by_cases q3 : Dg tx by' (p + 4) 0 3
                    · exact lt_tx (Int.le_refl 0) q3
                    · rw [if_neg q3] at this; omega
                  · rw [if_neg q2] at this; omega
                · rw [if_neg q1] at this; omega
              · have ro : rflt tx by' S p = ((p + 1 : Nat) : Int) := if_neg ok
                omega
            obtain ⟨m', em, sm, m11, mr⟩ := ih (addR tx by' S p) (p + 5) e (v1.md se) z3 (show tn S + 1 ≤ 5 by omega) k4 z2 (by omega) (by omega)
            exact ⟨m', em, (s1.tr se).tr sm, by rw [m11, e11, h11], mr⟩
        · rw [if_pos (by omega), if_neg (fun y => n y.2)]
          exact star
      · rw [if_neg c, if_neg (fun y => c y.1)]
        exact star
theorem y_readNight (v : TM h tx by') (htx : tx ≤ 48) : ∃ m', p_X9_readNight h = some (flt tx by', m') ∧ Sm h m' ∧ (flt tx by' = -9 → RV m' (run tx by' 300 TS0 2).2 ∧ m' 45 11 = chr tx by' 1 - 48) := by
  have s0 : Sm h (up (up (up h 45 3 0) 45 12 0) 45 13 0) := ((Sm.rd h (by decide) _).tr (Sm.rd _ (by decide) _)).tr (Sm.rd _ (by decide) _)
  have z12 : up (up (up h 45 3 0) 45 12 0) 45 13 0 45 12 = 0 := by rw [up_k _ _ _ _ (by decide), up_eq]
  have z13 : up (up (up h 45 3 0) 45 12 0) 45 13 0 45 13 = 0 := up_eq _ _ _ _
  unfold p_X9_readNight
  generalize up (up (up h 45 3 0) 45 12 0) 45 13 0 = d at *
  have vd := v.md s0
  rw [vd.1]
  unfold flt
  by_cases t0 : tx = 0
  · subst t0
    have c0 : chr 0 by' 0 = -1 := if_neg (by omega)
    have cn : ¬ chr 0 by' 0 = 78 := by omega
    rw [if_pos (show ((0 : Nat) : Int) = 0 from rfl), if_neg cn]
    exact ⟨d, rfl, s0, fun y => absurd y (by decide)⟩
  · have e0 : d 46 0 = chr tx by' 0 := by
      unfold chr
      rw [if_pos (by omega)]
      exact vd.2 0 (by omega)
    rw [if_neg (by omega), e0]
    by_cases c : chr tx by' 0 = 78
    · rw [if_pos c, if_pos c]
      have s1 : Sm d (up d 45 3 1) := Sm.rd d (by decide) _
      rw [y_figure (vd.md s1) htx (i := 1) (up_eq _ _ _ _) (by omega) (Int.le_refl 0)]
      by_cases q : Dg tx by' 1 0 2
      · have t2 := lt_tx (Int.le_refl 0) q
        rw [if_pos q, if_pos q, bd_n]
        simp only []
        rw [up_eq, if_neg (by have := q.1; omega)]
        have s2 : Sm d (up (up (up d 45 3 1) 45 3 (((1 : Nat) : Int) + 1)) 45 11 (chr tx by' 1 - 48)) := (s1.tr (Sm.rd _ (by decide) _)).tr (Sm.rd _ (by decide) _)
        have r : RV (up (up (up d 45 3 1) 45 3 (((1 : Nat) : Int) + 1)) 45 11 (chr tx by' 1 - 48)) TS0 := ⟨by rw [up_k _ _ _ _ (by decide), up_k _ _ _ _ (by decide), up_k _ _ _ _ (by decide)]; exact z12, by rw [up_k _ _ _ _ (by decide), up_k _ _ _ _ (by decide), up_k _ _ _ _ (by decide)]; exact z13, fun r hr => absurd hr (Nat.not_lt_zero r), fun r hr => absurd hr (Nat.not_lt_zero r)⟩
        have h3 : up (up (up d 45 3 1) 45 3 (((1 : Nat) : Int) + 1)) 45 11 (chr tx by' 1 - 48) 45 3 = ((2 : Nat) : Int) := by rw [up_k _ _ _ _ (by decide), up_eq]; rfl
        have h11 : up (up (up d 45 3 1) 45 3 (((1 : Nat) : Int) + 1)) 45 11 (chr tx by' 1 - 48) 45 11 = chr tx by' 1 - 48 := up_eq _ _ _ _
        generalize up (up (up d 45 3 1) 45 3 (((1 : Nat) : Int) + 1)) 45 11 (chr tx by' 1 - 48) = e at *
        obtain ⟨m', em, sm, m11, mr⟩ := y_rn (by' := by') htx 300 TS0 2 e (vd.md s2) r (by decide) (by decide) h3 (by omega) (by omega)
        exact ⟨m', em, (s0.tr s2).tr sm, fun y => ⟨mr y, by rw [m11, h11]⟩⟩
      · rw [if_neg q, if_neg q, bd_n]
        simp only []
        rw [up_eq, if_pos rfl, up_k _ _ _ _ (by decide), up_eq]
        exact ⟨_, rfl, (s0.tr s1).tr (Sm.rd _ (by decide) _), fun y => absurd y (by decide)⟩
    · rw [if_neg c, if_neg c]
      exact ⟨d, rfl, s0, fun y => absurd y (by decide)⟩
end FAULT
theorem pr_fault (B : Nat) : PairR B B (fun h => p_X8_fault h) (fun h => p_X9_fault h) := by
  intro h i
  obtain ⟨n, c, k, ri, sp, wo, law, a, pg, f0, q0, f1, q1, w, ce, ho, sh, tx, by', sd, i1, i2, i3⟩ := i
  have s0 := Sm.up0 h
  have v := (i2.md s0).2.2.2.2.2.2.1
  obtain ⟨m', em, sm, _⟩ := y_readNight v i1.2.2.2.2.2.2.1.1
  have st := s0.tr sm
  refine ⟨flt tx by', m', ?_, ?_, n, c, k, ri, sp, wo, law, a, pg, f0, q0, f1, q1, w, ce, ho, sh, tx, by', sd, i1.hi st.hi, i2.md st, i3⟩
  · show p_X8_fault h = _
    unfold p_X8_fault
    rw [x_firstFault i1.2.2.2.2.2.2.1, bd_n]
  · show p_X9_fault h = _
    unfold p_X9_fault
    rw [em, bd_n]
