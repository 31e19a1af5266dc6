/-! ===== night, by the class ===== -/
def sP (S : TS) : Pg := (tH S, tO S, sbt (tS S) (tn S), 0, fun _ => 0, 0)
theorem x_clear (h : Mem) : ∃ b, p_X6_clear h 7 = some b ∧ (∀ i, i ≠ 7 → i ≠ 11 → b i = h i) ∧ (∀ f : Int, f = 4 ∨ f = 5 ∨ f = 6 ∨ f = 7 → b 7 f = 0) ∧ ∀ l : Nat, l < 4 → b 11 (l : Int) = 0 := by
  unfold p_X6_clear
  have z : ∀ f : Int, f = 4 ∨ f = 5 ∨ f = 6 ∨ f = 7 → up (up (up (up h 7 4 0) 7 5 0) 7 6 0) 7 7 0 7 f = 0 := by
    rintro f (rfl | rfl | rfl | rfl) <;> simp [up]
  have s : ∀ i, i ≠ 7 → up (up (up (up h 7 4 0) 7 5 0) 7 6 0) 7 7 0 i = h i := fun i hi => by
    funext z; rw [up_c _ _ _ _ hi, up_c _ _ _ _ hi, up_c _ _ _ _ hi, up_c _ _ _ _ hi]
  generalize up (up (up (up h 7 4 0) 7 5 0) 7 6 0) 7 7 0 = g at *
  refine loop_inv (fun f i (m : Mem) => p_X6_clear_L22 7 f m i) 4 (fun j m => (∀ i, i ≠ 11 → m i = g i) ∧ ∀ l : Nat, l < j → m 11 (l : Int) = 0) (fun o => ∃ b, o = some b ∧ (∀ i, i ≠ 7 → i ≠ 11 → b i = h i) ∧ (∀ f : Int, f = 4 ∨ f = 5 ∨ f = 6 ∨ f = 7 → b 7 f = 0) ∧ ∀ l : Nat, l < 4 → b 11 (l : Int) = 0) ?_ ?_ 300 0 g (Nat.zero_le _) (by omega) ⟨fun _ _ => rfl, fun l hl => by omega⟩
  · rintro f j m hj ⟨i1, i2⟩
    simp only [p_X6_clear_L22]
    unfold p_X6_clear_22
    rw [if_neg (by omega), gd_w (by omega), wr_1 (by omega)]
    refine ⟨_, ⟨fun i hi => ?_, fun l hl => ?_⟩, rfl⟩
    · rw [← i1 i hi]; funext q; exact up_c _ _ _ _ hi
    · by_cases e : l = j
      · subst e; exact up_eq _ _ _ _
      · exact (up_k _ _ _ _ (by omega)).trans (i2 l (by omega))
  · rintro f m ⟨i1, i2⟩
    simp only [p_X6_clear_L22]
    unfold p_X6_clear_22
    rw [if_pos (by decide)]
    exact ⟨m, rfl, fun i h7 h11 => by rw [i1 i h11, s i h7], fun f hf => by rw [i1 7 (by decide)]; exact z f hf, i2⟩
theorem flt_9 {tx : Nat} {by' : Nat → Fin 256} (h : flt tx by' = -9) : Dg tx by' 1 0 2 ∧ (run tx by' 300 TS0 2).1 = -9 := by
  unfold flt at h
  by_cases q : chr tx by' 0 = 78
  · rw [if_pos q] at h
    by_cases q1 : Dg tx by' 1 0 2
    · rw [if_pos q1] at h; exact ⟨q1, h⟩
    · rw [if_neg q1] at h; omega
  · rw [if_neg q] at h; omega
section XNIGHT
variable {h h' g : Mem} {n : Nat} {c : Nat → Fin 10} {k : Nat} {ri : Nat → Fin 10} {sp : Nat → Fin 4} {wo : Nat → Fin 10} {law a : Nat} {pg : Nat → Pg} {f0 : Nat} {q0 : Pg} {f1 : Nat} {q1 : Pg} {w : Nat} {ce ho : Nat → Fin 10} {sh : Nat → Fin 2} {tx : Nat} {by' : Nat → Fin 256} {sd : Int}
theorem x_night (v : IC h n c k ri sp wo law a pg f0 q0 f1 q1 w ce ho sh tx by' sd) (h9 : flt tx by' = -9) : ∃ e, p_X8_night h = some (((10 * tn (run tx by' 300 TS0 2).2 + tk (run tx by' 300 TS0 2).2 : Nat) : Int), e) ∧ IC e (tn (run tx by' 300 TS0 2).2) (tc (run tx by' 300 TS0 2).2) (tk (run tx by' 300 TS0 2).2) (tri (run tx by' 300 TS0 2).2) (tsp (run tx by' 300 TS0 2).2) (two (run tx by' 300 TS0 2).2) (dv tx by' 1) 0 (fun _ => sP (run tx by' 300 TS0 2).2) 0 (sP (run tx by' 300 TS0 2).2) 0 (sP (run tx by' 300 TS0 2).2) w ce ho sh tx by' sd ∧ Lo h e := by
  obtain ⟨v1, v2, v3, v4, v5, v6, v7, v8⟩ := v
  obtain ⟨d1, r9⟩ := flt_9 h9
  have htx := v7.1
  have t2 := lt_tx (Int.le_refl 0) d1
  unfold p_X8_night p_X4_clear p_X0_clear p_X5_law
  obtain ⟨b, eb, b1, b7, b11⟩ := x_clear h
  rw [x_firstFault v7, bd_n, if_pos h9, eb, bd_n, bd_n, bd_n]
  have s0 : ∀ i, i ≠ 3 → i ≠ 7 → i ≠ 11 → i ≠ 17 → i ≠ 23 → i ≠ 33 → up (up (up (up b 3 3 0) 33 3 0) 17 1 0) 23 1 0 i = h i := fun i a1 a2 a3 a4 a5 a6 => by
    rw [← b1 i a2 a3]; funext z; rw [up_c _ _ _ _ a5, up_c _ _ _ _ a4, up_c _ _ _ _ a6, up_c _ _ _ _ a1]
  have x33 : up (up (up (up b 3 3 0) 33 3 0) 17 1 0) 23 1 0 3 3 = 0 := by rw [up_c _ _ _ _ (by decide), up_c _ _ _ _ (by decide), up_c _ _ _ _ (by decide), up_eq]
  have x333 : up (up (up (up b 3 3 0) 33 3 0) 17 1 0) 23 1 0 33 3 = 0 := by rw [up_c _ _ _ _ (by decide), up_c _ _ _ _ (by decide), up_eq]
  have x17 : up (up (up (up b 3 3 0) 33 3 0) 17 1 0) 23 1 0 17 1 = 0 := by rw [up_c _ _ _ _ (by decide), up_eq]
  have x23 : up (up (up (up b 3 3 0) 33 3 0) 17 1 0) 23 1 0 23 1 = 0 := up_eq _ _ _ _
  have x7 : ∀ f : Int, up (up (up (up b 3 3 0) 33 3 0) 17 1 0) 23 1 0 7 f = b 7 f := fun f => by rw [up_c _ _ _ _ (by decide), up_c _ _ _ _ (by decide), up_c _ _ _ _ (by decide), up_c _ _ _ _ (by decide)]
  have x11 : ∀ f : Int, up (up (up (up b 3 3 0) 33 3 0) 17 1 0) 23 1 0 11 f = b 11 f := fun f => by rw [up_c _ _ _ _ (by decide), up_c _ _ _ _ (by decide), up_c _ _ _ _ (by decide), up_c _ _ _ _ (by decide)]
  generalize up (up (up (up b 3 3 0) 33 3 0) 17 1 0) 23 1 0 = d at *
  have dg := t_digit (v7.same (fun i a b => s0 i (by omega) (by omega) (by omega) (by omega) (by omega) (by omega))) 1
  rw [show (((1 : Nat) : Int)) = 1 from rfl] at dg
  rw [dg, bd_n, bd_n, ← dv_of d1]
  have e0 : ∀ i, i ≠ 0 → up d 0 11 ((dv tx by' 1 : Nat) : Int) i = d i := fun i hi => by funext z; exact up_c _ _ _ _ hi
  have law1 : up d 0 11 ((dv tx by' 1 : Nat) : Int) 0 11 = ((dv tx by' 1 : Nat) : Int) := up_eq _ _ _ _
  have sd1 : up d 0 11 ((dv tx by' 1 : Nat) : Int) 0 12 = sd := by rw [up_k _ _ _ _ (by decide), s0 0 (by decide) (by decide) (by decide) (by decide) (by decide) (by decide)]; exact v8
  generalize up d 0 11 ((dv tx by' 1 : Nat) : Int) = m at *
  have no : ∀ r : Nat, ¬ r < 0 := fun r h => by omega
  have ct : CT m TS0 := ⟨⟨by decide, by rw [e0 7 (by decide), x7]; exact b7 4 (by decide), by rw [e0 7 (by decide), x7]; exact b7 5 (by decide), fun r hr => absurd hr (no r), fun r hr => absurd hr (no r), fun r hr => absurd hr (no r)⟩, by decide, by rw [e0 3 (by decide)]; exact x33, fun r hr => absurd hr (no r), fun r hr => absurd hr (no r), fun r hr => absurd hr (no r)⟩
  have S0 : ∀ i, i ≠ 0 → i ≠ 3 → i ≠ 7 → i ≠ 11 → i ≠ 17 → i ≠ 23 → i ≠ 33 → m i = h i := fun i a0 a1 a2 a3 a4 a5 a6 => by rw [e0 i a0, s0 i a1 a2 a3 a4 a5 a6]
  obtain ⟨e, ee, ce', k1, k2⟩ := x_tell 300 TS0 2 m (v7.same (fun i a b => S0 i (by omega) (by omega) (by omega) (by omega) (by omega) (by omega) (by omega))) ct r9 (by omega) (by omega)
  unfold p_X5_tellParts
  rw [show ((2 : Nat) : Int) = 2 from rfl] at ee
  rw [ee, bd_n]
  generalize (run tx by' 300 TS0 2).2 = S at *
  obtain ⟨tv, sv⟩ := id ce'
  have hn := tv.1
  have hk := sv.1
  rw [tv.2.1, sv.2.1, wr_s (a := 10 * (tn S : Int)) (by omega) (by omega), wr_s (by omega) (by omega)]
  have K1 : ∀ i, i < 3 ∨ 10 < i → i ≠ 0 → i ≠ 11 → i ≠ 17 → i ≠ 23 → i ≠ 33 → e i = h i := fun i a1 a2 a3 a4 a5 a6 => by rw [k1 i a1, S0 i a2 (by omega) (by omega) a3 a4 a5 a6]
  refine ⟨e, by congr 2, ⟨⟨tv, ?_, ?_, fun l hl => ?_⟩, ⟨sv, ?_⟩, ⟨?_, fun j hj => absurd hj (no j)⟩, Or.inl ⟨rfl, ?_⟩, Or.inl ⟨rfl, ?_⟩, v6.same (fun i a b => K1 i (by omega) (by omega) (by omega) (by omega) (by omega) (by omega)), v7.same (fun i a b => K1 i (by omega) (by omega) (by omega) (by omega) (by omega) (by omega)), ?_⟩, fun i hi => K1 i (by omega) (by omega) (by omega) (by omega) (by omega) (by omega)⟩
  · rw [k2 6 (by decide) (by decide), e0 7 (by decide), x7]; exact b7 6 (by decide)
  · rw [k2 7 (by decide) (by decide), e0 7 (by decide), x7]; exact b7 7 (by decide)
  · show e 11 (l : Int) = 0
    rw [k1 11 (by decide), e0 11 (by decide), x11]; exact b11 l hl
  · rw [k1 0 (by decide)]; exact law1
  · rw [k1 33 (by decide), e0 33 (by decide)]; exact x333
  · rw [k1 17 (by decide), e0 17 (by decide)]; exact x17
  · rw [k1 23 (by decide), e0 23 (by decide)]; exact x23
  · rw [k1 0 (by decide)]; exact sd1
end XNIGHT
