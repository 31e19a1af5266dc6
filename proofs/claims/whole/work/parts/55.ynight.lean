/-! ===== night, by the reference ===== -/
section YNIGHT
variable {h h' g m : Mem} {n : Nat} {c : Nat → Fin 10} {k : Nat} {ri : Nat → Fin 10} {sp : Nat → Fin 4} {wo : Nat → Fin 10} {law a : Nat} {pg : Nat → Pg} {f0 : Nat} {q0 : Pg} {f1 : Nat} {q1 : Pg} {w : Nat} {ce ho : Nat → Fin 10} {sh : Nat → Fin 2} {tx : Nat} {by' : Nat → Fin 256} {sd : Int} {S : TS}
theorem y_zero (m : Mem) : ∃ d, p_X9_night_41 m = p_X9_night_62 d ∧ (∀ i, i ≠ 53 → d i = m i) ∧ ∀ z : Nat, z < 17 → d 53 (z : Int) = 0 := by
  unfold p_X9_night_41
  refine loop_inv (fun f i (d : Mem) => p_X9_night_L43 f d i) 17 (fun j d => (∀ i, i ≠ 53 → d i = m i) ∧ ∀ z : Nat, z < j → d 53 (z : Int) = 0) (fun o => ∃ d, o = p_X9_night_62 d ∧ (∀ i, i ≠ 53 → d i = m i) ∧ ∀ z : Nat, z < 17 → d 53 (z : Int) = 0) ?_ ?_ 300 0 m (Nat.zero_le _) (by omega) ⟨fun _ _ => rfl, fun z hz => by omega⟩
  · rintro f j d hj ⟨i1, i2⟩
    simp only [p_X9_night_L43]
    unfold p_X9_night_43
    rw [if_neg (by omega), gd_w (by omega), wr_1 (by omega)]
    refine ⟨_, ⟨fun i hi => ?_, fun l hl => ?_⟩, rfl⟩
    · rw [← i1 i hi]; funext q; exact up_c _ _ _ _ hi
    · by_cases e : l = j
      · subst e; exact up_eq _ _ _ _
      · exact (up_k _ _ _ _ (by omega)).trans (i2 l (by omega))
  · rintro f d ⟨i1, i2⟩
    simp only [p_X9_night_L43]
    unfold p_X9_night_43
    rw [if_pos (by decide)]
    exact ⟨d, rfl, i1, i2⟩
theorem y_roofs (n5 : tn S ≤ 5) (h45 : g 45 5 = (tn S : Int)) (h51 : ∀ r : Nat, r < tn S → g 51 (4 * (r : Int)) = ((tc S r).val : Int) ∧ g 51 (4 * (r : Int) + 1) = ((tH S r).val : Int) ∧ g 51 (4 * (r : Int) + 2) = ((tS S r).val : Int) ∧ g 51 (4 * (r : Int) + 3) = ((tO S r).val : Int)) (z53 : ∀ z : Nat, z < 17 → g 53 (z : Int) = 0) : ∃ d, p_X9_night_62 g = p_X9_night_148 d ∧ (∀ i, i ≠ 47 → i ≠ 53 → d i = g i) ∧ (∀ r : Nat, r < tn S → d 47 (r : Int) = ((tc S r).val : Int) ∧ d 53 (r : Int) = ((tH S r).val : Int) ∧ d 53 (6 + (r : Int)) = ((tO S r).val : Int)) ∧ d 53 5 = sbt (tS S) (tn S) ∧ ∀ z : Nat, 11 ≤ z → z < 17 → d 53 (z : Int) = 0 := by
  unfold p_X9_night_62
  refine loop_inv (fun f i (d : Mem) => p_X9_night_L64 f d i) (tn S) (fun j d => (∀ i, i ≠ 47 → i ≠ 53 → d i = g i) ∧ (∀ r : Nat, r < j → d 47 (r : Int) = ((tc S r).val : Int) ∧ d 53 (r : Int) = ((tH S r).val : Int) ∧ d 53 (6 + (r : Int)) = ((tO S r).val : Int)) ∧ d 53 5 = sbt (tS S) j ∧ ∀ z : Nat, 11 ≤ z → z < 17 → d 53 (z : Int) = 0) (fun o => ∃ d, o = p_X9_night_148 d ∧ (∀ i, i ≠ 47 → i ≠ 53 → d i = g i) ∧ (∀ r : Nat, r < tn S → d 47 (r : Int) = ((tc S r).val : Int) ∧ d 53 (r : Int) = ((tH S r).val : Int) ∧ d 53 (6 + (r : Int)) = ((tO S r).val : Int)) ∧ d 53 5 = sbt (tS S) (tn S) ∧ ∀ z : Nat, 11 ≤ z → z < 17 → d 53 (z : Int) = 0) ?_ ?_ 300 0 g (Nat.zero_le _) (by omega) ⟨fun _ _ _ => rfl, fun r hr => by omega, z53 5 (by decide), fun z _ hz => z53 z hz⟩
  · rintro f j d hj ⟨i1, i2, i3, i4⟩
    obtain ⟨t0, t1, t2, t3⟩ := h51 j hj
    have e51 : d 51 = g 51 := i1 51 (by decide) (by decide)
    simp only [p_X9_night_L64]
    unfold p_X9_night_64 p_X9_night_123
    simp only [up_c _ _ _ _ (show (51 : Nat) ≠ 47 by decide), up_c _ _ _ _ (show (51 : Nat) ≠ 53 by decide), i1 45 (by decide) (by decide), h45, e51]
    rw [if_neg (by omega), wr_s (a := 4 * (j : Int)) (by omega) (by omega), wr_s (a := 4 * (j : Int) + 1) (by omega) (by omega), wr_s (a := 4 * (j : Int) + 2) (by omega) (by omega), wr_s (a := 4 * (j : Int) + 3) (by omega) (by omega), wr_s (a := 6 + (j : Int)) (by omega) (by omega), gd_w (by omega), gd_w (by omega), gd_w (by omega), gd_w (by omega), gd_w (by omega), gd_w (by omega), gd_w (by omega), t0, t1, t2, t3, wr_1 (by omega), up_k _ _ _ _ (show (5 : Int) ≠ (j : Int) by omega), up_c _ _ _ _ (show (53 : Nat) ≠ 47 by decide), i3]
    refine ⟨_, ⟨fun i a1 a2 => ?_, fun r hr => ?_, ?_, fun z z1 z2 => ?_⟩, rfl⟩
    · rw [← i1 i a1 a2]; funext q; rw [up_c _ _ _ _ a2, up_c _ _ _ _ a2, up_c _ _ _ _ a2, up_c _ _ _ _ a1]
    · by_cases e : r = j
      · subst e
        exact ⟨by rw [up_c _ _ _ _ (by decide), up_c _ _ _ _ (by decide), up_c _ _ _ _ (by decide), up_eq], by rw [up_k _ _ _ _ (by omega), up_k _ _ _ _ (by omega), up_eq], up_eq _ _ _ _⟩
      · obtain ⟨u1, u2, u3⟩ := i2 r (by omega)
        exact ⟨by rw [up_c _ _ _ _ (by decide), up_c _ _ _ _ (by decide), up_c _ _ _ _ (by decide), up_k _ _ _ _ (by omega)]; exact u1, by rw [up_k _ _ _ _ (by omega), up_k _ _ _ _ (by omega), up_k _ _ _ _ (by omega), up_c _ _ _ _ (by decide)]; exact u2, by rw [up_k _ _ _ _ (by omega), up_k _ _ _ _ (by omega), up_k _ _ _ _ (by omega), up_c _ _ _ _ (by decide)]; exact u3⟩
    · rw [up_k _ _ _ _ (by omega), up_eq]; rfl
    · rw [up_k _ _ _ _ (by omega), up_k _ _ _ _ (by omega), up_k _ _ _ _ (by omega), up_c _ _ _ _ (by decide)]; exact i4 z z1 z2
  · rintro f d ⟨i1, i2, i3, i4⟩
    simp only [p_X9_night_L64]
    unfold p_X9_night_64
    rw [i1 45 (by decide) (by decide), h45, if_pos (by omega)]
    exact ⟨d, rfl, i1, i2, i3, i4⟩
end YNIGHT
