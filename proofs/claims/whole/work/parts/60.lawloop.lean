/-! ===== the law's loop ===== -/
def Ok (o : Option (Int × Mem)) : Prop := ∃ X : Int × Mem, X.1 = 1 ∧ o = some X
theorem ok_pair {B B' C : Nat} {X Y : Mem → Option (Int × Mem)} (P : Pair B B' X Y) (hB : B' ≤ C) (hC : C ≤ 600) {h : Mem} (i : INV B h) {K : Mem → Option (Int × Mem)} (hK : ∀ h', INV C h' → Ok (K h')) : Ok (bd (X h) (fun q => bd (Y q.2) (fun r => if q.1 = r.1 then K r.2 else some (0, r.2)))) := by
  obtain ⟨v, h1, h2, e1, e2, j⟩ := P h i
  rw [e1, bd_n]
  simp only []
  rw [e2, bd_n]
  simp only []
  rw [if_pos trivial]
  exact hK h2 (j.up hB hC)
theorem ok_pairR {B B' C : Nat} {X : Mem → Option Int} {Y : Mem → Option (Int × Mem)} (P : PairR B B' X Y) (hB : B' ≤ C) (hC : C ≤ 600) {h : Mem} (i : INV B h) {K : Mem → Option (Int × Mem)} (hK : ∀ h', INV C h' → Ok (K h')) : Ok (bd (X h) (fun q => bd (Y h) (fun r => if q = r.1 then K r.2 else some (0, r.2)))) := by
  obtain ⟨v, h2, e1, e2, j⟩ := P h i
  rw [e1, bd_n, e2, bd_n]
  simp only []
  rw [if_pos trivial]
  exact hK h2 (j.up hB hC)
theorem ok_pairL {B B' C : Nat} {X Y : Mem → Option (Int × Mem)} (P : Pair B B' X Y) (hB : B' ≤ C) (hC : C ≤ 600) {h : Mem} (i : INV B h) {K : Mem → Option (Int × Mem)} (hK : ∀ h', INV C h' → Ok (K h')) : Ok (bd (X h) (fun q => bd (Y q.2) (fun r => if lcmp64 q.1 r.1 = 0 then K r.2 else some (0, r.2)))) := by
  obtain ⟨v, h1, h2, e1, e2, j⟩ := P h i
  rw [e1, bd_n]
  simp only []
  rw [e2, bd_n]
  simp only []
  rw [if_pos (lc_z.mpr rfl)]
  exact hK h2 (j.up hB hC)
theorem law_step (L : Nat) (xs : Nat → Int32) (hL : L ≤ 2560) {B : Nat} (hB : B + 1 ≤ 600) (hf : PairR B (B + 1) (fun h => p_X8_fault h) (fun h => p_X9_fault h)) (hn : Pair B (B + 1) (fun h => p_X8_night h) (fun h => p_X9_night h)) {h : Mem} (i : INV B h) (l3 : Nat) (h3 : l3 + 5 ≤ L) (K : Mem → Int → Option (Int × Mem)) (hK : ∀ h', INV (B + 1) h' → Ok (K h' ((l3 + 5 : Nat) : Int))) : Ok (p_L_law_18 K h L xs (l3 : Int)) := by
  have hK' : ∀ h', INV (B + 1) h' → Ok (p_L_law_1037 K h' L xs (l3 : Int)) := by
    intro h' j
    unfold p_L_law_1037
    rw [wr_s (by omega) (by omega), show (l3 : Int) + 5 = ((l3 + 5 : Nat) : Int) by omega]
    exact hK h' j
  have w1 : wr ((l3 : Int) + 1) = (l3 : Int) + 1 := wr_s (by omega) (by omega)
  have w2 : wr ((l3 : Int) + 2) = (l3 : Int) + 2 := wr_s (by omega) (by omega)
  have w3 : wr ((l3 : Int) + 3) = (l3 : Int) + 3 := wr_s (by omega) (by omega)
  have w4 : wr ((l3 : Int) + 4) = (l3 : Int) + 4 := wr_s (by omega) (by omega)
  have G1 : ∀ {α : Type} (k : Option α), gd (0 ≤ (l3 : Int) + 1 ∧ (l3 : Int) + 1 < (L : Int)) k = k := fun k => gd_w (by omega)
  have G2 : ∀ {α : Type} (k : Option α), gd (0 ≤ (l3 : Int) + 2 ∧ (l3 : Int) + 2 < (L : Int)) k = k := fun k => gd_w (by omega)
  have G3 : ∀ {α : Type} (k : Option α), gd (0 ≤ (l3 : Int) + 3 ∧ (l3 : Int) + 3 < (L : Int)) k = k := fun k => gd_w (by omega)
  have G4 : ∀ {α : Type} (k : Option α), gd (0 ≤ (l3 : Int) + 4 ∧ (l3 : Int) + 4 < (L : Int)) k = k := fun k => gd_w (by omega)
  have B1 : B ≤ B + 1 := Nat.le_succ B
  have B2 : B + 1 ≤ B + 1 := Nat.le_refl _
  unfold p_L_law_18
  rw [wr_s (a := (L : Int) - 5) (by omega) (by omega), if_neg (by omega), gd_w (by omega)]
  simp only [w1, w2, w3, w4, G1, G2, G3, G4]
  generalize band ((xs ((l3 : Int)).toNat).toInt) 31 = t
  by_cases t0 : t = 0
  · rw [if_pos t0]; exact ok_pair (pr_write B _) B1 hB i hK'
  rw [if_neg t0]
  by_cases t1 : t = 1
  · rw [if_pos t1]; exact ok_pair (pr_wipe B ) B1 hB i hK'
  rw [if_neg t1]
  by_cases t2 : t = 2
  · rw [if_pos t2]; exact ok_pairR hf B2 hB i hK'
  rw [if_neg t2]
  by_cases t3 : t = 3
  · rw [if_pos t3]; exact ok_pair hn B2 hB i hK'
  rw [if_neg t3]
  by_cases t4 : t = 4
  · rw [if_pos t4]; exact ok_pairR (pr_about B _) B1 hB i hK'
  rw [if_neg t4]
  by_cases t5 : t = 5
  · rw [if_pos t5]; exact ok_pair (pr_roof B _ _) B1 hB i hK'
  rw [if_neg t5]
  by_cases t6 : t = 6
  · rw [if_pos t6]; exact ok_pair (pr_star B _ _) B1 hB i hK'
  rw [if_neg t6]
  by_cases t7 : t = 7
  · rw [if_pos t7]; exact ok_pairR (pr_purse B _) B1 hB i hK'
  rw [if_neg t7]
  by_cases t8 : t = 8
  · rw [if_pos t8]; exact ok_pair (pr_build B _ _) B1 hB i hK'
  rw [if_neg t8]
  by_cases t9 : t = 9
  · rw [if_pos t9]; exact ok_pair (pr_light B _) B1 hB i hK'
  rw [if_neg t9]
  by_cases t10 : t = 10
  · rw [if_pos t10]; exact ok_pair (pr_sell B _ _) B1 hB i hK'
  rw [if_neg t10]
  by_cases t11 : t = 11
  · rw [if_pos t11]; exact ok_pair (pr_clouds B ) B1 hB i hK'
  rw [if_neg t11]
  by_cases t12 : t = 12
  · rw [if_pos t12]; exact ok_pair (pr_hour hB) B2 hB i hK'
  rw [if_neg t12]
  by_cases t13 : t = 13
  · rw [if_pos t13]; exact ok_pair (pr_undo B ) B1 hB i hK'
  rw [if_neg t13]
  by_cases t14 : t = 14
  · rw [if_pos t14]; exact ok_pair (pr_rents B _ _) B1 hB i hK'
  rw [if_neg t14]
  by_cases t15 : t = 15
  · rw [if_pos t15]; exact ok_pair (pr_hold B _ _) B1 hB i hK'
  rw [if_neg t15]
  by_cases t16 : t = 16
  · rw [if_pos t16]; exact ok_pair (pr_fires B _ _) B1 hB i hK'
  rw [if_neg t16]
  by_cases t17 : t = 17
  · rw [if_pos t17]
    unfold p_L_law_593
    simp only [w1, w2, w3, w4, G1, G2, G3, G4]
    by_cases z : (xs ((l3 : Int) + 3).toNat).toInt = 0
    · simp only [if_pos z]
      unfold p_L_law_620
      exact ok_pair (pr_share B _ _ _) B1 hB i hK'
    · simp only [if_neg z]
      unfold p_L_law_620
      exact ok_pair (pr_share B _ _ _) B1 hB i hK'
  rw [if_neg t17]
  by_cases t18 : t = 18
  · rw [if_pos t18]; exact ok_pair (pr_bestLaw B _ _) B1 hB i hK'
  rw [if_neg t18]
  by_cases t19 : t = 19
  · rw [if_pos t19]; exact ok_pair (pr_starless B _) B1 hB i hK'
  rw [if_neg t19]
  by_cases t20 : t = 20
  · rw [if_pos t20]; exact ok_pair (pr_rests B _ _ _ _) B1 hB i hK'
  rw [if_neg t20]
  by_cases t21 : t = 21
  · rw [if_pos t21]
    unfold p_L_law_761
    simp only [w1, w2, w3, w4, G1, G2, G3, G4]
    by_cases z : (xs ((l3 : Int) + 3).toNat).toInt = 0
    · simp only [if_pos z]
      unfold p_L_law_788
      exact ok_pair (pr_shine B _ _ _ (Or.inl rfl)) B1 hB i hK'
    · simp only [if_neg z]
      unfold p_L_law_788
      exact ok_pair (pr_shine B _ _ _ (Or.inr rfl)) B1 hB i hK'
  rw [if_neg t21]
  by_cases t22 : t = 22
  · rw [if_pos t22]; exact ok_pair (pr_unshine B ) B1 hB i hK'
  rw [if_neg t22]
  by_cases t23 : t = 23
  · rw [if_pos t23]; exact ok_pairR (pr_found B _) B1 hB i hK'
  rw [if_neg t23]
  by_cases t24 : t = 24
  · rw [if_pos t24]; exact ok_pairR (pr_look B ) B1 hB i hK'
  rw [if_neg t24]
  by_cases t25 : t = 25
  · rw [if_pos t25]
    unfold p_L_law_874
    simp only [w1, w2, w3, w4, G1, G2, G3, G4]
    by_cases z : (xs ((l3 : Int) + 4).toNat).toInt = 0
    · simp only [if_pos z]
      unfold p_L_law_906
      exact ok_pair (pr_chance B _ _ _ _) B1 hB i hK'
    · simp only [if_neg z]
      unfold p_L_law_906
      exact ok_pair (pr_chance B _ _ _ _) B1 hB i hK'
  rw [if_neg t25]
  by_cases t26 : t = 26
  · rw [if_pos t26]; exact ok_pairL (pr_seed B _) B1 hB i hK'
  rw [if_neg t26]
  by_cases t27 : t = 27
  · rw [if_pos t27]; exact ok_pair (pr_nights B _) B1 hB i hK'
  rw [if_neg t27]
  by_cases t28 : t = 28
  · rw [if_pos t28]; exact ok_pair (pr_keep B _) B1 hB i hK'
  rw [if_neg t28]
  by_cases t29 : t = 29
  · rw [if_pos t29]; exact ok_pair (pr_again B _) B1 hB i hK'
  rw [if_neg t29]
  exact hK' h (i.up B1 hB)
theorem law_run (L : Nat) (xs : Nat → Int32) (hL : L ≤ 2560) (hf : ∀ B, B + 1 ≤ 600 → PairR B (B + 1) (fun h => p_X8_fault h) (fun h => p_X9_fault h)) (hn : ∀ B, B + 1 ≤ 600 → Pair B (B + 1) (fun h => p_X8_night h) (fun h => p_X9_night h)) : ∀ (f j : Nat) (h : Mem), INV j h → 5 * j ≤ L + 4 → L / 5 + 1 < f + j → Ok (p_L_law_L18 L xs f h ((5 * j : Nat) : Int)) := by
  intro f
  induction f with
  | zero => intro j h i h1 h2; omega
  | succ f ih =>
    intro j h i h1 h2
    simp only [p_L_law_L18]
    by_cases q : 5 * j + 5 ≤ L
    · refine law_step L xs hL (B := j) (by omega) (hf j (by omega)) (hn j (by omega)) i (5 * j) q _ ?_
      intro h' i'
      have := ih (j + 1) h' i' (by omega) (by omega)
      rw [show 5 * (j + 1) = 5 * j + 5 by omega] at this
      exact this
    · unfold p_L_law_18
      rw [wr_s (a := (L : Int) - 5) (by omega) (by omega), if_pos (by omega)]
      exact ⟨(1, h), rfl, rfl⟩
theorem VP_0 : VP 0 (fun _ => 0, fun _ => 0, 0, 0, fun _ => 0, 0) := ⟨Or.inl rfl, RI_0, fun _ => RI_0, Nat.le_refl 0⟩
theorem INV_0 : INV 0 h00 := by
  let P : Pg := (fun _ => 0, fun _ => 0, 0, 0, fun _ => 0, 0)
  have no : ∀ r : Nat, ¬ r < 0 := fun r h => by omega
  refine ⟨0, fun _ => 0, 0, fun _ => 0, fun _ => 0, fun _ => 0, 0, 0, fun _ => P, 0, P, 0, P, 0, fun _ => 0, fun _ => 0, fun _ => 0, 0, fun _ => 0, 0, ⟨⟨⟨by decide, rfl, rfl, fun r h => absurd h (no r), fun r h => absurd h (no r), fun r h => absurd h (no r)⟩, rfl, rfl, fun l _ => rfl⟩, ⟨⟨by decide, rfl, fun r h => absurd h (no r), fun r h => absurd h (no r), fun r h => absurd h (no r)⟩, rfl⟩, ⟨rfl, fun r h => absurd h (no r)⟩, Or.inl ⟨rfl, rfl⟩, Or.inl ⟨rfl, rfl⟩, ⟨by decide, rfl, fun r h => absurd h (no r), fun r h => absurd h (no r), fun r h => absurd h (no r)⟩, ⟨by decide, rfl, fun r h => absurd h (no r)⟩, rfl⟩, ⟨⟨fun r h => absurd h (no r), rfl, fun r h => absurd h (no r), rfl, fun l _ => rfl, rfl⟩, ⟨by decide, rfl, fun r h => absurd h (no r), ⟨by decide, rfl, fun r h => absurd h (no r), fun r h => absurd h (no r), fun r h => absurd h (no r)⟩, rfl⟩, ⟨rfl, fun r h => absurd h (no r)⟩, Or.inl ⟨rfl, rfl⟩, Or.inl ⟨rfl, rfl⟩, ⟨by decide, rfl, fun r h => absurd h (no r), fun r h => absurd h (no r), fun r h => absurd h (no r)⟩, ⟨rfl, fun r h => absurd h (no r)⟩, rfl⟩, by decide, by decide, by decide, fun j _ => VP_0, VP_0, VP_0⟩
theorem law_all (L : Nat) (xs : Nat → Int32) (hL : L ≤ 2560) (hf : ∀ B, B + 1 ≤ 600 → PairR B (B + 1) (fun h => p_X8_fault h) (fun h => p_X9_fault h)) (hn : ∀ B, B + 1 ≤ 600 → Pair B (B + 1) (fun h => p_X8_night h) (fun h => p_X9_night h)) : ∃ X : Int × Mem, X.1 = 1 ∧ p_L_law_L18 L xs 1000 h00 0 = some X := law_run L xs hL hf hn 1000 0 h00 INV_0 (by omega) (by omega)
