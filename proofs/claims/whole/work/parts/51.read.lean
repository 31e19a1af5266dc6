/-! ===== the reference reads the text ===== -/
def RV (m : Mem) (S : TS) : Prop := m 45 12 = (tn S : Int) ∧ m 45 13 = (tk S : Int) ∧ (∀ r : Nat, r < tn S → m 51 (4 * (r : Int)) = ((tc S r).val : Int) ∧ m 51 (4 * (r : Int) + 1) = ((tH S r).val : Int) ∧ m 51 (4 * (r : Int) + 2) = ((tS S r).val : Int) ∧ m 51 (4 * (r : Int) + 3) = ((tO S r).val : Int)) ∧ ∀ s : Nat, s < tk S → m 52 (3 * (s : Int)) = ((tri S s).val : Int) ∧ m 52 (3 * (s : Int) + 1) = ((tsp S s).val : Int) ∧ m 52 (3 * (s : Int) + 2) = ((two S s).val : Int)
section READ
variable {h h' g m : Mem} {tx : Nat} {by' : Nat → Fin 256} {S : TS} {p i : Nat}
theorem TM.md (v : TM h tx by') (s : Sm h h') : TM h' tx by' := v.same (s.1 46 (by decide) (by decide) (by decide) (by decide) (by decide) (by decide)) (s.2 2 (by decide))
theorem y_figure (v : TM m tx by') (htx : tx ≤ 48) (h3 : m 45 3 = (i : Int)) (hi : i ≤ tx) {lo hh : Int} (hlo : 0 ≤ lo) : p_X9_figure m lo hh = if Dg tx by' i lo hh then some (chr tx by' i - 48, up m 45 3 ((i : Int) + 1)) else some (-9, m) := by
  obtain ⟨v1, v2⟩ := v
  have cb := chr_b tx by' i
  unfold p_X9_figure
  rw [h3, v1]
  by_cases e : i = tx
  · subst e
    have e1 : chr i by' i = -1 := if_neg (by omega)
    rw [if_pos rfl, if_neg (fun z : Dg i by' i lo hh => by have := z.1; omega)]
  · have ec : chr tx by' i = ((by' i).val : Int) := if_pos (by omega)
    rw [if_neg (by omega), gd_w (by omega), v2 i (by omega), ← ec, wr_s (by omega) (by omega), m_in, bd_n]
    by_cases q : Dg tx by' i lo hh
    · rw [if01_t q, if_pos q, wr_1 (by omega), up_eq, wr_s (a := (i : Int) + 1 - 1) (by omega) (by omega), show (i : Int) + 1 - 1 = (i : Int) by omega, gd_w (by omega), up_c _ _ _ _ (by decide), v2 i (by omega), ← ec, wr_s (by omega) (by omega)]
    · rw [if01_f q, if_neg q]
theorem y_taken (v : RV m S) (n5 : tn S ≤ 5) (x : Int) : p_X9_isTaken m x = some (bi (∃ r, r < tn S ∧ ((tc S r).val : Int) = x)) := by
  obtain ⟨v1, v2, v3, v4⟩ := v
  unfold p_X9_isTaken
  refine loop_inv (fun f i a => p_X9_isTaken_L4 m f x a i) (tn S) (fun j a => a = bi (∃ r, r < j ∧ ((tc S r).val : Int) = x)) (fun o => o = some (bi (∃ r, r < tn S ∧ ((tc S r).val : Int) = x))) ?_ ?_ 300 0 0 (Nat.zero_le _) (by omega) (bi_f (fun ⟨r, y, _⟩ => by omega)).symm
  · intro f j a hj hI
    subst hI
    refine ⟨_, rfl, ?_⟩
    simp only [p_X9_isTaken_L4]
    unfold p_X9_isTaken_4
    rw [v1, if_neg (by omega)]
    by_cases q : ∃ r, r < j ∧ ((tc S r).val : Int) = x
    · rw [bi_t q, if_neg (by decide), bi_t (by obtain ⟨r, r1, r2⟩ := q; exact ⟨r, by omega, r2⟩)]
      unfold p_X9_isTaken_28 p_X9_isTaken_33
      rw [wr_1 (by omega)]
    · rw [bi_f q, if_pos rfl, wr_s (a := 4 * (j : Int)) (by omega) (by omega), gd_w (by omega), (v3 j hj).1]
      by_cases e : ((tc S j).val : Int) = x
      · rw [if_pos e, bi_t ⟨j, by omega, e⟩]
        unfold p_X9_isTaken_28 p_X9_isTaken_33
        rw [wr_1 (by omega)]
      · rw [if_neg e, bi_f (by
          rintro ⟨r, r1, r2⟩
          by_cases er : r = j
          · subst er; exact e r2
          · exact q ⟨r, by omega, r2⟩)]
        unfold p_X9_isTaken_33
        rw [wr_1 (by omega)]
  · intro f a hI
    subst hI
    simp only [p_X9_isTaken_L4]
    unfold p_X9_isTaken_4
    rw [v1, if_pos (by omega), gd_w (bi_01 _)]
/-- what reading may change -/
theorem Sm.rd (m : Mem) {f : Int} (hf : f = 3 ∨ f = 11 ∨ f = 12 ∨ f = 13) (a : Int) : Sm m (up m 45 f a) := Sm.up45 m (by omega) a
theorem y_fig1 (v : TM m tx by') (htx : tx ≤ 48) (h3 : m 45 3 = (i : Int)) (hi : i ≤ tx) {n l : Nat} (h12 : m 45 12 = (n : Int)) (hn : n < 5) (hl : l < 4) (hh : Int) (hb : hh ≤ 9) (K : Mem → Int → Option (Int × Mem)) : p_X9_readRoof_61 K m (l : Int) 0 hh = if Dg tx by' i 0 hh then K (up (up m 45 3 (((i + 1 : Nat) : Int))) 51 (((4 * n + l : Nat) : Int)) ((dv tx by' i : Nat) : Int)) (((l + 1 : Nat) : Int)) else some (0, m) := by
  unfold p_X9_readRoof_61
  rw [y_figure v htx h3 hi (by decide)]
  by_cases q : Dg tx by' i 0 hh
  · have ed := dv_of q
    rw [if_pos q, if_pos q, bd_n]
    simp only []
    have e12 : up m 45 3 ((i : Int) + 1) 45 12 = (n : Int) := by rw [up_k _ _ _ _ (by decide)]; exact h12
    simp only [e12]
    rw [if_neg (by omega), wr_s (a := 4 * (n : Int)) (by omega) (by omega), wr_s (a := 4 * (n : Int) + (l : Int)) (by omega) (by omega), gd_w (by omega), wr_1 (by omega), ed, show ((4 * n + l : Nat) : Int) = 4 * (n : Int) + (l : Int) by omega, show ((i + 1 : Nat) : Int) = (i : Int) + 1 by omega, show ((l + 1 : Nat) : Int) = (l : Int) + 1 by omega]
  · rw [if_neg q, if_neg q, bd_n]
    simp only []
    rw [if_pos trivial]
theorem rdS (f : Nat) (m : Mem) (l : Int) : p_X9_readRoof_L34 (f + 1) m l = p_X9_readRoof_34 (fun h l1 => p_X9_readRoof_L34 f h l1) m l := rfl
/-- four figures -/
theorem y_four (v : TM m tx by') (htx : tx ≤ 48) (h3 : m 45 3 = (i : Int)) (hi : i ≤ tx) {n : Nat} (h12 : m 45 12 = (n : Int)) (hn : n < 5) (f : Nat) : ∃ b m', p_X9_readRoof_L34 (f + 5) m 0 = some (b, m') ∧ Sm m m' ∧ (∀ z : Int, z ≠ 3 → z ≠ 12 → m' 45 z = m 45 z) ∧ m' 52 = m 52 ∧ (∀ z : Int, z < 4 * (n : Int) → m' 51 z = m 51 z) ∧
    ((b = 0 ∧ m' 45 3 = (if Dg tx by' i 0 9 then if Dg tx by' (i + 1) 0 9 then if Dg tx by' (i + 2) 0 1 then ((i + 3 : Nat) : Int) else ((i + 2 : Nat) : Int) else ((i + 1 : Nat) : Int) else ((i : Nat) : Int)) ∧ ¬ (Dg tx by' i 0 9 ∧ Dg tx by' (i + 1) 0 9 ∧ Dg tx by' (i + 2) 0 1 ∧ Dg tx by' (i + 3) 0 3)) ∨
     (b = 1 ∧ m' 45 3 = ((i + 4 : Nat) : Int) ∧ m' 45 12 = ((n + 1 : Nat) : Int) ∧ (Dg tx by' i 0 9 ∧ Dg tx by' (i + 1) 0 9 ∧ Dg tx by' (i + 2) 0 1 ∧ Dg tx by' (i + 3) 0 3) ∧ m' 51 (4 * (n : Int)) = ((dv tx by' i : Nat) : Int) ∧ m' 51 (4 * (n : Int) + 1) = ((dv tx by' (i + 1) : Nat) : Int) ∧ m' 51 (4 * (n : Int) + 2) = ((dv tx by' (i + 2) : Nat) : Int) ∧ m' 51 (4 * (n : Int) + 3) = ((dv tx by' (i + 3) : Nat) : Int))) := by
  have lt : ∀ (j : Nat) (hh : Int), Dg tx by' j 0 hh → j < tx := by
    intro j hh q
    have := q.1
    unfold chr at this
    split at this <;> omega
  have step : ∀ (m1 : Mem) (j l : Nat) (x : Int), Sm m m1 → m1 45 12 = (n : Int) → l < 4 → let d := up (up m1 45 3 ((j : Nat) : Int)) 51 (((4 * n + l : Nat) : Int)) x; Sm m d ∧ d 45 12 = (n : Int) ∧ d 45 3 = (j : Int) := by
    intro m1 j l x s1 s2 s3
    exact ⟨(s1.tr (Sm.rd m1 (Or.inl rfl) _)).tr (Sm.upr _ (by decide) _ _), by rw [up_c _ _ _ _ (by decide), up_k _ _ _ _ (by decide)]; exact s2, by rw [up_c _ _ _ _ (by decide), up_eq]⟩
  sorry
end READ
