/-! ===== what a town is, in numbers; who is in shade, who sees, who holds ===== -/
/-- a roof is in shade of those that stand -/
def Shd (n : Nat) (c H : Nat → Fin 10) (S : Int) (r : Nat) : Prop := ∃ o, o < n ∧ bb S o = true ∧ adf (c o).val (c r).val = 1 ∧ (H r).val + 3 < (H o).val
/-- a roof that stands sees a cell -/
def Sees (n : Nat) (c H : Nat → Fin 10) (S : Int) (x r : Nat) : Prop := r < n ∧ bb S r = true ∧ adf (c r).val x ≤ (H r).val / 4 ∧ ¬ Shd n c H S r
/-- by which number a law tells who holds -/
def key (law : Nat) (c H : Nat → Fin 10) (x r : Nat) : Nat := (if law = 0 then adf (c r).val x else if law = 1 then 9 - (H r).val else (H r).val) * 10 + (H r).val
/-- the least of them, the first of like ones -/
noncomputable def hld (P : Nat → Prop) (ky : Nat → Nat) : Nat → Int
  | 0 => -9
  | r + 1 => @ite Int (P r ∧ (hld P ky r = -9 ∨ ky r < ky (hld P ky r).toNat)) (Classical.propDecidable _) (r : Int) (hld P ky r)
theorem hld_t {P : Nat → Prop} {ky : Nat → Nat} {r : Nat} (h : P r ∧ (hld P ky r = -9 ∨ ky r < ky (hld P ky r).toNat)) : hld P ky (r + 1) = (r : Int) := if_pos h
theorem hld_f {P : Nat → Prop} {ky : Nat → Nat} {r : Nat} (h : ¬ (P r ∧ (hld P ky r = -9 ∨ ky r < ky (hld P ky r).toNat))) : hld P ky (r + 1) = hld P ky r := if_neg h
theorem hld_in (P : Nat → Prop) (ky : Nat → Nat) : ∀ r, hld P ky r = -9 ∨ ∃ j : Nat, j < r ∧ hld P ky r = (j : Int) ∧ P j
  | 0 => Or.inl rfl
  | r + 1 => by
    by_cases h : P r ∧ (hld P ky r = -9 ∨ ky r < ky (hld P ky r).toNat)
    · exact Or.inr ⟨r, by omega, hld_t h, h.1⟩
    · rw [hld_f h]
      rcases hld_in P ky r with q | ⟨j, q1, q2, q3⟩
      · exact Or.inl q
      · exact Or.inr ⟨j, by omega, q2, q3⟩
theorem hld_c {P Q : Nat → Prop} {ky : Nat → Nat} : ∀ {n : Nat}, (∀ k, k < n → (P k ↔ Q k)) → hld P ky n = hld Q ky n
  | 0, _ => rfl
  | n + 1, h => by
    have ih := hld_c (ky := ky) (n := n) (fun k hk => h k (by omega))
    have hn := h n (by omega)
    by_cases q : P n ∧ (hld P ky n = -9 ∨ ky n < ky (hld P ky n).toNat)
    · rw [hld_t q, hld_t (by rw [← ih, ← hn]; exact q)]
    · rw [hld_f q, hld_f (by rw [← ih, ← hn]; exact q), ih]
theorem hld_more {P : Nat → Prop} {ky : Nat → Nat} {n : Nat} (h : ∀ k, n ≤ k → ¬ P k) : ∀ m, hld P ky (n + m) = hld P ky n
  | 0 => rfl
  | m + 1 => by
    show hld P ky (n + m + 1) = _
    rw [hld_f (fun q => h (n + m) (by omega) q.1)]
    exact hld_more h m
/-- how many roofs smoke on a roof's cell or beside it -/
noncomputable def smk (n : Nat) (c : Nat → Fin 10) (S sm : Int) (r : Nat) : Nat := cnt (fun o => bb S o = true ∧ bb sm o = true ∧ adf (c o).val (c r).val ≤ 1) n
/-- the town t in the memory h -/
def TV (h : Mem) (t n : Nat) (c H : Nat → Fin 10) (ow : Nat → Fin 4) (sm : Int) : Prop := n ≤ 5 ∧ h t 4 = (n : Int) ∧ h t 5 = sm ∧ (∀ r : Nat, r < n → h (t + 1) (r : Int) = ((c r).val : Int)) ∧ (∀ r : Nat, r < n → h (t + 2) (r : Int) = ((H r).val : Int)) ∧ ∀ r : Nat, r < n → h (t + 3) (r : Int) = ((ow r).val : Int)
theorem TV.same {h h' : Mem} {t n : Nat} {c H : Nat → Fin 10} {ow : Nat → Fin 4} {sm : Int} (v : TV h t n c H ow sm) (e0 : h' t = h t) (e1 : h' (t + 1) = h (t + 1)) (e2 : h' (t + 2) = h (t + 2)) (e3 : h' (t + 3) = h (t + 3)) : TV h' t n c H ow sm := by
  unfold TV at *
  rw [e0, e1, e2, e3]
  exact v
theorem bset_in {P : Nat → Prop} {n : Nat} : ∀ m, bset (fun r => r < n ∧ P r) (n + m) = bset P n
  | 0 => bset_c (fun k hk => ⟨fun q => q.2, fun q => ⟨hk, q⟩⟩)
  | m + 1 => by
    show bset _ (n + m + 1) = _
    rw [bset_f (fun q => by omega)]
    exact bset_in m
theorem bset_5 {P : Nat → Prop} {n : Nat} (hn : n ≤ 5) : bset (fun r => r < n ∧ P r) 5 = bset P n := by
  have := bset_in (P := P) (n := n) (5 - n)
  rw [show n + (5 - n) = 5 by omega] at this
  exact this
theorem t_hasRoof (h : Mem) (t : Nat) (r : Int) (h5 : h t 4 ≤ 5) : p_X6_hasRoof h t r = some (if 0 ≤ r ∧ r < h t 4 then 1 else 0) := by
  unfold p_X6_hasRoof
  grind
section TOWN
variable {h : Mem} {t n : Nat} {c H : Nat → Fin 10} {ow : Nat → Fin 4} {sm : Int}
theorem t_has (v : TV h t n c H ow sm) {r : Nat} (hr : r < n) : p_X6_hasRoof h t (r : Int) = some 1 := by
  rw [t_hasRoof _ _ _ (by rw [v.2.1]; have := v.1; omega), v.2.1, if_pos ⟨by omega, by omega⟩]
theorem t_hasR (v : TV h t n c H ow sm) (r : Int) : p_X6_hasRoof h t r = some (if 0 ≤ r ∧ r < (n : Int) then 1 else 0) := by
  rw [t_hasRoof _ _ _ (by rw [v.2.1]; have := v.1; omega), v.2.1]
theorem t_hasN (v : TV h t n c H ow sm) {r : Nat} (hr : ¬ r < n) : p_X6_hasRoof h t (r : Int) = some 0 := by
  rw [t_hasR v, if_neg (fun q => by omega)]
theorem t_distN (v : TV h t n c H ow sm) {r : Nat} (hr : ¬ r < n) (x : Int) : p_X6_distance h t (r : Int) x = some 10 := by
  unfold p_X6_distance
  rw [t_hasN v hr]
  rw [bd_n, if_pos rfl]
theorem t_distance (v : TV h t n c H ow sm) {r x : Nat} (hr : r < n) (hx : x ≤ 9) : p_X6_distance h t (r : Int) (x : Int) = some ((adf (c r).val x : Nat) : Int) := by
  obtain ⟨hn, h4, h5, hc, hH, ho⟩ := id v
  unfold p_X6_distance
  rw [t_has v hr]
  simp (disch := omega) only [bd_s, if_neg, gd_w, hc, wr_s, babs]
  congr 1
  unfold adf
  by_cases q : (c r).val ≤ x
  · by_cases q2 : (0 : Int) ≤ ((c r).val : Int) - x
    · rw [if_pos q2, if_pos q]; omega
    · rw [if_neg q2, if_pos q]; omega
  · rw [if_pos (by omega), if_neg q]; omega
theorem wr_1 {k : Nat} (h : k < 1000000) : wr ((k : Int) + 1) = (k : Int) + 1 := wr_s (by omega) (by omega)
/-- all roofs -/
def AL (n : Nat) : Int := wr (bshl 1 (n : Int) - 1)
theorem bb_AL {n i : Nat} (hn : n ≤ 5) (hi : i < 32) : bb (AL n) i = decide (i < n) := bb_all n (by omega) i hi
theorem t_every (v : TV h t n c H ow sm) : p_X6_everyRoof h t = some (AL n) := by
  unfold p_X6_everyRoof AL
  rw [v.2.1]
theorem t_isShaded (v : TV h t n c H ow sm) {r : Nat} (hr : r < n) (S : Int) : p_X6_isShaded h t (r : Int) S = some (bi (Shd n c H S r)) := by
  obtain ⟨hn, h4, h5, hc, hH, ho⟩ := id v
  unfold p_X6_isShaded
  rw [t_has v hr]
  simp only [bd_s]
  rw [if_neg (by decide)]
  have key := loop_any (fun f i => p_X6_isShaded_L12 h t f (r : Int) S i) 5 (fun o => o < n ∧ bb S o = true ∧ adf (c o).val (c r).val = 1 ∧ (H r).val + 3 < (H o).val) (some 1) (some 0) ?_ ?_ ?_ 300 0 (Nat.zero_le _) (by omega)
  · refine Eq.trans key ?_
    by_cases hq : Shd n c H S r
    · rw [bi_t hq, if_pos]
      obtain ⟨o, q1, q2⟩ := hq
      exact ⟨o, Nat.zero_le _, by omega, q1, q2⟩
    · rw [bi_f hq, if_neg]
      rintro ⟨o, -, -, q1, q2⟩
      exact hq ⟨o, q1, q2⟩
  · intro f o hlt5 hnP
    simp only [p_X6_isShaded_L12]
    unfold p_X6_isShaded_12
    rw [if_neg (by omega)]
    by_cases hb : bb S o = true
    · rw [if_neg (by rw [hb_0 S (by omega), hb]; decide), gd_w (by omega), hc r hr]
      by_cases hlt : o < n
      · have ho' := hc o hlt
        rw [t_distance v hlt (by omega)]
        simp only [bd_s]
        by_cases hd : adf (c o).val (c r).val = 1
        · rw [if_pos (by omega)]
          unfold p_X6_isShaded_45
          rw [if_neg (by decide), gd_w (by omega), gd_w (by omega), hH o hlt, hH r hr, wr_s (by omega) (by omega), if_pos (by
            have : ¬ (H r).val + 3 < (H o).val := fun z => hnP ⟨hlt, hb, hd, z⟩
            omega)]
          unfold p_X6_isShaded_71
          rw [wr_s (by omega) (by omega)]
        · rw [if_neg (by omega)]
          unfold p_X6_isShaded_44 p_X6_isShaded_45
          rw [if_pos rfl]
          unfold p_X6_isShaded_71
          rw [wr_s (by omega) (by omega)]
      · rw [t_distN v hlt]
        simp only [bd_s]
        rw [if_neg (by decide)]
        unfold p_X6_isShaded_44 p_X6_isShaded_45
        rw [if_pos rfl]
        unfold p_X6_isShaded_71
        rw [wr_s (by omega) (by omega)]
    · rw [if_pos (by rw [hb_0 S (by omega)]; simpa using hb)]
      unfold p_X6_isShaded_44 p_X6_isShaded_45
      rw [if_pos rfl]
      unfold p_X6_isShaded_71
      rw [wr_s (by omega) (by omega)]
  · intro f o hlt5 hP
    obtain ⟨hlt, hb, hd, hh⟩ := hP
    simp only [p_X6_isShaded_L12]
    unfold p_X6_isShaded_12
    rw [if_neg (by omega), if_neg (by rw [hb_0 S (by omega), hb]; decide), gd_w (by omega), hc r hr, t_distance v hlt (by omega)]
    simp only [bd_s]
    rw [if_pos (by omega)]
    unfold p_X6_isShaded_45
    rw [if_neg (by decide), gd_w (by omega), gd_w (by omega), hH o hlt, hH r hr, wr_s (by omega) (by omega), if_neg (by omega)]
  · intro f
    simp only [p_X6_isShaded_L12]
    unfold p_X6_isShaded_12
    rw [if_pos (by omega)]
theorem t_isShadedN (v : TV h t n c H ow sm) {r : Nat} (hr : ¬ r < n) (S : Int) : p_X6_isShaded h t (r : Int) S = some 0 := by
  unfold p_X6_isShaded
  rw [t_hasN v hr]
  rw [bd_n, if_pos rfl]
theorem t_shadedRoofs (v : TV h t n c H ow sm) : p_X6_shadedRoofs h t = some (bset (fun r => Shd n c H (AL n) r) n) := by
  obtain ⟨hn, h4, h5, hc, hH, ho⟩ := id v
  unfold p_X6_shadedRoofs
  rw [← bset_5 (P := fun r => Shd n c H (AL n) r) hn]
  refine loop_up (fun f i a => p_X6_shadedRoofs_L4 h t f a i) (bset (fun r => r < n ∧ Shd n c H (AL n) r)) 5 _ ?_ ?_ 300 0 (Nat.zero_le _) (by omega)
  · intro f r hr5
    simp only [p_X6_shadedRoofs_L4]
    unfold p_X6_shadedRoofs_4
    rw [if_neg (by omega), t_every v]
    simp only [bd_s]
    by_cases hr : r < n
    · rw [t_isShaded v hr]
      simp only [bd_s]
      by_cases q : Shd n c H (AL n) r
      · rw [bi_t q, if_neg (by decide), bset_t (P := fun r => r < n ∧ Shd n c H (AL n) r) ⟨hr, q⟩]
        unfold p_X6_shadedRoofs_27
        rw [wr_1 (by omega)]
      · rw [bi_f q, if_pos rfl, bset_f (P := fun r => r < n ∧ Shd n c H (AL n) r) (fun z => q z.2)]
        unfold p_X6_shadedRoofs_27
        rw [wr_1 (by omega)]
    · rw [t_isShadedN v hr]
      rw [bd_n, if_pos rfl, bset_f (P := fun r => r < n ∧ Shd n c H (AL n) r) (fun z => hr z.1)]
      unfold p_X6_shadedRoofs_27
      rw [wr_1 (by omega)]
  · intro f
    simp only [p_X6_shadedRoofs_L4]
    unfold p_X6_shadedRoofs_4
    rw [if_pos (by omega)]
theorem qdiv_n {a b : Nat} (ha : a < 1000000) (hb : 0 < b) (hb2 : b < 1000000) : qdiv (a : Int) (b : Int) = ((a / b : Nat) : Int) := by
  unfold qdiv
  rw [I3_nat, I3_nat, pk_div (by omega) hb (by omega), nI_toInt (Nat.lt_of_le_of_lt (Nat.div_le_self a b) (by omega))]
theorem qrem_n {a b : Nat} (ha : a < 2147483648) (hb : 0 < b) (hb2 : b < 2147483648) : qrem (a : Int) (b : Int) = ((a % b : Nat) : Int) := by
  unfold qrem
  rw [I3_nat, I3_nat, pk_rem (by omega) hb (by omega), nI_toInt (Nat.lt_of_lt_of_le (Nat.mod_lt a hb) (by omega))]
/-- the cells that a roof sees if S stands -/
theorem t_cellsSeen (v : TV h t n c H ow sm) {r : Nat} (hr : r < n) (S : Int) : p_X6_cellsSeen h t (r : Int) S = some (bset (fun x => adf (c r).val x ≤ (H r).val / 4 ∧ ¬ Shd n c H S r) 10) := by
  obtain ⟨hn, h4, h5, hc, hH, ho⟩ := id v
  unfold p_X6_cellsSeen
  rw [t_has v hr]
  simp only [bd_s]
  rw [if_neg (by decide), t_isShaded v hr]
  simp only [bd_s]
  by_cases q : Shd n c H S r
  · rw [bi_t q, if_neg (by decide), bset_none (fun x _ z => z.2 q)]
  · rw [bi_f q, if_pos rfl, gd_w (by omega), hH r hr, show (4 : Int) = ((4 : Nat) : Int) from rfl, qdiv_n (by omega) (by omega) (by omega)]
    refine loop_up (fun f i a => p_X6_cellsSeen_L34 h t f (r : Int) (((H r).val / 4 : Nat) : Int) a i) (bset (fun x => adf (c r).val x ≤ (H r).val / 4 ∧ ¬ Shd n c H S r)) 10 _ ?_ ?_ 300 0 (Nat.zero_le _) (by omega)
    · intro f x hx
      simp only [p_X6_cellsSeen_L34]
      unfold p_X6_cellsSeen_34
      rw [if_neg (by omega), t_distance v hr (by omega)]
      simp only [bd_s]
      by_cases z : adf (c r).val x ≤ (H r).val / 4
      · rw [if_neg (by omega), bset_t ⟨z, q⟩]
        unfold p_X6_cellsSeen_61
        rw [wr_s (by omega) (by omega)]
      · rw [if_pos (by omega), bset_f (fun w => z w.1)]
        unfold p_X6_cellsSeen_61
        rw [wr_s (by omega) (by omega)]
    · intro f
      simp only [p_X6_cellsSeen_L34]
      unfold p_X6_cellsSeen_34
      rw [if_pos (by decide)]
theorem cnt_in {P : Nat → Prop} {n : Nat} : ∀ m, cnt (fun r => r < n ∧ P r) (n + m) = cnt P n
  | 0 => cnt_c (fun k hk => ⟨fun q => q.2, fun q => ⟨hk, q⟩⟩)
  | m + 1 => by
    show cnt _ (n + m + 1) = _
    rw [cnt_f (fun q => by omega)]
    exact cnt_in m
theorem cnt_5 {P : Nat → Prop} {n : Nat} (hn : n ≤ 5) : cnt (fun r => r < n ∧ P r) 5 = cnt P n := by
  have := cnt_in (P := P) (n := n) (5 - n)
  rw [show n + (5 - n) = 5 by omega] at this
  exact this
theorem t_smokeAround (v : TV h t n c H ow sm) {r : Nat} (hr : r < n) (S : Int) : p_X6_smokeAround h t (r : Int) S = some ((smk n c S sm r : Nat) : Int) := by
  obtain ⟨hn, h4, h5, hc, hH, ho⟩ := id v
  unfold p_X6_smokeAround smk
  rw [← cnt_5 (P := fun o => bb S o = true ∧ bb sm o = true ∧ adf (c o).val (c r).val ≤ 1) hn]
  refine loop_up (fun f i a => p_X6_smokeAround_L5 h t f (r : Int) S a i) (fun k => ((cnt (fun o => o < n ∧ bb S o = true ∧ bb sm o = true ∧ adf (c o).val (c r).val ≤ 1) k : Nat) : Int)) 5 _ ?_ ?_ 300 0 (Nat.zero_le _) (by omega)
  · intro f o hlt5
    have hle := cnt_le (fun o => o < n ∧ bb S o = true ∧ bb sm o = true ∧ adf (c o).val (c r).val ≤ 1) o
    simp only [p_X6_smokeAround_L5]
    unfold p_X6_smokeAround_5
    rw [if_neg (by omega), t_has v hr]
    simp only [bd_s]
    rw [if_neg (by decide), h5]
    by_cases z : bb S o = true ∧ bb sm o = true
    · rw [if_neg (by rw [and_bit _ (by omega), bb_and, z.1, z.2]; decide)]
      unfold p_X6_smokeAround_38
      rw [if_neg (by decide), gd_w (by omega), hc r hr]
      by_cases hlt : o < n
      · rw [t_distance v hlt (by omega)]
        simp only [bd_s]
        by_cases w : adf (c o).val (c r).val ≤ 1
        · rw [if_neg (by omega), cnt_t (P := fun o => o < n ∧ bb S o = true ∧ bb sm o = true ∧ adf (c o).val (c r).val ≤ 1) ⟨hlt, z.1, z.2, w⟩]
          unfold p_X6_smokeAround_64
          rw [wr_s (by omega) (by omega), wr_s (by omega) (by omega)]
          simp
        · rw [if_pos (by omega), cnt_f (P := fun o => o < n ∧ bb S o = true ∧ bb sm o = true ∧ adf (c o).val (c r).val ≤ 1) (fun y => w y.2.2.2)]
          unfold p_X6_smokeAround_64
          rw [wr_s (by omega) (by omega)]
      · rw [t_distN v hlt]
        simp only [bd_s]
        rw [if_pos (by decide), cnt_f (P := fun o => o < n ∧ bb S o = true ∧ bb sm o = true ∧ adf (c o).val (c r).val ≤ 1) (fun y => hlt y.1)]
        unfold p_X6_smokeAround_64
        rw [wr_s (by omega) (by omega)]
    · rw [if_pos (by
        rw [and_bit _ (by omega), bb_and]
        cases h1 : bb S o <;> cases h2 : bb sm o <;> simp_all), cnt_f (P := fun o => o < n ∧ bb S o = true ∧ bb sm o = true ∧ adf (c o).val (c r).val ≤ 1) (fun y => z ⟨y.2.1, y.2.2.1⟩)]
      unfold p_X6_smokeAround_38
      rw [if_pos rfl]
      unfold p_X6_smokeAround_64
      rw [wr_s (by omega) (by omega)]
  · intro f
    simp only [p_X6_smokeAround_L5]
    unfold p_X6_smokeAround_5
    rw [if_pos (by omega)]
theorem t_goesAhead (v : TV h t n c H ow sm) {r b x law : Nat} (hr : r < n) (hb : b < n) (hx : x ≤ 9) : p_X6_goesAhead h t (r : Int) (b : Int) (law : Int) (x : Int) = some (bi (key law c H x r < key law c H x b)) := by
  obtain ⟨hn, h4, h5, hc, hH, ho⟩ := id v
  have fin : ∀ d : Int, RI d → (0 < d ∨ (d = 0 ∧ (H r).val < (H b).val) ↔ key law c H x r < key law c H x b) → p_X6_goesAhead_65 h t (r : Int) (b : Int) d = some (bi (key law c H x r < key law c H x b)) := by
    intro d _ hd
    unfold p_X6_goesAhead_65
    by_cases z : d = 0
    · rw [if_pos z, gd_w (by omega), gd_w (by omega), hH r hr, hH b hb]
      by_cases w : (H r).val < (H b).val
      · rw [if_neg (by omega), bi_t (hd.mp (Or.inr ⟨z, w⟩))]
      · rw [if_pos (by omega), bi_f (fun y => by rcases hd.mpr y with q | q <;> omega)]
    · rw [if_neg z]
      by_cases w : d ≤ 0
      · rw [if_pos w, bi_f (fun y => by rcases hd.mpr y with q | q <;> omega)]
      · rw [if_neg w, bi_t (hd.mp (Or.inl (by omega)))]
  unfold p_X6_goesAhead
  rw [t_has v hr]
  simp only [bd_s]
  rw [if_neg (by decide), t_has v hb]
  simp only [bd_s]
  rw [if_neg (by decide)]
  have a1 : adf (c r).val x ≤ 9 := by unfold adf; split <;> omega
  have a2 : adf (c b).val x ≤ 9 := by unfold adf; split <;> omega
  by_cases l0 : law = 0
  · subst l0
    rw [if_pos (by decide), t_distance v hb hx]
    simp only [bd_s]
    rw [t_distance v hr hx]
    simp only [bd_s]
    rw [wr_s (by omega) (by omega)]
    refine fin _ ⟨by omega, by omega⟩ ?_
    unfold key
    rw [if_pos rfl, if_pos rfl]
    omega
  · rw [if_neg (by omega)]
    by_cases l1 : law = 1
    · subst l1
      rw [if_pos (by decide), gd_w (by omega), gd_w (by omega), hH r hr, hH b hb, wr_s (by omega) (by omega)]
      refine fin _ ⟨by omega, by omega⟩ ?_
      unfold key
      rw [if_neg (by decide), if_pos rfl, if_neg (by decide), if_pos rfl]
      omega
    · rw [if_neg (by omega)]
      refine fin _ RI_0 ?_
      unfold key
      rw [if_neg l0, if_neg l1, if_neg l0, if_neg l1]
      omega
theorem t_roofsOf (v : TV h t n c H ow sm) (o : Int) : p_X6_roofsOf h t o = some (bset (fun r => ((ow r).val : Int) = o) n) := by
  obtain ⟨hn, h4, h5, hc, hH, ho⟩ := id v
  unfold p_X6_roofsOf
  rw [← bset_5 (P := fun r => ((ow r).val : Int) = o) hn]
  refine loop_up (fun f i a => p_X6_roofsOf_L4 h t f o a i) (bset (fun r => r < n ∧ ((ow r).val : Int) = o)) 5 _ ?_ ?_ 300 0 (Nat.zero_le _) (by omega)
  · intro f r hr5
    simp only [p_X6_roofsOf_L4]
    unfold p_X6_roofsOf_4
    rw [if_neg (by omega)]
    by_cases hr : r < n
    · rw [t_has v hr]
      simp only [bd_s]
      rw [if_neg (by decide), gd_w (by omega), ho r hr]
      by_cases z : ((ow r).val : Int) = o
      · rw [if_pos z, bset_t (P := fun r => r < n ∧ ((ow r).val : Int) = o) ⟨hr, z⟩]
        unfold p_X6_roofsOf_33
        rw [wr_s (by omega) (by omega)]
      · rw [if_neg z, bset_f (P := fun r => r < n ∧ ((ow r).val : Int) = o) (fun y => z y.2)]
        unfold p_X6_roofsOf_33
        rw [wr_s (by omega) (by omega)]
    · rw [t_hasN v hr]
      rw [bd_n, if_pos rfl, bset_f (P := fun r => r < n ∧ ((ow r).val : Int) = o) (fun y => hr y.1)]
      unfold p_X6_roofsOf_33
      rw [wr_s (by omega) (by omega)]
  · intro f
    simp only [p_X6_roofsOf_L4]
    unfold p_X6_roofsOf_4
    rw [if_pos (by omega)]
end TOWN
