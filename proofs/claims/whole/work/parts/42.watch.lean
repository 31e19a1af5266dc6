/-! ===== found, look ===== -/
def WV (h : Mem) (w : Nat) (ce ho : Nat → Fin 10) (sh : Nat → Fin 2) : Prop := w ≤ 6 ∧ h 37 3 = (w : Int) ∧ (∀ j : Nat, j < w → h 38 (j : Int) = ((ce j).val : Int)) ∧ (∀ j : Nat, j < w → h 39 (j : Int) = ((ho j).val : Int)) ∧ ∀ j : Nat, j < w → h 40 (j : Int) = ((sh j).val : Int)
def WM (h : Mem) (w : Nat) (ce ho : Nat → Fin 10) (sh : Nat → Fin 2) : Prop := w ≤ 6 ∧ h 45 22 = (w : Int) ∧ (∀ j : Nat, j < w → h 58 (j : Int) = ((ce j).val : Int)) ∧ (∀ j : Nat, j < w → h 59 (j : Int) = ((ho j).val : Int)) ∧ ∀ j : Nat, j < w → h 60 (j : Int) = ((sh j).val : Int)
def Ovr (u x t : Nat) : Prop := (u / 4 + u % 4 * t) % 10 = x
def Fit (w : Nat) (ce ho : Nat → Fin 10) (sh : Nat → Fin 2) (u : Nat) : Prop := ∀ j, j < w → (Ovr u (ce j).val (ho j).val ↔ (sh j).val = 1)
/-- how many of the fitting are over a place -/
def Kp (P : Nat → Prop) (p u : Nat) : Prop := P u ∧ Ovr u (p % 10) (p / 10)
noncomputable def Kg (P : Nat → Prop) (p : Nat) : Nat := if cnt (Kp P p) 40 ≤ cnt P 40 - cnt (Kp P p) 40 then cnt P 40 - cnt (Kp P p) 40 else cnt (Kp P p) 40
theorem cnt_sub {P Q : Nat → Prop} (h : ∀ u, Q u → P u) : ∀ n, cnt Q n ≤ cnt P n
  | 0 => Nat.le_refl 0
  | n + 1 => by
    have ih := cnt_sub h n
    by_cases q : Q n
    · rw [cnt_t q, cnt_t (h n q)]; omega
    · rw [cnt_f q]
      by_cases p : P n
      · rw [cnt_t p]; omega
      · rw [cnt_f p]; exact ih
theorem Kg_le (P : Nat → Prop) (p : Nat) : Kg P p ≤ 40 := by
  have := cnt_le P 40
  have := cnt_le (Kp P p) 40
  unfold Kg
  split <;> omega
noncomputable def s_found (P : Nat → Prop) (w : Int) : Int := if 0 ≤ w ∧ w ≤ 1 then if w = 0 then ((cnt P 40 : Nat) : Int) else fromF P (fun u => ((10 * (u / 4) + u % 4 : Nat) : Int)) (-9) 40 0 else -2
noncomputable def s_look (P : Nat → Prop) : Int := if cnt P 40 = 0 then -9 else hld (fun _ => True) (Kg P) 100
section WATCH
variable {h h' g : Mem} {w : Nat} {ce ho : Nat → Fin 10} {sh : Nat → Fin 2}
theorem x_isOver (h : Mem) {u x t : Nat} (hu : u < 40) (ht : t < 10) : p_X7_isOver h (u : Int) (x : Int) (t : Int) = some (bi (Ovr u x t)) := by
  unfold p_X7_isOver
  rw [show (4 : Int) = ((4 : Nat) : Int) from rfl, qdiv_n (by omega) (by omega) (by omega), qrem_n (by omega) (by omega) (by omega), t_walk h (by omega) (by omega) (by omega), bd_n]
  by_cases q : Ovr u x t
  · have : (u / 4 + u % 4 * t) % 10 = x := q
    rw [bi_t q, if_pos (by omega)]
  · have : ¬ (u / 4 + u % 4 * t) % 10 = x := q
    rw [bi_f q, if_neg (by omega)]
theorem y_isOver (h : Mem) {u x t : Nat} (hu : u < 40) (ht : t < 10) : p_X9_isOver h (u : Int) (t : Int) (x : Int) = some (bi (Ovr u x t)) := by
  have hb : u % 4 * t ≤ 3 * 9 := Nat.mul_le_mul (by omega) (by omega)
  unfold p_X9_isOver
  rw [show (4 : Int) = ((4 : Nat) : Int) from rfl, qdiv_n (by omega) (by omega) (by omega), qrem_n (by omega) (by omega) (by omega), ← Int.natCast_mul, wr_s (a := ((u % 4 * t : Nat) : Int)) (by omega) (by omega), ← Int.natCast_add, wr_s (by omega) (by omega), show (10 : Int) = ((10 : Nat) : Int) from rfl, qrem_n (by omega) (by omega) (by omega)]
  by_cases q : Ovr u x t
  · have : (u / 4 + u % 4 * t) % 10 = x := q
    rw [bi_t q, if_pos (by omega)]
  · have : ¬ (u / 4 + u % 4 * t) % 10 = x := q
    rw [bi_f q, if_neg (by omega)]
theorem bi_sh {P : Prop} {s : Fin 2} : bi P = ((s.val : Nat) : Int) ↔ (P ↔ s.val = 1) := by
  by_cases q : P
  · rw [bi_t q]
    constructor
    · intro h; exact ⟨fun _ => by omega, fun _ => q⟩
    · intro h; have := h.mp q; omega
  · rw [bi_f q]
    constructor
    · intro h; exact ⟨fun z => absurd z q, fun z => by omega⟩
    · intro h
      have : ¬ s.val = 1 := fun z => q (h.mpr z)
      omega
theorem x_fits (v : WV h w ce ho sh) {u : Nat} (hu : u < 40) : p_X7_fits h (u : Int) = some (bi (Fit w ce ho sh u)) := by
  obtain ⟨hw, v1, v2, v3, v4⟩ := v
  unfold p_X7_fits
  have key := loop_any (fun f i => p_X7_fits_L2 h f (u : Int) i) w (fun j => ¬ (Ovr u (ce j).val (ho j).val ↔ (sh j).val = 1)) (some 0) (some 1) ?_ ?_ ?_ 300 0 (Nat.zero_le _) (by omega)
  · refine Eq.trans key ?_
    by_cases q : Fit w ce ho sh u
    · rw [bi_t q, if_neg]
      rintro ⟨j, -, j1, j2⟩
      exact j2 (q j j1)
    · rw [bi_f q, if_pos]
      apply Classical.byContradiction
      intro y
      apply q
      intro j hj
      apply Classical.byContradiction
      intro z
      exact y ⟨j, Nat.zero_le _, hj, z⟩
  · intro f j hj hP
    have hP := Classical.not_not.mp hP
    simp only [p_X7_fits_L2]
    unfold p_X7_fits_2
    rw [v1, if_neg (by omega), if_neg (by omega), gd_w (by omega), gd_w (by omega), v2 j hj, v3 j hj, x_isOver h hu (by omega), bd_n, gd_w (by omega), v4 j hj, if_pos (bi_sh.mpr hP), wr_1 (by omega)]
  · intro f j hj hP
    simp only [p_X7_fits_L2]
    unfold p_X7_fits_2
    rw [v1, if_neg (by omega), if_neg (by omega), gd_w (by omega), gd_w (by omega), v2 j hj, v3 j hj, x_isOver h hu (by omega), bd_n, gd_w (by omega), v4 j hj, if_neg (fun z => hP (bi_sh.mp z))]
  · intro f
    simp only [p_X7_fits_L2]
    unfold p_X7_fits_2
    rw [v1, if_pos (by omega)]
theorem x_fitting (v : WV h w ce ho sh) : p_X7_fittingStars h = some ((nb (Fit w ce ho sh) 40 : Nat) : Int) := by
  unfold p_X7_fittingStars
  refine loop_up (fun f i a => p_X7_fittingStars_L4 h f a i) (fun j => ((nb (Fit w ce ho sh) j : Nat) : Int)) 40 _ ?_ ?_ 300 0 (Nat.zero_le _) (by omega)
  · intro f u hu
    simp only [p_X7_fittingStars_L4]
    unfold p_X7_fittingStars_4
    rw [if_neg (by omega), x_fits v hu, bd_n]
    unfold p_X7_fittingStars_24
    by_cases q : Fit w ce ho sh u
    · rw [bi_t q, if_neg (by decide), wr_1 (by omega), nb_put _ hu q]
    · rw [bi_f q, if_pos rfl, wr_1 (by omega), nb_skip _ q]
  · intro f
    simp only [p_X7_fittingStars_L4]
    unfold p_X7_fittingStars_4
    rw [if_pos (by decide)]
theorem x_found (v : WV h w ce ho sh) (i : Int) : p_X8_found h i = some (s_found (Fit w ce ho sh) i) := by
  unfold p_X8_found s_found
  by_cases i0 : i < 0
  · rw [if_pos i0, if_neg (by omega)]
  · rw [if_neg i0]
    by_cases i1 : i ≤ 1
    · rw [if_pos i1, if_pos (show 0 ≤ i ∧ i ≤ 1 from ⟨by omega, i1⟩), x_fitting v, bd_n, j_long, bd_n]
      have e : p_X7_firstOf h ((nb (Fit w ce ho sh) 40 : Nat) : Int) = some (fromF (Fit w ce ho sh) (fun u => ((10 * (u / 4) + u % 4 : Nat) : Int)) (-9) 40 0) := by
        unfold p_X7_firstOf
        rw [← fromF_map _ (fun o => some o)]
        refine loop_first (fun f i => p_X7_firstOf_L2 h f ((nb (Fit w ce ho sh) 40 : Nat) : Int) i) 40 (Fit w ce ho sh) _ _ ?_ ?_ ?_ 300 0 (Nat.zero_le _) (by omega)
        · intro f u hu hP
          simp only [p_X7_firstOf_L2]
          unfold p_X7_firstOf_2
          rw [if_neg (by omega), if_pos ((nb_has _ hu).mpr hP), wr_1 (by omega)]
        · intro f u hu hP
          simp only [p_X7_firstOf_L2]
          unfold p_X7_firstOf_2 p_X7_firstOf_18
          rw [if_neg (by omega), if_neg (fun z => (nb_has _ hu).mp z hP), show (4 : Int) = ((4 : Nat) : Int) from rfl, qdiv_n (by omega) (by omega) (by omega), qrem_n (by omega) (by omega) (by omega), wr_s (a := 10 * ((u / 4 : Nat) : Int)) (by omega) (by omega), wr_s (by omega) (by omega)]
          rfl
        · intro f
          simp only [p_X7_firstOf_L2]
          unfold p_X7_firstOf_2
          rw [if_pos (by decide)]
      rw [e, bd_n]
      split <;> rfl
    · rw [if_neg i1, if_neg (by omega)]
theorem x_greater (h : Mem) (P : Nat → Prop) {p : Nat} (hp : p < 100) : p_X7_greaterPart h ((nb P 40 : Nat) : Int) ((p / 10 : Nat) : Int) ((p % 10 : Nat) : Int) = some ((Kg P p : Nat) : Int) := by
  have c1 := cnt_le P 40
  have c2 := cnt_sub (P := P) (Q := Kp P p) (fun u q => q.1) 40
  unfold p_X7_greaterPart
  refine loop_up (fun f i a => p_X7_greaterPart_L6 h f ((nb P 40 : Nat) : Int) ((p / 10 : Nat) : Int) ((p % 10 : Nat) : Int) a i) (fun j => ((cnt (Kp P p) j : Nat) : Int)) 40 _ ?_ ?_ 300 0 (Nat.zero_le _) (by omega)
  · intro f u hu
    have cl := cnt_le (Kp P p) u
    simp only [p_X7_greaterPart_L6]
    unfold p_X7_greaterPart_6 p_X7_greaterPart_37
    rw [if_neg (by omega), wr_1 (by omega)]
    by_cases q : P u
    · rw [if_neg (fun z => (nb_has _ hu).mp z q), x_isOver h hu (by omega), bd_n]
      by_cases z : Ovr u (p % 10) (p / 10)
      · rw [bi_t z, if_neg (by decide), cnt_t ⟨q, z⟩, wr_1 (by omega)]
        rfl
      · rw [bi_f z, if_pos rfl, cnt_f (fun y => z y.2)]
    · rw [if_pos ((nb_has _ hu).mpr q), cnt_f (fun y => q y.1)]
  · intro f
    simp only [p_X7_greaterPart_L6]
    unfold p_X7_greaterPart_6 p_X7_greaterPart_43
    rw [if_pos (by decide), j_long, bd_n, wr_s (by omega) (by omega)]
    unfold bmax Kg
    congr 1
    split
    · split <;> omega
    · split <;> omega
theorem x_look (v : WV h w ce ho sh) : p_X8_look h = some (s_look (Fit w ce ho sh)) := by
  unfold p_X8_look p_X7_bestLook s_look
  rw [x_fitting v, bd_n]
  generalize Fit w ce ho sh = P
  have nz : nb P 40 = 0 ↔ cnt P 40 = 0 := by rw [nb_0, cnt_0]
  have goal : p_X7_bestLook_L15 h 300 ((nb P 40 : Nat) : Int) (-9) 41 0 = some (if cnt P 40 = 0 then -9 else hld (fun _ => True) (Kg P) 100) := by
    by_cases z : cnt P 40 = 0
    · rw [if_pos z, nz.mpr z]
      have all : ∀ f : Nat, p_X7_bestLook_L15 h (f + 1) ((0 : Nat) : Int) (-9) 41 0 = some (-9) := by
        intro f
        simp only [p_X7_bestLook_L15]
        unfold p_X7_bestLook_15
        rw [if_neg (by decide), if_pos (by decide)]
      exact all 299
    · rw [if_neg z]
      refine loop_inv (fun f i (a : Int × Int) => p_X7_bestLook_L15 h f ((nb P 40 : Nat) : Int) a.1 a.2 i) 100 (fun j a => a.1 = hld (fun _ => True) (Kg P) j ∧ ((j = 0 ∧ a.2 = 41) ∨ (1 ≤ j ∧ ∃ b : Nat, a.1 = (b : Int) ∧ a.2 = ((Kg P b : Nat) : Int)))) (fun o => o = some (hld (fun _ => True) (Kg P) 100)) ?_ ?_ 300 0 (-9, 41) (Nat.zero_le _) (by omega) ⟨rfl, Or.inl ⟨rfl, rfl⟩⟩
      · rintro f p ⟨a, b⟩ hp ⟨i1, i2⟩
        simp only at i1 i2
        have kl := Kg_le P p
        simp only [p_X7_bestLook_L15]
        unfold p_X7_bestLook_15 p_X7_bestLook_58
        rw [if_neg (by omega), if_neg (fun y => z (nz.mp (by have := lc_z.mp y; omega))), show (10 : Int) = ((10 : Nat) : Int) from rfl, qdiv_n (by omega) (by omega) (by omega), qrem_n (by omega) (by omega) (by omega), x_greater h P hp, bd_n, wr_1 (by omega)]
        by_cases y : b ≤ ((Kg P p : Nat) : Int)
        · rw [if_pos y]
          refine ⟨(a, b), ⟨?_, ?_⟩, rfl⟩
          · rcases i2 with ⟨rfl, y2⟩ | ⟨j1, b', y2, y3⟩
            · omega
            · rw [hld_f, ← i1]
              rw [← i1]
              rintro ⟨-, t | t⟩
              · omega
              · rw [y2] at t
                simp only [Int.toNat_natCast] at t
                omega
          · rcases i2 with ⟨rfl, y2⟩ | ⟨j1, b', y2, y3⟩
            · omega
            · exact Or.inr ⟨by omega, b', y2, y3⟩
        · rw [if_neg y]
          refine ⟨((p : Int), ((Kg P p : Nat) : Int)), ⟨?_, Or.inr ⟨by omega, p, rfl, rfl⟩⟩, rfl⟩
          rw [hld_t]
          refine ⟨trivial, ?_⟩
          rcases i2 with ⟨rfl, y2⟩ | ⟨j1, b', y2, y3⟩
          · exact Or.inl rfl
          · right
            rw [← i1, y2]
            simp only [Int.toNat_natCast]
            omega
      · rintro f ⟨a, b⟩ ⟨i1, i2⟩
        simp only at i1 i2
        simp only [p_X7_bestLook_L15]
        unfold p_X7_bestLook_15
        rw [if_pos (by decide), i1]
  rw [goal, bd_n]
theorem WM.md (v : WM h w ce ho sh) (s : Sm h h') : WM h' w ce ho sh := by
  obtain ⟨hw, v1, v2, v3, v4⟩ := v
  have e : ∀ i, (i = 58 ∨ i = 59 ∨ i = 60) → h' i = h i := fun i hi => s.1 i (by omega) (by omega) (by omega) (by omega) (by omega) (by omega)
  exact ⟨hw, by rw [s.2 22 (by decide)]; exact v1, by rw [e 58 (by decide)]; exact v2, by rw [e 59 (by decide)]; exact v3, by rw [e 60 (by decide)]; exact v4⟩
theorem y_flag (v : WM h w ce ho sh) {u : Nat} (hu : u < 40) (K : Mem → Int → Option Mem) : p_X9_find_L23 K 300 h (u : Int) 1 0 = p_X9_find_72 K h (u : Int) (bi (Fit w ce ho sh u)) := by
  obtain ⟨hw, v1, v2, v3, v4⟩ := v
  refine loop_x (fun f i a => p_X9_find_L23 K f h (u : Int) a i) w (fun j a => a = bi (∀ j', j' < j → (Ovr u (ce j').val (ho j').val ↔ (sh j').val = 1))) (fun o => o = p_X9_find_72 K h (u : Int) (bi (Fit w ce ho sh u))) ?_ ?_ 300 0 1 (Nat.zero_le _) (by omega) (bi_t (fun j' hj' => by omega)).symm
  · intro f j a hj hI
    subst hI
    simp only [p_X9_find_L23]
    unfold p_X9_find_23
    rw [v1, if_neg (by omega)]
    by_cases q : ∀ j', j' < j → (Ovr u (ce j').val (ho j').val ↔ (sh j').val = 1)
    · left
      rw [bi_t q, if_neg (by decide), gd_w (by omega), gd_w (by omega), v2 j hj, v3 j hj, y_isOver h hu (by omega), bd_n, gd_w (by omega), v4 j hj]
      unfold p_X9_find_65
      rw [wr_1 (by omega)]
      refine ⟨_, rfl, ?_⟩
      by_cases z : Ovr u (ce j).val (ho j).val ↔ (sh j).val = 1
      · rw [if_pos (bi_sh.mpr z), bi_t]
        intro j' hj'
        by_cases e : j' = j
        · subst e; exact z
        · exact q j' (by omega)
      · rw [if_neg (fun y => z (bi_sh.mp y)), bi_f (fun y => z (y j (by omega)))]
    · right
      rw [bi_f q, if_pos rfl, bi_f (P := Fit w ce ho sh u) (fun y => q (fun j' hj' => y j' (by omega)))]
  · intro f a hI
    subst hI
    simp only [p_X9_find_L23]
    unfold p_X9_find_23
    rw [v1, if_pos (by omega)]
    rfl
theorem y_find (v : WM h w ce ho sh) : ∃ h', p_X9_find h = some h' ∧ Sm h h' ∧ h' 45 29 = ((cnt (Fit w ce ho sh) 40 : Nat) : Int) ∧ h' 45 30 = fromF (Fit w ce ho sh) (fun u => ((10 * (u / 4) + u % 4 : Nat) : Int)) (-9) 40 0 ∧ ∀ u : Nat, u < 40 → h' 62 (u : Int) = bi (Fit w ce ho sh u) := by
  have s1 : Sm h (up (up h 45 29 0) 45 30 (-9)) := (Sm.up45 h (by decide) _).tr (Sm.up45 _ (by decide) _)
  have z29 : up (up h 45 29 0) 45 30 (-9) 45 29 = 0 := by rw [up_k _ _ _ _ (by decide), up_eq]
  have z30 : up (up h 45 29 0) 45 30 (-9) 45 30 = -9 := by rw [up_eq]
  unfold p_X9_find
  generalize up (up h 45 29 0) 45 30 (-9) = g at *
  have hF : ∃ P, P = Fit w ce ho sh := ⟨_, rfl⟩
  obtain ⟨P, hP⟩ := hF
  rw [← hP]
  refine loop_inv (fun f i (a : Mem) => p_X9_find_L13 f a i) 40 (fun j a => Sm h a ∧ a 45 29 = ((cnt P j : Nat) : Int) ∧ a 45 30 = fromF P (fun u => ((10 * (u / 4) + u % 4 : Nat) : Int)) (-9) j 0 ∧ ∀ u : Nat, u < j → a 62 (u : Int) = bi (P u)) (fun o => ∃ h', o = some h' ∧ Sm h h' ∧ h' 45 29 = ((cnt P 40 : Nat) : Int) ∧ h' 45 30 = fromF P (fun u => ((10 * (u / 4) + u % 4 : Nat) : Int)) (-9) 40 0 ∧ ∀ u : Nat, u < 40 → h' 62 (u : Int) = bi (P u)) ?_ ?_ 300 0 g (Nat.zero_le _) (by omega) ⟨s1, z29, z30, fun u hu => by omega⟩
  · rintro f u a hu ⟨i1, i2, i3, i4⟩
    have cl := cnt_le P u
    simp only [p_X9_find_L13]
    unfold p_X9_find_13
    rw [if_neg (by omega), y_flag (v.md i1) hu, ← hP]
    unfold p_X9_find_72
    rw [gd_w (by omega), gd_w (bi_01 _)]
    have t29 : ∀ x : Int, up a 62 (u : Int) x 45 29 = ((cnt P u : Nat) : Int) := fun x => by rw [up_c _ _ _ _ (by decide)]; exact i2
    have t30 : ∀ x : Int, up a 62 (u : Int) x 45 30 = fromF P (fun u => ((10 * (u / 4) + u % 4 : Nat) : Int)) (-9) u 0 := fun x => by rw [up_c _ _ _ _ (by decide)]; exact i3
    have sb : Sm h (up a 62 (u : Int) (bi (P u))) := i1.tr (Sm.upr a (by decide) _ _)
    have b62 : ∀ j : Nat, j < u + 1 → up a 62 (u : Int) (bi (P u)) 62 (j : Int) = bi (P j) := by
      intro j hj
      by_cases e : j = u
      · subst e; rw [up_eq]
      · rw [up_k _ _ _ _ (by omega)]; exact i4 j (by omega)
    have t29' := t29 (bi (P u))
    have t30' := t30 (bi (P u))
    have fin : ∀ (x y : Int), x = fromF P (fun u => ((10 * (u / 4) + u % 4 : Nat) : Int)) (-9) (u + 1) 0 → y = ((cnt P (u + 1) : Nat) : Int) → ∃ a', (Sm h a' ∧ a' 45 29 = ((cnt P (u + 1) : Nat) : Int) ∧ a' 45 30 = fromF P (fun u => ((10 * (u / 4) + u % 4 : Nat) : Int)) (-9) (u + 1) 0 ∧ ∀ j : Nat, j < u + 1 → a' 62 (j : Int) = bi (P j)) ∧ p_X9_find_L13 f (up (up (up a 62 (u : Int) (bi (P u))) 45 30 x) 45 29 y) ((u : Int) + 1) = p_X9_find_L13 f a' ((u : Int) + 1) := by
      intro x y hx hy
      refine ⟨_, ⟨(sb.tr (Sm.up45 _ (by decide) _)).tr (Sm.up45 _ (by decide) _), by rw [up_eq, hy], by rw [up_k _ _ _ _ (by decide), up_eq, hx], fun j hj => ?_⟩, rfl⟩
      rw [up_c _ _ _ _ (by decide), up_c _ _ _ _ (by decide)]
      exact b62 j hj
    generalize up a 62 (u : Int) (bi (P u)) = b at *
    by_cases q : P u
    · rw [bi_t q, if_neg (by decide), t29']
      unfold p_X9_find_104 p_X9_find_108 p_X9_find_125
      simp only [if_neg (show ¬ (1 : Int) = 0 by decide)]
      by_cases c0 : cnt P u = 0
      · rw [if_pos (by omega), up_k _ _ _ _ (show (29 : Int) ≠ 30 by decide), t29', wr_1 (by omega), wr_1 (by omega)]
        refine fin _ _ ?_ (by rw [cnt_t q]; omega)
        rw [show (4 : Int) = ((4 : Nat) : Int) from rfl, qdiv_n (by omega) (by omega) (by omega), qrem_n (by omega) (by omega) (by omega), wr_s (a := 10 * ((u / 4 : Nat) : Int)) (by omega) (by omega), wr_s (by omega) (by omega)]
        have := fromF_last (P := P) (r := fun u => ((10 * (u / 4) + u % 4 : Nat) : Int)) (r0 := -9) u 0 (fun i _ h2 => (cnt_0 u).mp c0 i (by omega)) (by rw [Nat.zero_add]; exact q)
        rw [this, Nat.zero_add]
        rfl
      · rw [if_neg (by omega), up_k _ _ _ _ (show (29 : Int) ≠ 30 by decide), t29', t30', wr_1 (by omega), wr_1 (by omega)]
        refine fin _ _ ?_ (by rw [cnt_t q]; omega)
        rw [fromF_more u 0]
        refine Or.inl ?_
        apply Classical.byContradiction
        intro y
        exact c0 ((cnt_0 u).mpr (fun i hi t => y ⟨i, Nat.zero_le _, by omega, t⟩))
    · rw [bi_f q, if_pos rfl]
      unfold p_X9_find_104 p_X9_find_108 p_X9_find_125
      rw [if_pos rfl, up_k _ _ _ _ (show (29 : Int) ≠ 30 by decide), t29', t30', Int.add_zero, wr_s (by omega) (by omega), wr_1 (by omega)]
      refine fin _ _ ?_ (by rw [cnt_f q])
      rw [fromF_more u 0 (Or.inr (by rw [Nat.zero_add]; exact q))]
  · rintro f a ⟨i1, i2, i3, i4⟩
    simp only [p_X9_find_L13]
    unfold p_X9_find_13
    rw [if_pos (by decide)]
    exact ⟨a, rfl, i1, i2, i3, i4⟩
theorem y_found (v : WM h w ce ho sh) (i : Int) : ∃ h', p_X9_found h i = some (s_found (Fit w ce ho sh) i, h') ∧ Sm h h' := by
  have s0 := Sm.up0 h
  have v0 := v.md s0
  unfold p_X9_found s_found
  generalize up h 45 0 0 = g at *
  rw [m_in, bd_n]
  by_cases q : 0 ≤ i ∧ i ≤ 1
  · rw [if01_t q, if_pos q]
    obtain ⟨b, eb, sb, b29, b30, b62⟩ := y_find v0
    rw [eb, bd_n, b29, b30]
    refine ⟨b, ?_, s0.tr sb⟩
    split <;> rfl
  · rw [if01_f q, if_neg q]; exact ⟨g, rfl, s0⟩
theorem y_look (v : WM h w ce ho sh) : ∃ h', p_X9_look h = some (s_look (Fit w ce ho sh), h') ∧ Sm h h' := by
  have s0 := Sm.up0 h
  have v0 := v.md s0
  unfold p_X9_look s_look
  generalize up h 45 0 0 = g0 at *
  obtain ⟨g, eb, sb, b29, b30, b62⟩ := y_find v0
  rw [eb, bd_n]
  refine ⟨g, ?_, s0.tr sb⟩
  generalize Fit w ce ho sh = P at *
  have c1 := cnt_le P 40
  by_cases z : cnt P 40 = 0
  · rw [if_pos z]
    have all : ∀ f : Nat, p_X9_look_L18 (f + 1) g (-9) 9999 0 = some (-9, g) := by
      intro f
      simp only [p_X9_look_L18]
      unfold p_X9_look_18
      rw [if_neg (by decide), b29, if_pos (by omega)]
    exact all 299
  · rw [if_neg z]
    refine loop_inv (fun f i (a : Int × Int) => p_X9_look_L18 f g a.1 a.2 i) 100 (fun j a => a.1 = hld (fun _ => True) (Kg P) j ∧ ((j = 0 ∧ a.2 = 9999) ∨ (1 ≤ j ∧ ∃ b : Nat, a.1 = (b : Int) ∧ a.2 = ((Kg P b : Nat) : Int)))) (fun o => o = some (hld (fun _ => True) (Kg P) 100, g)) ?_ ?_ 300 0 (-9, 9999) (Nat.zero_le _) (by omega) ⟨rfl, Or.inl ⟨rfl, rfl⟩⟩
    · rintro f p ⟨a, b⟩ hp ⟨i1, i2⟩
      simp only at i1 i2
      have kl := Kg_le P p
      have c2 := cnt_sub (P := P) (Q := Kp P p) (fun u q => q.1) 40
      simp only [p_X9_look_L18]
      unfold p_X9_look_18
      rw [if_neg (by omega), b29, if_neg (by omega)]
      have count : p_X9_look_L37 (fun h l1 l2 l3 => p_X9_look_L18 f h l1 l2 l3) 300 g a b (p : Int) 0 0 = p_X9_look_86 (fun h l1 l2 l3 => p_X9_look_L18 f h l1 l2 l3) g a b (p : Int) ((cnt (Kp P p) 40 : Nat) : Int) := by
        refine loop_up (fun f2 i c => p_X9_look_L37 (fun h l1 l2 l3 => p_X9_look_L18 f h l1 l2 l3) f2 g a b (p : Int) c i) (fun j => ((cnt (Kp P p) j : Nat) : Int)) 40 _ ?_ ?_ 300 0 (Nat.zero_le _) (by omega)
        · intro f2 u hu
          have cl := cnt_le (Kp P p) u
          simp only [p_X9_look_L37]
          unfold p_X9_look_37 p_X9_look_76 p_X9_look_77
          rw [if_neg (by omega), gd_w (by omega), b62 u hu, wr_1 (by omega), Int.add_zero, wr_s (a := ((cnt (Kp P p) u : Nat) : Int)) (by omega) (by omega)]
          by_cases q : P u
          · rw [bi_t q, if_neg (by decide), show (10 : Int) = ((10 : Nat) : Int) from rfl, qdiv_n (by omega) (by omega) (by omega), qrem_n (by omega) (by omega) (by omega), y_isOver g hu (by omega), bd_n]
            by_cases y : Ovr u (p % 10) (p / 10)
            · rw [bi_t y, if_neg (by decide), cnt_t ⟨q, y⟩, wr_1 (by omega)]
              rfl
            · rw [bi_f y, if_pos rfl, cnt_f (fun t => y t.2)]
          · rw [bi_f q, if_pos rfl, cnt_f (fun t => q t.1)]
        · intro f2
          simp only [p_X9_look_L37]
          unfold p_X9_look_37
          rw [if_pos (by decide)]
      rw [count]
      have e86 : p_X9_look_86 (fun h l1 l2 l3 => p_X9_look_L18 f h l1 l2 l3) g a b (p : Int) ((cnt (Kp P p) 40 : Nat) : Int) = p_X9_look_110 (fun h l1 l2 l3 => p_X9_look_L18 f h l1 l2 l3) g a b (p : Int) ((Kg P p : Nat) : Int) := by
        unfold p_X9_look_86 Kg
        rw [b29, wr_s (by omega) (by omega)]
        by_cases t : cnt (Kp P p) 40 ≤ cnt P 40 - cnt (Kp P p) 40
        · rw [if_pos (by omega), if_pos t, show ((cnt P 40 : Nat) : Int) - ((cnt (Kp P p) 40 : Nat) : Int) = ((cnt P 40 - cnt (Kp P p) 40 : Nat) : Int) by omega]
        · rw [if_neg (by omega), if_neg t]
      rw [e86]
      unfold p_X9_look_110 p_X9_look_123 p_X9_look_136
      by_cases y : b ≤ ((Kg P p : Nat) : Int)
      · rw [if_pos y, if_pos y, wr_1 (by omega)]
        refine ⟨(a, b), ⟨?_, ?_⟩, rfl⟩
        · rcases i2 with ⟨rfl, y2⟩ | ⟨j1, b', y2, y3⟩
          · omega
          · rw [hld_f, ← i1]
            rw [← i1]
            rintro ⟨-, t | t⟩
            · omega
            · rw [y2] at t
              simp only [Int.toNat_natCast] at t
              omega
        · rcases i2 with ⟨rfl, y2⟩ | ⟨j1, b', y2, y3⟩
          · omega
          · exact Or.inr ⟨by omega, b', y2, y3⟩
      · rw [if_neg y, if_neg y, wr_1 (by omega)]
        refine ⟨((p : Int), ((Kg P p : Nat) : Int)), ⟨?_, Or.inr ⟨by omega, p, rfl, rfl⟩⟩, rfl⟩
        rw [hld_t]
        refine ⟨trivial, ?_⟩
        rcases i2 with ⟨rfl, y2⟩ | ⟨j1, b', y2, y3⟩
        · exact Or.inl rfl
        · right
          rw [← i1, y2]
          simp only [Int.toNat_natCast]
          omega
    · rintro f ⟨a, b⟩ ⟨i1, i2⟩
      simp only at i1 i2
      simp only [p_X9_look_L18]
      unfold p_X9_look_18
      rw [if_pos (by decide), i1]
end WATCH
