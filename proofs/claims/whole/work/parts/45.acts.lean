/-! ===== a new act; a new page of the book ===== -/
def na (a : Nat) : Nat := if a < 14 then a + 1 else 14
def np (a : Nat) (pg : Nat → Pg) (p : Pg) : Nat → Pg := fun j => if j < na a then pg (j + (a + 1 - na a)) else p
theorem na_b {a : Nat} (h : a ≤ 14) : 1 ≤ na a ∧ na a ≤ 14 ∧ na a ≤ a + 1 ∧ a + 1 - na a ≤ 1 := by unfold na; split <;> omega
theorem np_top (a : Nat) (pg : Nat → Pg) (p : Pg) : np a pg p (na a) = p := if_neg (by omega)
theorem np_low {a : Nat} (pg : Nat → Pg) (p : Pg) {j : Nat} (h : j < na a) : np a pg p j = pg (j + (a + 1 - na a)) := if_pos h
theorem PgF.ext {f f' : Int → Int} {n : Nat} {p : Pg} (hn : n ≤ 5) (v : PgF f n p) (e : ∀ z : Nat, z < 17 → f' (z : Int) = f (z : Int)) : PgF f' n p := by
  obtain ⟨v1, v2, v3, v4, v5, v6⟩ := v
  have e6 : ∀ r : Nat, r < 5 → f' (6 + (r : Int)) = f (6 + (r : Int)) := fun r hr => by
    have := e (6 + r) (by omega)
    rw [show (6 : Int) + (r : Int) = ((6 + r : Nat) : Int) by omega]; exact this
  have e12 : ∀ r : Nat, r < 4 → f' (12 + (r : Int)) = f (12 + (r : Int)) := fun r hr => by
    have := e (12 + r) (by omega)
    rw [show (12 : Int) + (r : Int) = ((12 + r : Nat) : Int) by omega]; exact this
  refine ⟨fun r hr => by rw [e r (by omega)]; exact v1 r hr, ?_, fun r hr => by rw [e6 r (by omega)]; exact v3 r hr, ?_, fun l hl => by rw [e12 l hl]; exact v5 l hl, ?_⟩
  · have := e 5 (by decide); rw [show (5 : Int) = ((5 : Nat) : Int) from rfl, this]; exact v2
  · have := e 11 (by decide); rw [show (11 : Int) = ((11 : Nat) : Int) from rfl, this]; exact v4
  · have := e 16 (by decide); rw [show (16 : Int) = ((16 : Nat) : Int) from rfl, this]; exact v6
section ACTS
variable {h h' g : Mem} {n : Nat} {c : Nat → Fin 10} {k : Nat} {ri : Nat → Fin 10} {sp : Nat → Fin 4} {wo : Nat → Fin 10} {law a : Nat} {pg : Nat → Pg} {f0 : Nat} {q0 : Pg} {f1 : Nat} {q1 : Pg} {w : Nat} {ce ho : Nat → Fin 10} {sh : Nat → Fin 2} {tx : Nat} {by' : Nat → Fin 256} {sd : Int} {p : Pg} {t s f : Nat}
theorem x_add13 {b : Nat} (hb : b < 14) (h33 : h 33 3 = (b : Int)) (kd rf ws : Int) : ∃ h', p_X0_add_13 h kd rf ws = some h' ∧ (∀ i, i < 33 ∨ 36 < i → h' i = h i) ∧ h' 33 3 = ((b + 1 : Nat) : Int) ∧ (∀ j : Nat, j < b → h' 34 (j : Int) = h 34 (j : Int) ∧ h' 35 (j : Int) = h 35 (j : Int) ∧ h' 36 (j : Int) = h 36 (j : Int)) ∧ h' 34 (b : Int) = kd ∧ h' 35 (b : Int) = rf ∧ h' 36 (b : Int) = ws := by
  unfold p_X0_add_13 p_X0_add_53
  simp only [up_c _ _ _ _ (show (33 : Nat) ≠ 34 by decide), up_c _ _ _ _ (show (33 : Nat) ≠ 35 by decide), up_c _ _ _ _ (show (33 : Nat) ≠ 36 by decide), h33]
  rw [gd_w (by omega), gd_w (by omega), gd_w (by omega), wr_1 (by omega)]
  refine ⟨_, rfl, fun i hi => ?_, ?_, fun j hj => ⟨?_, ?_, ?_⟩, ?_, ?_, ?_⟩
  · funext z; rw [up_c _ _ _ _ (by omega), up_c _ _ _ _ (by omega), up_c _ _ _ _ (by omega), up_c _ _ _ _ (by omega)]
  · rw [up_eq]; omega
  · rw [up_c _ _ _ _ (by decide), up_c _ _ _ _ (by decide), up_c _ _ _ _ (by decide), up_k _ _ _ _ (by omega)]
  · rw [up_c _ _ _ _ (by decide), up_c _ _ _ _ (by decide), up_k _ _ _ _ (by omega), up_c _ _ _ _ (by decide)]
  · rw [up_c _ _ _ _ (by decide), up_k _ _ _ _ (by omega), up_c _ _ _ _ (by decide), up_c _ _ _ _ (by decide)]
  · rw [up_c _ _ _ _ (by decide), up_c _ _ _ _ (by decide), up_c _ _ _ _ (by decide), up_eq]
  · rw [up_c _ _ _ _ (by decide), up_c _ _ _ _ (by decide), up_eq]
  · rw [up_c _ _ _ _ (by decide), up_eq]
theorem x_forget (h : Mem) : ∃ h', p_X0_forgetFirst h = some h' ∧ (∀ i, i < 33 ∨ 36 < i → h' i = h i) ∧ h' 33 3 = 13 ∧ ∀ j : Nat, j < 13 → h' 34 (j : Int) = h 34 ((j + 1 : Nat) : Int) ∧ h' 35 (j : Int) = h 35 ((j + 1 : Nat) : Int) ∧ h' 36 (j : Int) = h 36 ((j + 1 : Nat) : Int) := by
  unfold p_X0_forgetFirst p_X0_forgetFirst_57
  have c33 : ∀ (m : Mem) (i : Nat) (a : Int) (j : Nat) (b n x : Int), j ≠ 33 → cp m i a j b n 33 x = m 33 x := fun m i a j b n x hj => by
    unfold cp
    rw [if_neg (fun q => hj q.1.symm)]
  have cc : ∀ (m : Mem) (i : Nat) (a : Int) (j : Nat) (b n x : Int) (y : Nat), y ≠ j → cp m i a j b n y x = m y x := fun m i a j b n x y hj => by
    unfold cp
    rw [if_neg (fun q => hj q.1)]
  simp only [c33 _ _ _ _ _ _ _ (show (34 : Nat) ≠ 33 by decide), c33 _ _ _ _ _ _ _ (show (35 : Nat) ≠ 33 by decide), c33 _ _ _ _ _ _ _ (show (36 : Nat) ≠ 33 by decide), up_eq]
  rw [gd_w (by decide), gd_w (by decide), gd_w (by decide)]
  have ce : ∀ (m : Mem) (i : Nat) (j : Nat), j < 13 → cp m i 1 i 0 13 i (j : Int) = m i ((j + 1 : Nat) : Int) := by
    intro m i j hj
    unfold cp
    rw [if_pos ⟨rfl, by omega, by omega⟩, show (1 : Int) + ((j : Int) - 0) = ((j + 1 : Nat) : Int) by omega]
  refine ⟨_, rfl, fun i hi => ?_, ?_, fun j hj => ⟨?_, ?_, ?_⟩⟩
  · funext z; rw [cc _ _ _ _ _ _ _ _ (by omega), cc _ _ _ _ _ _ _ _ (by omega), cc _ _ _ _ _ _ _ _ (by omega), up_c _ _ _ _ (by omega)]
  · rw [cc _ _ _ _ _ _ _ _ (by decide), cc _ _ _ _ _ _ _ _ (by decide), cc _ _ _ _ _ _ _ _ (by decide), up_eq]
  · rw [cc _ _ _ _ _ _ _ _ (by decide), cc _ _ _ _ _ _ _ _ (by decide), ce _ _ _ hj, up_c _ _ _ _ (by decide)]
  · rw [cc _ _ _ _ _ _ _ _ (by decide), ce _ _ _ hj, cc _ _ _ _ _ _ _ _ (by decide), up_c _ _ _ _ (by decide)]
  · rw [ce _ _ _ hj, cc _ _ _ _ _ _ _ _ (by decide), cc _ _ _ _ _ _ _ _ (by decide), up_c _ _ _ _ (by decide)]
theorem AC.add (v : AC h n c k ri sp wo law a pg) (ha : a ≤ 14) {kd rf ws : Int} {p : Pg} (u : UndoR n c k ri sp wo law kd rf ws p (pg a)) : ∃ h', p_X0_add h kd rf ws = some h' ∧ (∀ i, i < 33 ∨ 36 < i → h' i = h i) ∧ AC h' n c k ri sp wo law (na a) (np a pg p) := by
  obtain ⟨v1, v2⟩ := v
  unfold p_X0_add
  rw [v1]
  by_cases full : a < 14
  · rw [if_pos (show (a : Int) < 14 by omega)]
    obtain ⟨h', e, s, e33, lo, t1, t2, t3⟩ := x_add13 full v1 kd rf ws
    have en : na a = a + 1 := if_pos full
    refine ⟨h', e, s, by rw [en]; exact e33, fun j hj => ?_⟩
    rw [en] at hj
    rw [np_low pg p (show j < na a by omega), en, Nat.sub_self, Nat.add_zero]
    by_cases ej : j = a
    · subst ej
      rw [t1, t2, t3, show j + 1 = na j from en.symm, np_top]
      exact u
    · rw [(lo j (by omega)).1, (lo j (by omega)).2.1, (lo j (by omega)).2.2, np_low pg p (show j + 1 < na a by omega), en, Nat.sub_self, Nat.add_zero]
      exact v2 j (by omega)
  · have ea : a = 14 := by omega
    subst ea
    rw [if_neg (by decide)]
    obtain ⟨g, eg, sg, g33, gl⟩ := x_forget h
    obtain ⟨h', e, s, e33, lo, t1, t2, t3⟩ := x_add13 (b := 13) (by decide) g33 kd rf ws
    rw [eg, bd_n]
    refine ⟨h', e, fun i hi => by rw [s i hi, sg i hi], e33, fun j hj => ?_⟩
    have hj : j < 14 := hj
    rw [np_low pg p (show j < na 14 from hj)]
    show UndoR n c k ri sp wo law _ _ _ _ (pg (j + 1))
    by_cases ej : j = 13
    · subst ej
      have t1' : h' 34 ((13 : Nat) : Int) = kd := t1
      have t2' : h' 35 ((13 : Nat) : Int) = rf := t2
      have t3' : h' 36 ((13 : Nat) : Int) = ws := t3
      rw [t1', t2', t3', show 13 + 1 = na 14 from rfl, np_top]
      exact u
    · rw [(lo j (by omega)).1, (lo j (by omega)).2.1, (lo j (by omega)).2.2, (gl j (by omega)).1, (gl j (by omega)).2.1, (gl j (by omega)).2.2, np_low pg p (show j + 1 < na 14 by show j + 1 < 14; omega)]
      exact v2 (j + 1) (by omega)
theorem m_copyPage {b : Nat} (hb : b < 14) (h19 : h 45 19 = (b : Int)) : ∃ h', p_X9_note_49 h = some h' ∧ (∀ i, i ≠ 45 → i ≠ 55 → h' i = h i) ∧ (∀ f : Int, f ≠ 19 → h' 45 f = h 45 f) ∧ h' 45 19 = ((b + 1 : Nat) : Int) ∧ (∀ z : Nat, z < 17 → h' 55 (17 * (b : Int) + (z : Int)) = h 53 (z : Int)) ∧ ∀ y : Nat, y < 17 * b → h' 55 (y : Int) = h 55 (y : Int) := by
  unfold p_X9_note_49
  refine loop_inv (fun f i (m : Mem) => p_X9_note_L51 f m i) 17 (fun j m => (∀ i, i ≠ 55 → m i = h i) ∧ (∀ z : Nat, z < j → m 55 (17 * (b : Int) + (z : Int)) = h 53 (z : Int)) ∧ ∀ y : Nat, y < 17 * b → m 55 (y : Int) = h 55 (y : Int)) (fun o => ∃ h', o = some h' ∧ (∀ i, i ≠ 45 → i ≠ 55 → h' i = h i) ∧ (∀ f : Int, f ≠ 19 → h' 45 f = h 45 f) ∧ h' 45 19 = ((b + 1 : Nat) : Int) ∧ (∀ z : Nat, z < 17 → h' 55 (17 * (b : Int) + (z : Int)) = h 53 (z : Int)) ∧ ∀ y : Nat, y < 17 * b → h' 55 (y : Int) = h 55 (y : Int)) ?_ ?_ 300 0 h (Nat.zero_le _) (by omega) ⟨fun _ _ => rfl, fun z hz => by omega, fun _ _ => rfl⟩
  · rintro f j m hj ⟨i1, i2, i3⟩
    simp only [p_X9_note_L51]
    unfold p_X9_note_51
    rw [if_neg (by omega), gd_w (by omega), i1 45 (by decide), h19, wr_s (a := 17 * (b : Int)) (by omega) (by omega), wr_s (a := 17 * (b : Int) + (j : Int)) (by omega) (by omega), gd_w (by omega), wr_1 (by omega)]
    refine ⟨_, ⟨fun i hi => ?_, fun z hz => ?_, fun y hy => ?_⟩, rfl⟩
    · rw [← i1 i hi]; funext q; exact up_c _ _ _ _ hi
    · by_cases e : z = j
      · subst e; rw [up_eq, i1 53 (by decide)]
      · rw [up_k _ _ _ _ (by omega)]; exact i2 z (by omega)
    · rw [up_k _ _ _ _ (by omega)]; exact i3 y hy
  · rintro f m ⟨i1, i2, i3⟩
    simp only [p_X9_note_L51]
    unfold p_X9_note_51 p_X9_note_83
    rw [if_pos (by decide), i1 45 (by decide), h19, wr_1 (by omega)]
    refine ⟨_, rfl, fun i h1 h2 => ?_, fun f hf => ?_, ?_, fun z hz => ?_, fun y hy => ?_⟩
    · rw [← i1 i h2]; funext q; exact up_c _ _ _ _ h1
    · rw [up_k _ _ _ _ hf, i1 45 (by decide)]
    · rw [up_eq]; omega
    · rw [up_c _ _ _ _ (by decide)]; exact i2 z hz
    · rw [up_c _ _ _ _ (by decide)]; exact i3 y hy
theorem BK.note (hn : n ≤ 5) (v : BK h n a pg) (ha : a ≤ 14) (cur : PgF (h 53) n (pg a)) (p : Pg) : ∃ h', p_X9_note h = some h' ∧ (∀ i, i ≠ 45 → i ≠ 55 → h' i = h i) ∧ (∀ f : Int, f ≠ 19 → h' 45 f = h 45 f) ∧ BK h' n (na a) (np a pg p) := by
  obtain ⟨v1, v2⟩ := v
  unfold p_X9_note
  rw [v1]
  by_cases full : a < 14
  · rw [if_neg (show ¬ (a : Int) = 14 by omega)]
    obtain ⟨h', e, s1, s2, e19, top, low⟩ := m_copyPage full v1
    have en : na a = a + 1 := if_pos full
    refine ⟨h', e, s1, s2, by rw [en]; exact e19, fun j hj => ?_⟩
    rw [en] at hj
    rw [np_low pg p (show j < na a by omega), en, Nat.sub_self, Nat.add_zero]
    by_cases ej : j = a
    · subst ej
      exact cur.ext hn (fun z hz => top z hz)
    · refine (v2 j (by omega)).ext hn (fun z hz => ?_)
      have := low (17 * j + z) (by omega)
      rw [show ((17 * j + z : Nat) : Int) = 17 * (j : Int) + (z : Int) by omega] at this
      exact this
  · have ea : a = 14 := by omega
    subst ea
    rw [if_pos (by decide)]
    have shift : ∃ g, p_X9_note_L11 300 h 0 = p_X9_note_39 g ∧ (∀ i, i ≠ 55 → g i = h i) ∧ ∀ z : Nat, z < 221 → g 55 (z : Int) = h 55 ((z + 17 : Nat) : Int) := by
      refine loop_inv (fun f i (m : Mem) => p_X9_note_L11 f m i) 221 (fun j m => (∀ i, i ≠ 55 → m i = h i) ∧ (∀ z : Nat, z < j → m 55 (z : Int) = h 55 ((z + 17 : Nat) : Int)) ∧ ∀ z : Nat, j ≤ z → m 55 (z : Int) = h 55 (z : Int)) (fun o => ∃ g, o = p_X9_note_39 g ∧ (∀ i, i ≠ 55 → g i = h i) ∧ ∀ z : Nat, z < 221 → g 55 (z : Int) = h 55 ((z + 17 : Nat) : Int)) ?_ ?_ 300 0 h (Nat.zero_le _) (by omega) ⟨fun _ _ => rfl, fun z hz => by omega, fun _ _ => rfl⟩
      · rintro f j m hj ⟨i1, i2, i3⟩
        simp only [p_X9_note_L11]
        unfold p_X9_note_11
        rw [if_neg (by omega), wr_s (a := (j : Int) + 17) (by omega) (by omega), gd_w (by omega), gd_w (by omega), wr_1 (by omega)]
        refine ⟨_, ⟨fun i hi => ?_, fun z hz => ?_, fun z hz => ?_⟩, rfl⟩
        · rw [← i1 i hi]; funext q; exact up_c _ _ _ _ hi
        · by_cases e : z = j
          · subst e
            rw [up_eq, show (z : Int) + 17 = ((z + 17 : Nat) : Int) by omega]
            exact i3 _ (by omega)
          · rw [up_k _ _ _ _ (by omega)]; exact i2 z (by omega)
        · rw [up_k _ _ _ _ (by omega)]; exact i3 z (by omega)
      · rintro f m ⟨i1, i2, i3⟩
        simp only [p_X9_note_L11]
        unfold p_X9_note_11
        rw [if_pos (by decide)]
        exact ⟨m, rfl, i1, i2⟩
    obtain ⟨g, eg, g1, g2⟩ := shift
    rw [eg]
    unfold p_X9_note_39
    have g19 : up g 45 19 (wr (g 45 19 - 1)) 45 19 = ((13 : Nat) : Int) := by
      rw [up_eq, g1 45 (by decide), v1]
      exact wr_s (by decide) (by decide)
    obtain ⟨h', e, s1, s2, e19, top, low⟩ := m_copyPage (b := 13) (by decide) g19
    refine ⟨h', e, fun i h1 h2 => ?_, fun f hf => ?_, e19, fun j hj => ?_⟩
    · rw [s1 i h1 h2, ← g1 i h2]; funext q; exact up_c _ _ _ _ h1
    · rw [s2 f hf, up_k _ _ _ _ hf, g1 45 (by decide)]
    · have hj : j < 14 := hj
      rw [np_low pg p (show j < na 14 from hj)]
      show PgF _ n (pg (j + 1))
      by_cases ej : j = 13
      · subst ej
        refine cur.ext hn (fun z hz => ?_)
        have := top z hz
        rw [up_c _ _ _ _ (by decide), g1 53 (by decide)] at this
        exact this
      · refine (v2 (j + 1) (by omega)).ext hn (fun z hz => ?_)
        have := low (17 * j + z) (by omega)
        rw [up_c _ _ _ _ (by decide), g2 (17 * j + z) (by omega), show ((17 * j + z : Nat) : Int) = 17 * (j : Int) + (z : Int) by omega, show ((17 * j + z + 17 : Nat) : Int) = 17 * ((j + 1 : Nat) : Int) + (z : Int) by omega] at this
        exact this
end ACTS
