/-! ===== rests ===== -/
def hs (H : Nat → Fin 10) (a : Nat) (x : Fin 10) (b : Nat) (y : Fin 10) : Nat → Fin 10 := fun i => if i = b then y else if i = a then x else H i
def fd (z : Nat) : Fin 10 := ⟨z % 10, Nat.mod_lt _ (by decide)⟩
theorem fd_v {z : Nat} (h : z < 10) : (fd z).val = z := Nat.mod_eq_of_lt h
noncomputable def GG (n : Nat) (c H : Nat → Fin 10) (k : Nat) (ri : Nat → Fin 10) (sp : Nat → Fin 4) (wo : Nat → Fin 10) (sm : Int) (law hr : Nat) (cl : Int) (m a b d : Nat) (x y : Nat) : Int := TK n c (hs H a (fd x) b (fd y)) (AL n) sm law k ri sp wo (fun j => j = d) cl hr m
def Rst (GA GB : Nat → Nat → Int) (p : Nat) : Prop := ∀ z, z < 10 → ¬ GA (p / 10) (p % 10) < GA z (p % 10) ∧ ¬ GB (p / 10) (p % 10) < GB (p / 10) z
section RESTS
variable {h h' g : Mem} {n : Nat} {c H : Nat → Fin 10} {ow : Nat → Fin 4} {S sm : Int} {k : Nat} {ri : Nat → Fin 10} {sp : Nat → Fin 4} {wo : Nat → Fin 10} {law hr : Nat} {cl : Int}
theorem GG_b (hk : k ≤ 4) {m a b d x y : Nat} (hm : m ≤ 10) : 0 ≤ GG n c H k ri sp wo sm law hr cl m a b d x y ∧ GG n c H k ri sp wo sm law hr cl m a b d x y ≤ 360 := by
  have := TK_b n c (hs H a (fd x) b (fd y)) (AL n) sm law k ri sp wo (fun j => j = d) cl hr m hk
  unfold GG
  omega
theorem TV.seth {t : Nat} (v : TV h t n c H ow sm) {r : Nat} (hr : r < n) (x : Fin 10) : p_X6_setHeight h t (r : Int) ((x.val : Nat) : Int) = some (up h (t + 2) (r : Int) ((x.val : Nat) : Int)) ∧ TV (up h (t + 2) (r : Int) ((x.val : Nat) : Int)) t n c (fun i => if i = r then x else H i) ow sm := by
  obtain ⟨hn, h4, h5, hc, hH, ho⟩ := id v
  constructor
  · unfold p_X6_setHeight
    rw [t_has v hr, bd_n, if_neg (by decide), gd_w (by omega)]
  · refine ⟨hn, by rw [up_c _ _ _ _ (by omega)]; exact h4, by rw [up_c _ _ _ _ (by omega)]; exact h5, fun i hi => by rw [up_c _ _ _ _ (by omega)]; exact hc i hi, fun i hi => ?_, fun i hi => by rw [up_c _ _ _ _ (by omega)]; exact ho i hi⟩
    by_cases e : i = r
    · subst e
      rw [up_eq]
      simp
    · rw [up_k _ _ _ _ (by omega)]
      simp only [if_neg e]
      exact hH i hi
theorem x_try {x0 : Int} {H' : Nat → Fin 10} {a b : Nat} (hH' : ∀ i, i ≠ a → i ≠ b → H' i = H i) (v : FV h n c H ow sm k ri sp wo law hr cl sm H') (ha : a < n) (hb : b < n) {m p : Nat} (hm : m ≤ 10) (hp : p < 100) : ∃ h', p_X8_tryHeights h (a : Int) (b : Int) (m : Int) (p : Int) = some h' ∧ Sc h h' ∧ FV h' n c H ow sm k ri sp wo law hr cl sm (hs H a (fd (p / 10)) b (fd (p % 10))) ∧ h' 42 (p : Int) = GG n c H k ri sp wo sm law hr cl m a b a (p / 10) (p % 10) - ((p / 10 : Nat) : Int) ∧ h' 43 (p : Int) = GG n c H k ri sp wo sm law hr cl m a b b (p / 10) (p % 10) - ((p % 10 : Nat) : Int) ∧ ∀ u : Nat, u ≠ p → h' 42 (u : Int) = h 42 (u : Int) ∧ h' 43 (u : Int) = h 43 (u : Int) := by
  have hn := v.1.1.1
  have hk := v.1.2.1.1
  have f1 := fd_v (show p / 10 < 10 by omega)
  have f2 := fd_v (show p % 10 < 10 by omega)
  obtain ⟨e1, t1⟩ := v.2.1.seth ha (fd (p / 10))
  obtain ⟨e2, t2⟩ := t1.seth hb (fd (p % 10))
  rw [f1] at e1 t1 e2 t2
  rw [f2] at e2 t2
  have eH : (fun i => if i = b then fd (p % 10) else (fun i => if i = a then fd (p / 10) else H' i) i) = hs H a (fd (p / 10)) b (fd (p % 10)) := by
    funext i
    unfold hs
    simp only
    split
    · rfl
    · split
      · rfl
      · rename_i z1 z2; exact hH' i z2 z1
  rw [eH] at t2
  have s1 : Sc h (up (up h (12 + 2) (a : Int) ((p / 10 : Nat) : Int)) (12 + 2) (b : Int) ((p % 10 : Nat) : Int)) := (Sc.up h (Or.inl ⟨by decide, by decide⟩) _ _).tr (Sc.up _ (Or.inl ⟨by decide, by decide⟩) _ _)
  have c1 := v.1.sc s1
  have q6 : up (up h (12 + 2) (a : Int) ((p / 10 : Nat) : Int)) (12 + 2) (b : Int) ((p % 10 : Nat) : Int) 12 6 = (hr : Int) := by rw [up_c _ _ _ _ (by decide), up_c _ _ _ _ (by decide)]; exact v.2.2.1
  have q7 : up (up h (12 + 2) (a : Int) ((p / 10 : Nat) : Int)) (12 + 2) (b : Int) ((p % 10 : Nat) : Int) 12 7 = cl := by rw [up_c _ _ _ _ (by decide), up_c _ _ _ _ (by decide)]; exact v.2.2.2
  have q42 : ∀ u : Int, up (up h (12 + 2) (a : Int) ((p / 10 : Nat) : Int)) (12 + 2) (b : Int) ((p % 10 : Nat) : Int) 42 u = h 42 u := fun u => by rw [up_c _ _ _ _ (by decide), up_c _ _ _ _ (by decide)]
  have q43 : ∀ u : Int, up (up h (12 + 2) (a : Int) ((p / 10 : Nat) : Int)) (12 + 2) (b : Int) ((p % 10 : Nat) : Int) 43 u = h 43 u := fun u => by rw [up_c _ _ _ _ (by decide), up_c _ _ _ _ (by decide)]
  unfold p_X8_tryHeights p_X1_heightOfFirst p_X1_heightOfOther
  rw [bd_n, bd_n, show (10 : Int) = ((10 : Nat) : Int) from rfl, qdiv_n (by omega) (by omega) (by omega), qrem_n (by omega) (by omega) (by omega), e1, bd_n, e2, bd_n]
  generalize up (up h (12 + 2) (a : Int) ((p / 10 : Nat) : Int)) (12 + 2) (b : Int) ((p % 10 : Nat) : Int) = d at *
  have F1 : FV d n c H ow sm k ri sp wo law hr cl sm (hs H a (fd (p / 10)) b (fd (p % 10))) := ⟨c1, t2, q6, q7⟩
  rw [t_every t2, bd_n, c1.2.2.1]
  obtain ⟨g, eg, sg⟩ := t_survey t2 (by decide) (AL_hi hn) law
  have F2 := F1.sv sg
  rw [eg, bd_n]
  have tk : ∀ j, j < n → p_X2_takings g 12 (bshl 1 (j : Int)) (m : Int) = some (GG n c H k ri sp wo sm law hr cl m a b j (p / 10) (p % 10)) := by
    intro j hj
    have := t_takings (t := 12) sg hn F2.1.2.1 (T := bshl 1 (j : Int)) (pr := fun i => i = j) (fun r h1 h2 => by rw [bb_1 (by omega) (by omega), decide_eq_true_eq]) F2.2.2.1 (by have := v.1.2.2.2.2.2.1; omega) (show m ≤ 100 by omega)
    rw [F2.2.2.2] at this
    exact this
  have B1 := GG_b (n := n) (c := c) (H := H) (ri := ri) (sp := sp) (wo := wo) (sm := sm) (law := law) (hr := hr) (cl := cl) hk (m := m) (a := a) (b := b) (d := a) (x := p / 10) (y := p % 10) hm
  have B2 := GG_b (n := n) (c := c) (H := H) (ri := ri) (sp := sp) (wo := wo) (sm := sm) (law := law) (hr := hr) (cl := cl) hk (m := m) (a := a) (b := b) (d := b) (x := p / 10) (y := p % 10) hm
  rw [tk a ha, bd_n, tk b hb, bd_n, wr_s (by omega) (by omega), wr_s (by omega) (by omega)]
  unfold p_X1_put
  rw [if_neg (by omega), if_neg (by omega), gd_w (by omega), gd_w (by omega), bd_n]
  have s2 : Sc g (up (up g 42 (p : Int) (GG n c H k ri sp wo sm law hr cl m a b a (p / 10) (p % 10) - ((p / 10 : Nat) : Int))) 43 (p : Int) (GG n c H k ri sp wo sm law hr cl m a b b (p / 10) (p % 10) - ((p % 10 : Nat) : Int))) := (Sc.up g (i := 42) (Or.inr (Or.inr ⟨by decide, by decide⟩)) _ _).tr (Sc.up _ (i := 43) (Or.inr (Or.inr ⟨by decide, by decide⟩)) _ _)
  refine ⟨_, rfl, (s1.tr sg.sc).tr s2, ?_, ?_, ?_, ?_⟩
  · obtain ⟨w1, w2, w3, w4⟩ := F2
    refine ⟨w1.sc s2, w2.same ?_ ?_ ?_ ?_, ?_, ?_⟩
    · funext z; rw [up_c _ _ _ _ (by decide), up_c _ _ _ _ (by decide)]
    · funext z; rw [up_c _ _ _ _ (by decide), up_c _ _ _ _ (by decide)]
    · funext z; rw [up_c _ _ _ _ (by decide), up_c _ _ _ _ (by decide)]
    · funext z; rw [up_c _ _ _ _ (by decide), up_c _ _ _ _ (by decide)]
    · rw [up_c _ _ _ _ (by decide), up_c _ _ _ _ (by decide)]; exact w3
    · rw [up_c _ _ _ _ (by decide), up_c _ _ _ _ (by decide)]; exact w4
  · rw [up_c _ _ _ _ (by decide), up_eq]
  · rw [up_eq]
  · intro u hu
    constructor
    · rw [up_c _ _ _ _ (by decide), up_k _ _ _ _ (by omega), sg.1 42 (by decide) (by decide) (by decide), q42]
    · rw [up_k _ _ _ _ (by omega), up_c _ _ _ _ (by decide), sg.1 43 (by decide) (by decide) (by decide), q43]
theorem x_isAtRest (h : Mem) {GA GB : Nat → Nat → Int} (h1 : ∀ u : Nat, u < 100 → h 42 (u : Int) = GA (u / 10) (u % 10) ∧ h 43 (u : Int) = GB (u / 10) (u % 10)) {p : Nat} (hp : p < 100) : p_X1_isAtRest h (p : Int) = some (bi (Rst GA GB p)) := by
  unfold p_X1_isAtRest
  rw [if_neg (by omega), if_pos (by omega)]
  have key := loop_any (fun f i => p_X1_isAtRest_L14 h f (p : Int) i) 10 (fun z => GA (p / 10) (p % 10) < GA z (p % 10) ∨ GB (p / 10) (p % 10) < GB (p / 10) z) (some 0) (some 1) ?_ ?_ ?_ 300 0 (Nat.zero_le _) (by omega)
  · refine Eq.trans key ?_
    by_cases q : Rst GA GB p
    · rw [bi_t q, if_neg]
      rintro ⟨z, -, z1, z2 | z2⟩
      · exact (q z z1).1 z2
      · exact (q z z1).2 z2
    · rw [bi_f q, if_pos]
      apply Classical.byContradiction
      intro y
      apply q
      intro z hz
      exact ⟨fun t => y ⟨z, Nat.zero_le _, hz, Or.inl t⟩, fun t => y ⟨z, Nat.zero_le _, hz, Or.inr t⟩⟩
  · intro f z hz hP
    have a1 := h1 (z * 10 + p % 10) (by omega)
    have a2 := h1 (p / 10 * 10 + z) (by omega)
    have a3 := h1 p hp
    rw [show (z * 10 + p % 10) / 10 = z by omega, show (z * 10 + p % 10) % 10 = p % 10 by omega] at a1
    rw [show (p / 10 * 10 + z) / 10 = p / 10 by omega, show (p / 10 * 10 + z) % 10 = z by omega] at a2
    simp only [p_X1_isAtRest_L14]
    unfold p_X1_isAtRest_14 p_X1_heightOfFirst p_X1_heightOfOther
    rw [if_neg (by omega), bd_n, bd_n, show (10 : Int) = ((10 : Nat) : Int) from rfl, qdiv_n (by omega) (by omega) (by omega), qrem_n (by omega) (by omega) (by omega), ← Int.natCast_mul, ← Int.natCast_mul, wr_s (a := ((z * 10 : Nat) : Int)) (by omega) (by omega), wr_s (a := ((p / 10 * 10 : Nat) : Int)) (by omega) (by omega), ← Int.natCast_add, ← Int.natCast_add, wr_s (a := ((z * 10 + p % 10 : Nat) : Int)) (by omega) (by omega), wr_s (a := ((p / 10 * 10 + z : Nat) : Int)) (by omega) (by omega), gd_w (by omega), gd_w (by omega), a1.1, a3.1, if_neg (fun t => hP (Or.inl t)), gd_w (by omega), gd_w (by omega), a2.2, a3.2, if_pos (by
      have : ¬ GB (p / 10) (p % 10) < GB (p / 10) z := fun t => hP (Or.inr t)
      omega), wr_1 (by omega)]
  · intro f z hz hP
    have a1 := h1 (z * 10 + p % 10) (by omega)
    have a2 := h1 (p / 10 * 10 + z) (by omega)
    have a3 := h1 p hp
    rw [show (z * 10 + p % 10) / 10 = z by omega, show (z * 10 + p % 10) % 10 = p % 10 by omega] at a1
    rw [show (p / 10 * 10 + z) / 10 = p / 10 by omega, show (p / 10 * 10 + z) % 10 = z by omega] at a2
    simp only [p_X1_isAtRest_L14]
    unfold p_X1_isAtRest_14 p_X1_heightOfFirst p_X1_heightOfOther
    rw [if_neg (by omega), bd_n, bd_n, show (10 : Int) = ((10 : Nat) : Int) from rfl, qdiv_n (by omega) (by omega) (by omega), qrem_n (by omega) (by omega) (by omega), ← Int.natCast_mul, ← Int.natCast_mul, wr_s (a := ((z * 10 : Nat) : Int)) (by omega) (by omega), wr_s (a := ((p / 10 * 10 : Nat) : Int)) (by omega) (by omega), ← Int.natCast_add, ← Int.natCast_add, wr_s (a := ((z * 10 + p % 10 : Nat) : Int)) (by omega) (by omega), wr_s (a := ((p / 10 * 10 + z : Nat) : Int)) (by omega) (by omega), gd_w (by omega), gd_w (by omega), a1.1, a3.1]
    by_cases t : GA (p / 10) (p % 10) < GA z (p % 10)
    · rw [if_pos t]
    · rw [if_neg t, gd_w (by omega), gd_w (by omega), a2.2, a3.2]
      rcases hP with t2 | t2
      · exact absurd t2 t
      · rw [if_neg (by omega)]
  · intro f
    simp only [p_X1_isAtRest_L14]
    unfold p_X1_isAtRest_14
    rw [if_pos (by decide)]
noncomputable def s_rests (n : Nat) (c H : Nat → Fin 10) (k : Nat) (ri : Nat → Fin 10) (sp : Nat → Fin 4) (wo : Nat → Fin 10) (sm : Int) (law hr : Nat) (cl a b m w : Int) : Int := if 0 ≤ a ∧ a < (n : Int) then if 0 ≤ b ∧ b < (n : Int) then if a = b then -2 else if 1 ≤ m ∧ m ≤ 10 then if 0 ≤ w ∧ w ≤ 1 then if w = 0 then ((cnt (Rst (fun x y => GG n c H k ri sp wo sm law hr cl m.toNat a.toNat b.toNat a.toNat x y - (x : Int)) (fun x y => GG n c H k ri sp wo sm law hr cl m.toNat a.toNat b.toNat b.toNat x y - (y : Int))) 100 : Nat) : Int) else fromF (Rst (fun x y => GG n c H k ri sp wo sm law hr cl m.toNat a.toNat b.toNat a.toNat x y - (x : Int)) (fun x y => GG n c H k ri sp wo sm law hr cl m.toNat a.toNat b.toNat b.toNat x y - (y : Int))) (fun p => (p : Int)) (-9) 100 0 else -2 else -2 else -1 else -1
theorem x_rests (v : CV h n c H ow sm k ri sp wo law hr cl) (a b m w : Int) : ∃ h', p_X8_rests h a b m w = some (s_rests n c H k ri sp wo sm law hr cl a b m w, h') ∧ Sc h h' := by
  unfold p_X8_rests s_rests
  rw [t_hasR v.1, bd_n]
  by_cases qa : 0 ≤ a ∧ a < (n : Int)
  · rw [if01_t qa, if_pos qa, t_hasR v.1, bd_n]
    by_cases qb : 0 ≤ b ∧ b < (n : Int)
    · rw [if01_t qb, if_pos qb]
      by_cases ab : a = b
      · rw [if_pos ab, if_pos ab]; exact ⟨h, rfl, Sc.rf h⟩
      · rw [if_neg ab, if_neg ab, x_span, bd_n]
        by_cases q : 1 ≤ m ∧ m ≤ 10
        · rw [if01_t q, if_pos q]
          by_cases w0 : w < 0
          · rw [if_pos w0, if_neg (by omega)]; exact ⟨h, rfl, Sc.rf h⟩
          · rw [if_neg w0]
            by_cases w1 : w ≤ 1
            · rw [if_pos w1, if_pos (show 0 ≤ w ∧ w ≤ 1 from ⟨by omega, w1⟩)]
              obtain ⟨m', rfl⟩ := toN (show 0 ≤ m by omega)
              obtain ⟨a', rfl⟩ := toN qa.1
              obtain ⟨b', rfl⟩ := toN qb.1
              simp only [Int.toNat_natCast]
              have ha : a' < n := by omega
              have hb : b' < n := by omega
              obtain ⟨g0, e0, s0, f0⟩ := x_trial v
              rw [e0, bd_n]
              obtain ⟨GA, hA⟩ : ∃ GA : Nat → Nat → Int, (fun x y => GG n c H k ri sp wo sm law hr cl m' a' b' a' x y - (x : Int)) = GA := ⟨_, rfl⟩
              obtain ⟨GB, hB⟩ : ∃ GB : Nat → Nat → Int, (fun x y => GG n c H k ri sp wo sm law hr cl m' a' b' b' x y - (y : Int)) = GB := ⟨_, rfl⟩
              rw [hA, hB]
              refine loop_inv (fun f i (a : Mem) => p_X8_rests_L66 f a (a' : Int) (b' : Int) (m' : Int) w i) 100 (fun j a => Sc h a ∧ (∃ H', (∀ i, i ≠ a' → i ≠ b' → H' i = H i) ∧ FV a n c H ow sm k ri sp wo law hr cl sm H') ∧ ∀ u : Nat, u < j → a 42 (u : Int) = GA (u / 10) (u % 10) ∧ a 43 (u : Int) = GB (u / 10) (u % 10)) (fun o => ∃ h', o = some (if w = 0 then ((cnt (Rst GA GB) 100 : Nat) : Int) else fromF (Rst GA GB) (fun p => (p : Int)) (-9) 100 0, h') ∧ Sc h h') ?_ ?_ 300 0 g0 (Nat.zero_le _) (by omega) ⟨s0, ⟨H, fun _ _ _ => rfl, f0⟩, fun u hu => by omega⟩
              · rintro f p a hp ⟨i1, ⟨H', hH', i2⟩, i3⟩
                obtain ⟨d, ed, sd, fdd, d42, d43, du⟩ := x_try (x0 := 0) hH' i2 ha hb (m := m') (by omega) hp
                simp only [p_X8_rests_L66]
                unfold p_X8_rests_66
                rw [if_neg (by omega), ed, bd_n, wr_1 (by omega)]
                refine ⟨d, ⟨i1.tr sd, ⟨_, ?_, fdd⟩, ?_⟩, rfl⟩
                · intro i z1 z2
                  unfold hs
                  rw [if_neg z2, if_neg z1]
                · intro u hu
                  by_cases e : u = p
                  · subst e
                    rw [d42, d43, ← hA, ← hB]
                    exact ⟨rfl, rfl⟩
                  · rw [(du u e).1, (du u e).2]
                    exact i3 u (by omega)
              · rintro f a ⟨i1, -, i3⟩
                simp only [p_X8_rests_L66]
                unfold p_X8_rests_66
                rw [if_pos (by decide)]
                unfold p_X8_rests_88
                have eF : p_X1_firstAtRest a = some (fromF (Rst GA GB) (fun p => (p : Int)) (-9) 100 0) := by
                  unfold p_X1_firstAtRest
                  rw [← fromF_map _ (fun o => some o)]
                  refine loop_first (fun f i => p_X1_firstAtRest_L2 a f i) 100 (Rst GA GB) _ _ ?_ ?_ ?_ 300 0 (Nat.zero_le _) (by omega)
                  · intro f p hp hP
                    simp only [p_X1_firstAtRest_L2]
                    unfold p_X1_firstAtRest_2
                    rw [if_neg (by omega), x_isAtRest a i3 hp, bd_n, bi_f hP, if_pos rfl, wr_1 (by omega)]
                  · intro f p hp hP
                    simp only [p_X1_firstAtRest_L2]
                    unfold p_X1_firstAtRest_2
                    rw [if_neg (by omega), x_isAtRest a i3 hp, bd_n, bi_t hP, if_neg (by decide)]
                  · intro f
                    simp only [p_X1_firstAtRest_L2]
                    unfold p_X1_firstAtRest_2
                    rw [if_pos (by decide)]
                have eC : p_X1_pairsAtRest a = some ((cnt (Rst GA GB) 100 : Nat) : Int) := by
                  unfold p_X1_pairsAtRest
                  refine loop_up (fun f i z => p_X1_pairsAtRest_L4 a f z i) (fun j => ((cnt (Rst GA GB) j : Nat) : Int)) 100 _ ?_ ?_ 300 0 (Nat.zero_le _) (by omega)
                  · intro f p hp
                    have := cnt_le (Rst GA GB) p
                    simp only [p_X1_pairsAtRest_L4]
                    unfold p_X1_pairsAtRest_4
                    rw [if_neg (by omega), x_isAtRest a i3 hp, bd_n]
                    unfold p_X1_pairsAtRest_21
                    by_cases q : Rst GA GB p
                    · rw [bi_t q, if_neg (by decide), cnt_t q, wr_1 (by omega), wr_1 (by omega)]
                      rfl
                    · rw [bi_f q, if_pos rfl, cnt_f q, wr_1 (by omega)]
                  · intro f
                    simp only [p_X1_pairsAtRest_L4]
                    unfold p_X1_pairsAtRest_4
                    rw [if_pos (by decide)]
                rw [eF, eC, bd_n, bd_n]
                refine ⟨a, ?_, i1⟩
                split <;> rfl
            · rw [if_neg w1, if_neg (by omega)]; exact ⟨h, rfl, Sc.rf h⟩
        · rw [if01_f q, if_neg q]; exact ⟨h, rfl, Sc.rf h⟩
    · rw [if01_f qb, if_neg qb]; exact ⟨h, rfl, Sc.rf h⟩
  · rw [if01_f qa, if_neg qa]; exact ⟨h, rfl, Sc.rf h⟩
theorem fromF_none {β : Type} {P : Nat → Prop} {r : Nat → β} {r0 : β} : ∀ (d k : Nat), (∀ i, k ≤ i → i < k + d → ¬ P i) → fromF P r r0 d k = r0
  | 0, _, _ => rfl
  | d + 1, k, h => by rw [fromF_f (h k (by omega) (by omega))]; exact fromF_none d (k + 1) (fun i h1 h2 => h i (by omega) (by omega))
theorem fromF_last {β : Type} {P : Nat → Prop} {r : Nat → β} {r0 : β} : ∀ (d k : Nat), (∀ i, k ≤ i → i < k + d → ¬ P i) → P (k + d) → fromF P r r0 (d + 1) k = r (k + d)
  | 0, k, _, q => fromF_t (k := k) q
  | d + 1, k, h, q => by
    rw [fromF_f (h k (by omega) (by omega)), fromF_last d (k + 1) (fun i h1 h2 => h i (by omega) (by omega)) (by rw [show k + 1 + d = k + (d + 1) by omega]; exact q), show k + 1 + d = k + (d + 1) by omega]
theorem fromF_more {β : Type} {P : Nat → Prop} {r : Nat → β} {r0 : β} : ∀ (d k : Nat), ((∃ i, k ≤ i ∧ i < k + d ∧ P i) ∨ ¬ P (k + d)) → fromF P r r0 (d + 1) k = fromF P r r0 d k
  | 0, k, h => by
    rcases h with ⟨i, h1, h2, _⟩ | h
    · omega
    · exact fromF_f (k := k) h
  | d + 1, k, h => by
    by_cases q : P k
    · rw [fromF_t q, fromF_t q]
    · rw [fromF_f q, fromF_f q]
      apply fromF_more d (k + 1)
      rcases h with ⟨i, h1, h2, h3⟩ | h
      · refine Or.inl ⟨i, ?_, by omega, h3⟩
        rcases Nat.lt_or_ge k i with z | z
        · omega
        · exact absurd (by rw [show k = i by omega]; exact h3) q
      · exact Or.inr (by rw [show k + 1 + d = k + (d + 1) by omega]; exact h)
theorem cnt_0 {P : Nat → Prop} : ∀ n : Nat, cnt P n = 0 ↔ ∀ i, i < n → ¬ P i
  | 0 => ⟨fun _ i h => by omega, fun _ => rfl⟩
  | n + 1 => by
    have ih := cnt_0 (P := P) n
    by_cases q : P n
    · rw [cnt_t q]
      exact ⟨fun h => by omega, fun h => absurd q (h n (by omega))⟩
    · rw [cnt_f q, ih]
      constructor
      · intro h i hi
        by_cases e : i = n
        · subst e; exact q
        · exact h i (by omega)
      · intro h i hi; exact h i (by omega)
/-- only the two gains change -/
def Qm (d e : Mem) : Prop := (∀ i, i ≠ 45 → e i = d i) ∧ ∀ f : Int, f ≠ 33 → f ≠ 34 → e 45 f = d 45 f
theorem Qm.qs {d e : Mem} (q : Qm d e) : Sm d e := ⟨fun i h _ _ _ _ _ => q.1 i h, fun f hf => q.2 f (by omega) (by omega)⟩
theorem Qm.pv {d e : Mem} {p : Nat} (hp : p ≠ 45) (q : Qm d e) (v : PV d p n c H ow sm) : PV e p n c H ow sm := by
  obtain ⟨hn, h4, h5, hc, hH, ho⟩ := v
  refine ⟨hn, by rw [q.2 5 (by decide) (by decide)]; exact h4, by rw [q.1 p hp]; exact h5, by rw [q.1 47 (by decide)]; exact hc, by rw [q.1 p hp]; exact hH, by rw [q.1 p hp]; exact ho⟩
theorem Qm.up (d : Mem) (x y : Int) : Qm d (up (up d 45 33 x) 45 34 y) := ⟨fun i h => by funext z; rw [up_c _ _ _ _ h, up_c _ _ _ _ h], fun f h1 h2 => by rw [up_k _ _ _ _ h2, up_k _ _ _ _ h1]⟩
theorem Qm.tr {d e f : Mem} (a : Qm d e) (b : Qm e f) : Qm d f := ⟨fun i h => (b.1 i h).trans (a.1 i h), fun i h1 h2 => (b.2 i h1 h2).trans (a.2 i h1 h2)⟩
noncomputable def G1 (n : Nat) (c H : Nat → Fin 10) (ri : Nat → Fin 10) (sp : Nat → Fin 4) (wo : Nat → Fin 10) (sm : Int) (law hh j s : Nat) : Int := get1 (HD n c H (AL n) law ri sp s hh) (fun z => z = j) (wo s).val (smk n c (AL n) sm)
noncomputable def PS (n : Nat) (c H : Nat → Fin 10) (k : Nat) (ri : Nat → Fin 10) (sp : Nat → Fin 4) (wo : Nat → Fin 10) (sm : Int) (law hr j : Nat) : Nat → Int := sumF (fun i => PA n c H (AL n) sm law k ri sp wo (fun z => z = j) (hr + i))
theorem PS_s (n : Nat) (c H : Nat → Fin 10) (k : Nat) (ri : Nat → Fin 10) (sp : Nat → Fin 4) (wo : Nat → Fin 10) (sm : Int) (law hr j i : Nat) : PS n c H k ri sp wo sm law hr j (i + 1) = PS n c H k ri sp wo sm law hr j i + sumF (G1 n c H ri sp wo sm law (hr + i) j) k := rfl
theorem PS_b (n : Nat) (c H : Nat → Fin 10) {k : Nat} (ri : Nat → Fin 10) (sp : Nat → Fin 4) (wo : Nat → Fin 10) (sm : Int) (law hr j : Nat) (hk : k ≤ 4) {i : Nat} (hi : i ≤ 10) : 0 ≤ PS n c H k ri sp wo sm law hr j i ∧ PS n c H k ri sp wo sm law hr j i ≤ 360 := by
  have := sumF_b (g := fun i => PA n c H (AL n) sm law k ri sp wo (fun z => z = j) (hr + i)) (lo := 0) (hi := 36) (n := i) (fun s _ => PA_b n c H (AL n) sm law k ri sp wo (fun z => z = j) (hr + s) hk)
  unfold PS
  omega
theorem G1_b (n : Nat) (c H : Nat → Fin 10) (ri : Nat → Fin 10) (sp : Nat → Fin 4) (wo : Nat → Fin 10) (sm : Int) (law hh j : Nat) (s : Nat) : 0 ≤ G1 n c H ri sp wo sm law hh j s ∧ G1 n c H ri sp wo sm law hh j s ≤ 9 := get1_b _ _ _ _
theorem G1_sb (n : Nat) (c H : Nat → Fin 10) (ri : Nat → Fin 10) (sp : Nat → Fin 4) (wo : Nat → Fin 10) (sm : Int) (law hh j : Nat) {s : Nat} (hs : s ≤ 4) : 0 ≤ sumF (G1 n c H ri sp wo sm law hh j) s ∧ sumF (G1 n c H ri sp wo sm law hh j) s ≤ 36 := by
  have := sumF_b (g := G1 n c H ri sp wo sm law hh j) (lo := 0) (hi := 9) (n := s) (fun s _ => G1_b n c H ri sp wo sm law hh j s)
  omega
theorem y_lay (v : MV2 h n c H ow sm k ri sp wo law hr cl) {a b x y m : Nat} (ha : a < n) (hb : b < n) (hab : a ≠ b) (hx : x < 10) (hy : y < 10) (hm : m ≤ 10) : ∃ h', p_X9_layRest h (a : Int) (x : Int) (b : Int) (y : Int) (m : Int) = some h' ∧ Sm h h' ∧ h' 45 33 = GG n c H k ri sp wo sm law hr cl m a b a x y - (x : Int) ∧ h' 45 34 = GG n c H k ri sp wo sm law hr cl m a b b x y - (y : Int) ∧ h' 45 31 = h 45 31 ∧ h' 45 32 = h 45 32 := by
  have hn := v.1.1
  have hk := v.2.1.1
  have h40 := v.2.2.2.2.2.1
  obtain ⟨g, eg, g1, g2⟩ := m_begin h
  have pg := v.1.bg g1 g2
  have f1 := fd_v hx
  have f2 := fd_v hy
  have p1 : PV (up (up g 54 (a : Int) (x : Int)) 54 (b : Int) (y : Int)) 54 n c (hs H a (fd x) b (fd y)) ow sm := by
    obtain ⟨hn, h4, h5, hc, hH, ho⟩ := pg
    refine ⟨hn, by rw [up_c _ _ _ _ (by decide), up_c _ _ _ _ (by decide)]; exact h4, by rw [up_k _ _ _ _ (by omega), up_k _ _ _ _ (by omega)]; exact h5, fun r hr => by rw [up_c _ _ _ _ (by decide), up_c _ _ _ _ (by decide)]; exact hc r hr, fun r hr => ?_, fun r hr => by rw [up_k _ _ _ _ (by omega), up_k _ _ _ _ (by omega)]; exact ho r hr⟩
    unfold hs
    by_cases e1 : r = b
    · subst e1; rw [up_eq, if_pos rfl, f2]
    · rw [up_k _ _ _ _ (by omega), if_neg e1]
      by_cases e2 : r = a
      · subst e2; rw [up_eq, if_pos rfl, f1]
      · rw [up_k _ _ _ _ (by omega), if_neg e2]; exact hH r hr
  have sg : Sm h (up (up g 54 (a : Int) (x : Int)) 54 (b : Int) (y : Int)) := ((Sm.bg g1).tr (Sm.upr g (by decide) _ _)).tr (Sm.upr _ (by decide) _ _)
  have k31 : up (up g 54 (a : Int) (x : Int)) 54 (b : Int) (y : Int) 45 31 = h 45 31 := by rw [up_c _ _ _ _ (by decide), up_c _ _ _ _ (by decide), g1 45 (by decide)]
  have k32 : up (up g 54 (a : Int) (x : Int)) 54 (b : Int) (y : Int) 45 32 = h 45 32 := by rw [up_c _ _ _ _ (by decide), up_c _ _ _ _ (by decide), g1 45 (by decide)]
  unfold p_X9_layRest
  rw [eg, bd_n, gd_w (by omega), gd_w (by omega), wr_s (a := -(x : Int)) (by omega) (by omega), wr_s (a := -(y : Int)) (by omega) (by omega)]
  generalize up (up g 54 (a : Int) (x : Int)) 54 (b : Int) (y : Int) = d0 at *
  have q0 := Qm.up d0 (-(x : Int)) (-(y : Int))
  have z33 : up (up d0 45 33 (-(x : Int))) 45 34 (-(y : Int)) 45 33 = -(x : Int) := by rw [up_k _ _ _ _ (by decide), up_eq]
  have z34 : up (up d0 45 33 (-(x : Int))) 45 34 (-(y : Int)) 45 34 = -(y : Int) := by rw [up_eq]
  generalize up (up d0 45 33 (-(x : Int))) 45 34 (-(y : Int)) = d1 at *
  have v1 := (v.md sg).md q0.qs
  rw [v1.2.2.2.1]
  have done : ∀ d, Qm d0 d → d 45 33 = GG n c H k ri sp wo sm law hr cl m a b a x y - (x : Int) → d 45 34 = GG n c H k ri sp wo sm law hr cl m a b b x y - (y : Int) → ∃ h', some d = some h' ∧ Sm h h' ∧ h' 45 33 = GG n c H k ri sp wo sm law hr cl m a b a x y - (x : Int) ∧ h' 45 34 = GG n c H k ri sp wo sm law hr cl m a b b x y - (y : Int) ∧ h' 45 31 = h 45 31 ∧ h' 45 32 = h 45 32 := by
    intro d q y1 y2
    exact ⟨d, rfl, sg.tr q.qs, y1, y2, by rw [q.2 31 (by decide) (by decide), k31], by rw [q.2 32 (by decide) (by decide), k32]⟩
  have e0 : (hr : Int) + ((0 : Nat) : Int) = (hr : Int) := by omega
  by_cases hcl : cl = 0
  · have eA : ∀ j, GG n c H k ri sp wo sm law hr cl m a b j x y = PS n c (hs H a (fd x) b (fd y)) k ri sp wo sm law hr j m := fun j => if_pos hcl
    rw [eA, eA] at done
    rw [eA, eA]
    generalize hs H a (fd x) b (fd y) = HH at *
    have key := loop_inv (fun f i (d : Mem) => p_X9_layRest_L41 f d (a : Int) (b : Int) (m : Int) ((hr : Int) + i)) m (fun j d => Qm d0 d ∧ d 45 33 = PS n c HH k ri sp wo sm law hr a j - (x : Int) ∧ d 45 34 = PS n c HH k ri sp wo sm law hr b j - (y : Int)) (fun o => ∃ h', o = some h' ∧ Sm h h' ∧ h' 45 33 = PS n c HH k ri sp wo sm law hr a m - (x : Int) ∧ h' 45 34 = PS n c HH k ri sp wo sm law hr b m - (y : Int) ∧ h' 45 31 = h 45 31 ∧ h' 45 32 = h 45 32) ?_ ?_ 300 0 d1 (Nat.zero_le _) (by omega) ⟨q0, by rw [z33]; simp [PS, sumF], by rw [z34]; simp [PS, sumF]⟩
    · simp only [e0] at key
      exact key
    · rintro f i d hi ⟨i1, i2, i3⟩
      have vd := (v.md sg).md i1.qs
      have sb1 := PS_b n c HH ri sp wo sm law hr a hk (i := i) (by omega)
      have sb2 := PS_b n c HH ri sp wo sm law hr b hk (i := i) (by omega)
      simp only [p_X9_layRest_L41]
      unfold p_X9_layRest_41
      rw [vd.2.2.2.1, vd.2.2.2.2.1, wr_s (a := (hr : Int) + (m : Int)) (by omega) (by omega), if_neg (by omega), if_pos hcl, PS_s, PS_s]
      refine loop_inv (fun f2 s (d : Mem) => p_X9_layRest_L69 (fun h l1 l3 l5 l6 => p_X9_layRest_L41 f h l1 l3 l5 l6) f2 d (a : Int) (b : Int) (m : Int) ((hr : Int) + (i : Int)) s) k (fun j d => Qm d0 d ∧ d 45 33 = PS n c HH k ri sp wo sm law hr a i + sumF (G1 n c HH ri sp wo sm law (hr + i) a) j - (x : Int) ∧ d 45 34 = PS n c HH k ri sp wo sm law hr b i + sumF (G1 n c HH ri sp wo sm law (hr + i) b) j - (y : Int)) (fun o => ∃ d', (Qm d0 d' ∧ d' 45 33 = PS n c HH k ri sp wo sm law hr a i + sumF (G1 n c HH ri sp wo sm law (hr + i) a) k - (x : Int) ∧ d' 45 34 = PS n c HH k ri sp wo sm law hr b i + sumF (G1 n c HH ri sp wo sm law (hr + i) b) k - (y : Int)) ∧ o = p_X9_layRest_L41 f d' (a : Int) (b : Int) (m : Int) ((hr : Int) + ((i : Int) + 1))) ?_ ?_ 300 0 d (Nat.zero_le _) (by omega) ⟨i1, by rw [i2]; simp [sumF], by rw [i3]; simp [sumF]⟩
      · rintro f2 s e hs' ⟨j1, j2, j3⟩
        have ve := (v.md sg).md j1.qs
        have pe := j1.pv (p := 54) (by decide) p1
        have gb1 := G1_sb n c HH ri sp wo sm law (hr + i) a (s := s) (by omega)
        have gb2 := G1_sb n c HH ri sp wo sm law (hr + i) b (s := s) (by omega)
        have g11 := G1_b n c HH ri sp wo sm law (hr + i) a s
        have g12 := G1_b n c HH ri sp wo sm law (hr + i) b s
        have fin : ∀ e1 e2 : Int, e1 = G1 n c HH ri sp wo sm law (hr + i) a s → e2 = G1 n c HH ri sp wo sm law (hr + i) b s → ∃ a', (Qm d0 a' ∧ a' 45 33 = PS n c HH k ri sp wo sm law hr a i + sumF (G1 n c HH ri sp wo sm law (hr + i) a) (s + 1) - (x : Int) ∧ a' 45 34 = PS n c HH k ri sp wo sm law hr b i + sumF (G1 n c HH ri sp wo sm law (hr + i) b) (s + 1) - (y : Int)) ∧ p_X9_layRest_170 (fun h l1 l3 l5 l6 => p_X9_layRest_L41 f h l1 l3 l5 l6) (fun h l1 l3 l5 l6 l7 => p_X9_layRest_L69 (fun h l1 l3 l5 l6 => p_X9_layRest_L41 f h l1 l3 l5 l6) f2 h l1 l3 l5 l6 l7) (up e 45 33 (wr (e 45 33 + e1))) (a : Int) (b : Int) (m : Int) ((hr : Int) + (i : Int)) (s : Int) (up e 45 33 (wr (e 45 33 + e1)) 45 34) e2 = p_X9_layRest_L69 (fun h l1 l3 l5 l6 => p_X9_layRest_L41 f h l1 l3 l5 l6) f2 a' (a : Int) (b : Int) (m : Int) ((hr : Int) + (i : Int)) ((s : Int) + 1) := by
          intro e1 e2 h1 h2
          rw [wr_s (a := e 45 33 + e1) (by omega) (by omega), up_k _ _ _ _ (by decide)]
          unfold p_X9_layRest_170
          rw [wr_1 (by omega), wr_s (a := e 45 34 + e2) (by omega) (by omega)]
          refine ⟨_, ⟨j1.tr (Qm.up e _ _), ?_, ?_⟩, rfl⟩
          · rw [up_k _ _ _ _ (by decide), up_eq]
            show _ = _ + (sumF _ s + G1 n c HH ri sp wo sm law (hr + i) a s) - _
            omega
          · rw [up_eq]
            show _ = _ + (sumF _ s + G1 n c HH ri sp wo sm law (hr + i) b s) - _
            omega
        simp only [p_X9_layRest_L69]
        unfold p_X9_layRest_69
        rw [ve.2.1.2.1, if_neg (by omega), m_all ve.1, bd_n, ve.2.2.1, ← Int.natCast_add, m_holder pe ve.2.1 hs' (by omega), bd_n, Int.natCast_add]
        have G0 : ∀ j, (HD n c HH (AL n) law ri sp s (hr + i) = -9 ∨ ¬ (HD n c HH (AL n) law ri sp s (hr + i)).toNat = j) → G1 n c HH ri sp wo sm law (hr + i) j s = 0 := fun j z => get1_f z
        have G2 : ∀ j : Nat, HD n c HH (AL n) law ri sp s (hr + i) = (j : Int) → G1 n c HH ri sp wo sm law (hr + i) j s = (((wo s).val - smk n c (AL n) sm j : Nat) : Int) := fun j z => get1_t z rfl
        have py : ∀ (e' : Mem) (j : Nat), Qm d0 e' → j < n → bd (p_X9_all e') (fun r => bd (p_X9_pays e' (s : Int) r (e' 54 5) (j : Int)) (fun q => some q)) = some (((wo s).val - smk n c (AL n) sm j : Nat) : Int) := by
          intro e' j q hj
          have v2 := (v.md sg).md q.qs
          have p2 := q.pv (p := 54) (by decide) p1
          rw [m_all v2.1, bd_n, p2.2.2.1, m_pays p2 v2.2.1 hs' hj, bd_n]
        rcases HD_in n c HH (AL n) law ri sp s (hr + i) with z | ⟨j, z1, z2, z3⟩
        · rw [if_neg (by omega)]
          unfold p_X9_layRest_133
          rw [if_neg (by omega)]
          exact fin 0 0 (G0 a (Or.inl z)).symm (G0 b (Or.inl z)).symm
        · rw [z2]
          have qe : Qm d0 (up e 45 33 (wr (e 45 33 + 0))) := j1.tr ⟨fun i h => by funext z; rw [up_c _ _ _ _ h], fun f h1 h2 => by rw [up_k _ _ _ _ h1]⟩
          by_cases ja : j = a
          · subst ja
            rw [if_pos rfl]
            rw [bd_n, pe.2.2.1, m_pays pe ve.2.1 hs' z1, bd_n]
            unfold p_X9_layRest_133
            rw [if_neg (by omega)]
            exact fin _ 0 (G2 _ z2).symm (G0 b (Or.inr (by rw [z2]; simpa using hab))).symm
          · rw [if_neg (by omega)]
            unfold p_X9_layRest_133
            by_cases jb : j = b
            · subst jb
              have v2 := (v.md sg).md qe.qs
              have p2 := qe.pv (p := 54) (by decide) p1
              rw [if_pos rfl, m_all v2.1, bd_n, p2.2.2.1, m_pays p2 v2.2.1 hs' z1, bd_n]
              exact fin 0 _ (G0 a (Or.inr (by rw [z2]; simpa using ja))).symm (G2 _ z2).symm
            · rw [if_neg (by omega)]
              exact fin 0 0 (G0 a (Or.inr (by rw [z2]; simpa using ja))).symm (G0 b (Or.inr (by rw [z2]; simpa using jb))).symm
      · rintro f2 e ⟨j1, j2, j3⟩
        have ve := (v.md sg).md j1.qs
        simp only [p_X9_layRest_L69]
        unfold p_X9_layRest_69
        rw [ve.2.1.2.1, if_pos (by omega)]
        unfold p_X9_layRest_180
        rw [wr_s (a := (hr : Int) + (i : Int) + 1) (by omega) (by omega), Int.add_assoc]
        exact ⟨e, ⟨j1, j2, j3⟩, rfl⟩
    · rintro f d ⟨i1, i2, i3⟩
      have vd := (v.md sg).md i1.qs
      simp only [p_X9_layRest_L41]
      unfold p_X9_layRest_41
      rw [vd.2.2.2.1, wr_s (a := (hr : Int) + (m : Int)) (by omega) (by omega), if_pos (by omega)]
      exact done d i1 i2 i3
  · have eA : ∀ j, GG n c H k ri sp wo sm law hr cl m a b j x y = 0 := fun j => if_neg hcl
    have all : ∀ f : Nat, p_X9_layRest_L41 (f + 1) d1 (a : Int) (b : Int) (m : Int) (hr : Int) = some d1 := by
      intro f
      simp only [p_X9_layRest_L41]
      unfold p_X9_layRest_41
      split
      · rfl
      · rw [v1.2.2.2.2.1, if_neg hcl]
    rw [all 299]
    exact done d1 q0 (by rw [z33, eA]; omega) (by rw [z34, eA]; omega)
def K3 (h h' : Mem) : Prop := h' 45 31 = h 45 31 ∧ h' 45 32 = h 45 32
theorem y_doesRest (v : MV2 h n c H ow sm k ri sp wo law hr cl) {a b p m : Nat} (ha : a < n) (hb : b < n) (hab : a ≠ b) (hp : p < 100) (hm : m ≤ 10) {GA GB : Nat → Nat → Int} (hA : ∀ x y, x < 10 → y < 10 → GG n c H k ri sp wo sm law hr cl m a b a x y - (x : Int) = GA x y) (hB : ∀ x y, x < 10 → y < 10 → GG n c H k ri sp wo sm law hr cl m a b b x y - (y : Int) = GB x y) : ∃ h', p_X9_doesRest h (a : Int) ((p / 10 : Nat) : Int) (b : Int) ((p % 10 : Nat) : Int) (m : Int) = some (bi (Rst GA GB p), h') ∧ Sm h h' ∧ K3 h h' := by
  obtain ⟨g, eg, sg, g33, g34, g31, g32⟩ := y_lay v ha hb hab (x := p / 10) (y := p % 10) (by omega) (by omega) hm
  unfold p_X9_doesRest
  rw [eg, bd_n, g33, g34, hA _ _ (by omega) (by omega), hB _ _ (by omega) (by omega)]
  let ok : Nat → Prop := fun z => ¬ GA (p / 10) (p % 10) < GA z (p % 10) ∧ ¬ GB (p / 10) (p % 10) < GB (p / 10) z
  refine loop_x (fun f i (A : Mem × Int) => p_X9_doesRest_L29 f A.1 (a : Int) ((p / 10 : Nat) : Int) (b : Int) ((p % 10 : Nat) : Int) (m : Int) (GA (p / 10) (p % 10)) (GB (p / 10) (p % 10)) A.2 i) 10 (fun j A => Sm h A.1 ∧ K3 h A.1 ∧ A.2 = bi (∀ z, z < j → ok z)) (fun o => ∃ h', o = some (bi (Rst GA GB p), h') ∧ Sm h h' ∧ K3 h h') ?_ ?_ 300 0 (g, 1) (Nat.zero_le _) (by omega) ⟨sg, ⟨g31, g32⟩, (bi_t (fun z hz => by omega)).symm⟩
  · rintro f z ⟨e, w⟩ hz ⟨i1, i2, i3⟩
    simp only at i1 i2 i3
    subst i3
    simp only [p_X9_doesRest_L29]
    unfold p_X9_doesRest_29
    rw [if_neg (by omega)]
    by_cases q : ∀ z', z' < z → ok z'
    · left
      rw [bi_t q, if_neg (by decide)]
      have ve := v.md i1
      obtain ⟨e1, ee1, se1, x33, x34, x31, x32⟩ := y_lay ve ha hb hab (x := z) (y := p % 10) hz (by omega) hm
      have ve1 := ve.md se1
      obtain ⟨e2, ee2, se2, y33, y34, y31, y32⟩ := y_lay ve1 ha hb hab (x := p / 10) (y := z) (by omega) hz hm
      have kk : K3 h e2 := ⟨by rw [y31, x31, i2.1], by rw [y32, x32, i2.2]⟩
      rw [ee1, bd_n, x33, hA _ _ hz (by omega)]
      unfold p_X9_doesRest_67
      rw [ee2, bd_n, y34, hB _ _ (by omega) hz]
      refine ⟨(e2, bi (∀ z', z' < z + 1 → ok z')), ⟨(i1.tr se1).tr se2, kk, rfl⟩, ?_⟩
      have nx : ok z → (∀ z', z' < z + 1 → ok z') := by
        intro t z' hz'
        by_cases y : z' = z
        · subst y; exact t
        · exact q z' (by omega)
      by_cases t1 : GA (p / 10) (p % 10) < GA z (p % 10)
      · rw [if_pos t1, if_pos rfl, bi_f (fun y => (y z (by omega)).1 t1)]
        unfold p_X9_doesRest_98 p_X9_doesRest_99
        rw [wr_1 (by omega)]
      · rw [if_neg t1, bd_n, if_neg (by decide), y34, hB _ _ (by omega) hz]
        by_cases t2 : GB (p / 10) (p % 10) < GB (p / 10) z
        · rw [if_pos t2, bi_f (fun y => (y z (by omega)).2 t2)]
          unfold p_X9_doesRest_98 p_X9_doesRest_99
          rw [wr_1 (by omega)]
        · rw [if_neg t2, bi_t (nx ⟨t1, t2⟩)]
          unfold p_X9_doesRest_99
          rw [wr_1 (by omega)]
    · right
      rw [bi_f q, if_pos rfl, gd_w (Or.inl rfl), ← bi_f (P := Rst GA GB p) (fun y => q (fun z' hz' => y z' (by omega)))]
      exact ⟨e, rfl, i1, i2⟩
  · rintro f ⟨e, w⟩ ⟨i1, i2, i3⟩
    simp only at i1 i2 i3
    subst i3
    simp only [p_X9_doesRest_L29]
    unfold p_X9_doesRest_29
    rw [if_pos (by decide), gd_w (bi_01 _)]
    exact ⟨e, rfl, i1, i2⟩
theorem y_rests (v : MV2 h n c H ow sm k ri sp wo law hr cl) (a b m w : Int) : ∃ h', p_X9_rests h a b m w = some (s_rests n c H k ri sp wo sm law hr cl a b m w, h') ∧ Sm h h' := by
  have s0 := Sm.up0 h
  have v0 := v.md s0
  unfold p_X9_rests s_rests
  generalize up h 45 0 0 = g at *
  rw [m_noRoof v0.1, bd_n]
  by_cases qa : 0 ≤ a ∧ a < (n : Int)
  · rw [if10_t qa, if_pos qa, m_noRoof v0.1, bd_n]
    by_cases qb : 0 ≤ b ∧ b < (n : Int)
    · rw [if10_t qb, if_pos qb]
      by_cases ab : a = b
      · rw [if_pos ab, if_pos ab]; exact ⟨g, rfl, s0⟩
      · rw [if_neg ab, if_neg ab, m_in, bd_n]
        by_cases q : 1 ≤ m ∧ m ≤ 10
        · rw [if01_t q, if_pos q, m_in, bd_n]
          by_cases w1 : 0 ≤ w ∧ w ≤ 1
          · rw [if01_t w1, if_pos w1]
            obtain ⟨m', rfl⟩ := toN (show 0 ≤ m by omega)
            obtain ⟨a', rfl⟩ := toN qa.1
            obtain ⟨b', rfl⟩ := toN qb.1
            simp only [Int.toNat_natCast]
            have ha : a' < n := by omega
            have hb : b' < n := by omega
            obtain ⟨GA, hA⟩ : ∃ GA : Nat → Nat → Int, (fun x y => GG n c H k ri sp wo sm law hr cl m' a' b' a' x y - (x : Int)) = GA := ⟨_, rfl⟩
            obtain ⟨GB, hB⟩ : ∃ GB : Nat → Nat → Int, (fun x y => GG n c H k ri sp wo sm law hr cl m' a' b' b' x y - (y : Int)) = GB := ⟨_, rfl⟩
            rw [hA, hB]
            have hA' : ∀ x y, x < 10 → y < 10 → GG n c H k ri sp wo sm law hr cl m' a' b' a' x y - (x : Int) = GA x y := fun x y _ _ => by rw [← hA]
            have hB' : ∀ x y, x < 10 → y < 10 → GG n c H k ri sp wo sm law hr cl m' a' b' b' x y - (y : Int) = GB x y := fun x y _ _ => by rw [← hB]
            have s1 : Sm g (up (up g 45 31 0) 45 32 (-9)) := (Sm.up45 g (by decide) _).tr (Sm.up45 _ (by decide) _)
            have z31 : up (up g 45 31 0) 45 32 (-9) 45 31 = 0 := by rw [up_k _ _ _ _ (by decide), up_eq]
            have z32 : up (up g 45 31 0) 45 32 (-9) 45 32 = -9 := by rw [up_eq]
            generalize up (up g 45 31 0) 45 32 (-9) = g1 at *
            refine loop_inv (fun f i (d : Mem) => p_X9_rests_L68 f d (a' : Int) (b' : Int) (m' : Int) w i) 100 (fun j d => Sm h d ∧ d 45 31 = ((cnt (Rst GA GB) j : Nat) : Int) ∧ d 45 32 = fromF (Rst GA GB) (fun p => (p : Int)) (-9) j 0) (fun o => ∃ h', o = some (if w = 0 then ((cnt (Rst GA GB) 100 : Nat) : Int) else fromF (Rst GA GB) (fun p => (p : Int)) (-9) 100 0, h') ∧ Sm h h') ?_ ?_ 300 0 g1 (Nat.zero_le _) (by omega) ⟨s0.tr s1, z31, z32⟩
            · rintro f p d hp ⟨i1, i2, i3⟩
              obtain ⟨e, ee, se, k31, k32⟩ := y_doesRest (v.md i1) ha hb (by omega) hp (by omega) hA' hB'
              have cl1 := cnt_le (Rst GA GB) p
              simp only [p_X9_rests_L68]
              unfold p_X9_rests_68
              rw [if_neg (by omega), show (10 : Int) = ((10 : Nat) : Int) from rfl, qdiv_n (by omega) (by omega) (by omega), qrem_n (by omega) (by omega) (by omega), ee, bd_n]
              by_cases q1 : Rst GA GB p
              · simp only [bi_t q1]
                rw [if_neg (by decide), k31, i2]
                have fin : ∀ x : Int, x = fromF (Rst GA GB) (fun p => (p : Int)) (-9) (p + 1) 0 → ∃ a'_1, (Sm h a'_1 ∧ a'_1 45 31 = ((cnt (Rst GA GB) (p + 1) : Nat) : Int) ∧ a'_1 45 32 = fromF (Rst GA GB) (fun p => (p : Int)) (-9) (p + 1) 0) ∧ p_X9_rests_112 (fun h l1 l2 l3 l4 l5 => p_X9_rests_L68 f h l1 l2 l3 l4 l5) e (a' : Int) (b' : Int) (m' : Int) w (p : Int) x = p_X9_rests_L68 f a'_1 (a' : Int) (b' : Int) (m' : Int) w ((p : Int) + 1) := by
                  intro x hx
                  unfold p_X9_rests_112 p_X9_rests_125
                  rw [up_k _ _ _ _ (show (31 : Int) ≠ 32 by decide), k31, i2, wr_1 (by omega), wr_1 (by omega)]
                  refine ⟨_, ⟨((i1.tr se).tr (Sm.up45 e (by decide) _)).tr (Sm.up45 _ (by decide) _), ?_, ?_⟩, rfl⟩
                  · rw [up_eq, cnt_t q1]; omega
                  · rw [up_k _ _ _ _ (by decide), up_eq, hx]
                by_cases c0 : cnt (Rst GA GB) p = 0
                · rw [if_pos (by omega)]
                  refine fin _ ?_
                  have := fromF_last (P := Rst GA GB) (r := fun p => (p : Int)) (r0 := -9) p 0 (fun i _ h2 => (cnt_0 p).mp c0 i (by omega)) (by rw [Nat.zero_add]; exact q1)
                  rw [this, Nat.zero_add]
                · rw [if_neg (by omega), k32, i3]
                  refine fin _ ?_
                  rw [fromF_more p 0]
                  refine Or.inl ?_
                  apply Classical.byContradiction
                  intro y
                  exact c0 ((cnt_0 p).mpr (fun i hi t => y ⟨i, Nat.zero_le _, by omega, t⟩))
              · simp only [bi_f q1]
                rw [if_pos trivial]
                unfold p_X9_rests_125
                rw [wr_1 (by omega)]
                refine ⟨e, ⟨i1.tr se, by rw [k31, i2, cnt_f q1], by rw [k32, i3, fromF_more p 0 (Or.inr (by rw [Nat.zero_add]; exact q1))]⟩, rfl⟩
            · rintro f d ⟨i1, i2, i3⟩
              simp only [p_X9_rests_L68]
              unfold p_X9_rests_68
              rw [if_pos (by decide)]
              unfold p_X9_rests_131
              rw [i2, i3]
              refine ⟨d, ?_, i1⟩
              split <;> rfl
          · rw [if01_f w1, if_neg w1]; exact ⟨g, rfl, s0⟩
        · rw [if01_f q, if_neg q]; exact ⟨g, rfl, s0⟩
    · rw [if10_f qb, if_neg qb]; exact ⟨g, rfl, s0⟩
  · rw [if10_f qa, if_neg qa]; exact ⟨g, rfl, s0⟩
end RESTS
