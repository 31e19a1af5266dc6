/-! ===== the reference reads the text ===== -/
def RV (m : Mem) (S : TS) : Prop := m 45 12 = (tn S : Int) ∧ m 45 13 = (tk S : Int) ∧ (∀ r : Nat, r < tn S → m 51 (4 * (r : Int)) = ((tc S r).val : Int) ∧ m 51 (4 * (r : Int) + 1) = ((tH S r).val : Int) ∧ m 51 (4 * (r : Int) + 2) = ((tS S r).val : Int) ∧ m 51 (4 * (r : Int) + 3) = ((tO S r).val : Int)) ∧ ∀ s : Nat, s < tk S → m 52 (3 * (s : Int)) = ((tri S s).val : Int) ∧ m 52 (3 * (s : Int) + 1) = ((tsp S s).val : Int) ∧ m 52 (3 * (s : Int) + 2) = ((two S s).val : Int)
section READ
variable {h h' g m : Mem} {tx : Nat} {by' : Nat → Fin 256} {S : TS} {p i : Nat}
theorem TM.md (v : TM h tx by') (s : Sm h h') : TM h' tx by' := v.same (s.1 46 (by decide) (by decide) (by decide) (by decide) (by decide) (by decide)) (s.2 2 (by decide))
theorem y_figure (v : TM m tx by') (htx : tx ≤ 48) (h3 : m 45 3 = (i : Int)) (hi : i ≤ tx) {lo hh : Int} (hlo : 0 ≤ lo) : p_X9_figure m lo hh = if Dg tx by' i lo hh then some (chr tx by' i - 48, up m 45 3 ((i : Int) + 1)) else some (-9, m) := by
  obtain ⟨v1, v2⟩ := v
  have cb := chr_b tx by' i
  unfold p_X9_figure
  rw [h3, v1]
  by_cases e : i = tx
  · subst e
    have e1 : chr i by' i = -1 := if_neg (by omega)
    rw [if_pos rfl, if_neg (fun z : Dg i by' i lo hh => by have := z.1; omega)]
  · have ec : chr tx by' i = ((by' i).val : Int) := if_pos (by omega)
    rw [if_neg (by omega), gd_w (by omega), v2 i (by omega), ← ec, wr_s (by omega) (by omega), m_in, bd_n]
    by_cases q : Dg tx by' i lo hh
    · rw [if01_t q, if_pos q, wr_1 (by omega), up_eq, wr_s (a := (i : Int) + 1 - 1) (by omega) (by omega), show (i : Int) + 1 - 1 = (i : Int) by omega, gd_w (by omega), up_c _ _ _ _ (by decide), v2 i (by omega), ← ec, wr_s (by omega) (by omega)]
    · rw [if01_f q, if_neg q]
theorem y_taken (v : RV m S) (n5 : tn S ≤ 5) (x : Int) : p_X9_isTaken m x = some (bi (∃ r, r < tn S ∧ ((tc S r).val : Int) = x)) := by
  obtain ⟨v1, v2, v3, v4⟩ := v
  unfold p_X9_isTaken
  refine loop_inv (fun f i a => p_X9_isTaken_L4 m f x a i) (tn S) (fun j a => a = bi (∃ r, r < j ∧ ((tc S r).val : Int) = x)) (fun o => o = some (bi (∃ r, r < tn S ∧ ((tc S r).val : Int) = x))) ?_ ?_ 300 0 0 (Nat.zero_le _) (by omega) (bi_f (fun ⟨r, y, _⟩ => by omega)).symm
  · intro f j a hj hI
    subst hI
    refine ⟨_, rfl, ?_⟩
    simp only [p_X9_isTaken_L4]
    unfold p_X9_isTaken_4
    rw [v1, if_neg (by omega)]
    by_cases q : ∃ r, r < j ∧ ((tc S r).val : Int) = x
    · rw [bi_t q, if_neg (by decide), bi_t (by obtain ⟨r, r1, r2⟩ := q; exact ⟨r, by omega, r2⟩)]
      unfold p_X9_isTaken_28 p_X9_isTaken_33
      rw [wr_1 (by omega)]
    · rw [bi_f q, if_pos rfl, wr_s (a := 4 * (j : Int)) (by omega) (by omega), gd_w (by omega), (v3 j hj).1]
      by_cases e : ((tc S j).val : Int) = x
      · rw [if_pos e, bi_t ⟨j, by omega, e⟩]
        unfold p_X9_isTaken_28 p_X9_isTaken_33
        rw [wr_1 (by omega)]
      · rw [if_neg e, bi_f (by
          rintro ⟨r, r1, r2⟩
          by_cases er : r = j
          · subst er; exact e r2
          · exact q ⟨r, by omega, r2⟩)]
        unfold p_X9_isTaken_33
        rw [wr_1 (by omega)]
  · intro f a hI
    subst hI
    simp only [p_X9_isTaken_L4]
    unfold p_X9_isTaken_4
    rw [v1, if_pos (by omega), gd_w (bi_01 _)]
/-- what reading may change -/
theorem Sm.rd (m : Mem) {f : Int} (hf : f = 3 ∨ f = 11 ∨ f = 12 ∨ f = 13) (a : Int) : Sm m (up m 45 f a) := Sm.up45 m (by omega) a
theorem y_fig1 (v : TM m tx by') (htx : tx ≤ 48) (h3 : m 45 3 = (i : Int)) (hi : i ≤ tx) {n l : Nat} (h12 : m 45 12 = (n : Int)) (hn : n < 5) (hl : l < 4) (hh : Int) (hb : hh ≤ 9) (K : Mem → Int → Option (Int × Mem)) : p_X9_readRoof_61 K m (l : Int) 0 hh = if Dg tx by' i 0 hh then K (up (up m 45 3 (((i + 1 : Nat) : Int))) 51 (((4 * n + l : Nat) : Int)) ((dv tx by' i : Nat) : Int)) (((l + 1 : Nat) : Int)) else some (0, m) := by
  unfold p_X9_readRoof_61
  rw [y_figure v htx h3 hi (by decide)]
  by_cases q : Dg tx by' i 0 hh
  · have ed := dv_of q
    rw [if_pos q, if_pos q, bd_n]
    simp only []
    have e12 : up m 45 3 ((i : Int) + 1) 45 12 = (n : Int) := by rw [up_k _ _ _ _ (by decide)]; exact h12
    simp only [e12]
    rw [if_neg (by omega), wr_s (a := 4 * (n : Int)) (by omega) (by omega), wr_s (a := 4 * (n : Int) + (l : Int)) (by omega) (by omega), gd_w (by omega), wr_1 (by omega), ed, show ((4 * n + l : Nat) : Int) = 4 * (n : Int) + (l : Int) by omega, show ((i + 1 : Nat) : Int) = (i : Int) + 1 by omega, show ((l + 1 : Nat) : Int) = (l : Int) + 1 by omega]
  · rw [if_neg q, if_neg q, bd_n]
    simp only []
    rw [if_pos trivial]
theorem rdS (f : Nat) (m : Mem) (l : Int) : p_X9_readRoof_L34 (f + 1) m l = p_X9_readRoof_34 (fun h l1 => p_X9_readRoof_L34 f h l1) m l := rfl
def Fx (tx : Nat) (by' : Nat → Fin 256) (m : Mem) (i n j : Nat) (d : Mem) : Prop := Sm m d ∧ (∀ z : Int, z ≠ 3 → z ≠ 12 → d 45 z = m 45 z) ∧ d 52 = m 52 ∧ (∀ z : Int, z < 4 * (n : Int) → d 51 z = m 51 z) ∧ d 45 3 = ((i + j : Nat) : Int) ∧ d 45 12 = (n : Int) ∧ ∀ t : Nat, t < j → d 51 (4 * (n : Int) + (t : Int)) = ((dv tx by' (i + t) : Nat) : Int)
theorem lt_tx {j : Nat} {lo hh : Int} (h0 : 0 ≤ lo) (q : Dg tx by' j lo hh) : j < tx := by
  have := q.1
  unfold chr at this
  split at this <;> omega
def Bd (l : Nat) : Int := if l < 2 then 9 else if l = 2 then 1 else 3
theorem y_one (v : TM m tx by') (htx : tx ≤ 48) {n j : Nat} (hn : n < 5) (hj : j < 4) {d : Mem} (F : Fx tx by' m i n j d) (hi : i + j ≤ tx) (f : Nat) : (Dg tx by' (i + j) 0 (Bd j) ∧ ∃ e, Fx tx by' m i n (j + 1) e ∧ p_X9_readRoof_L34 (f + 1) d (j : Int) = p_X9_readRoof_L34 f e ((j + 1 : Nat) : Int)) ∨ (¬ Dg tx by' (i + j) 0 (Bd j) ∧ p_X9_readRoof_L34 (f + 1) d (j : Int) = some (0, d)) := by
  obtain ⟨F1, F2, F3, F4, F5, F6, F7⟩ := F
  have vd := v.md F1
  have bd9 : Bd j ≤ 9 := by unfold Bd; split <;> (try split) <;> omega
  have e : p_X9_readRoof_L34 (f + 1) d (j : Int) = p_X9_readRoof_61 (fun h l1 => p_X9_readRoof_L34 f h l1) d (j : Int) 0 (Bd j) := by
    rw [rdS]
    unfold p_X9_readRoof_34 Bd
    rw [if_neg (by omega)]
    by_cases j2 : j < 2
    · rw [if_neg (by omega), if_pos j2]
    · rw [if_pos (by omega), if_neg j2]
      by_cases j3 : j = 2
      · rw [if_pos (by omega), if_pos j3]
      · rw [if_neg (by omega), if_neg j3]
  rw [e, y_fig1 vd htx F5 hi F6 hn hj (Bd j) bd9]
  by_cases q : Dg tx by' (i + j) 0 (Bd j)
  · left
    rw [if_pos q]
    refine ⟨q, _, ⟨?_, ?_, ?_, ?_, ?_, ?_, ?_⟩, rfl⟩
    · exact (F1.tr (Sm.rd d (Or.inl rfl) _)).tr (Sm.upr _ (by decide) _ _)
    · intro z z3 z12; rw [up_c _ _ _ _ (by decide), up_k _ _ _ _ z3]; exact F2 z z3 z12
    · rw [← F3]; funext z; rw [up_c _ _ _ _ (by decide), up_c _ _ _ _ (by decide)]
    · intro z hz; rw [up_k _ _ _ _ (by omega), up_c _ _ _ _ (by decide)]; exact F4 z hz
    · rw [up_c _ _ _ _ (by decide), up_eq]; omega
    · rw [up_c _ _ _ _ (by decide), up_k _ _ _ _ (by decide)]; exact F6
    · intro t ht
      by_cases et : t = j
      · subst et
        rw [show 4 * (n : Int) + (t : Int) = ((4 * n + t : Nat) : Int) by omega, up_eq]
      · rw [up_k _ _ _ _ (by omega), up_c _ _ _ _ (by decide)]; exact F7 t (by omega)
  · right
    rw [if_neg q]
    exact ⟨q, rfl⟩
/-- a roof -/
theorem y_readRoof (v : TM m tx by') (htx : tx ≤ 48) (r : RV m S) (n5 : tn S < 5) (h3 : m 45 3 = ((p + 1 : Nat) : Int)) (hp : p + 1 ≤ tx) : ∃ b m', p_X9_readRoof m = some (b, m') ∧ Sm m m' ∧ m' 45 11 = m 45 11 ∧ ((b = 0 ∧ rflt tx by' S p ≠ -9 ∧ m' 45 3 = rflt tx by' S p) ∨ (b = 1 ∧ rflt tx by' S p = -9 ∧ m' 45 3 = ((p + 5 : Nat) : Int) ∧ RV m' (addR tx by' S p))) := by
  obtain ⟨r1, r2, r3, r4⟩ := id r
  have F0 : Fx tx by' m (p + 1) (tn S) 0 m := ⟨Sm.rf m, fun _ _ _ => rfl, rfl, fun _ _ => rfl, h3, r1, fun t ht => by omega⟩
  have fail : ∀ (d : Mem) (j : Nat) (x : Int), Fx tx by' m (p + 1) (tn S) j d → rflt tx by' S p = x → x = ((p + 1 + j : Nat) : Int) → ((0 : Int) = 0 ∧ rflt tx by' S p ≠ -9 ∧ d 45 3 = rflt tx by' S p) := fun d j x F h1 h2 => ⟨rfl, by omega, by rw [F.2.2.2.2.1, h1, h2]⟩
  have four : ¬ Tkn S (dv tx by' (p + 1)) ∨ ¬ Dg tx by' (p + 1) 0 9 → ∃ b m', p_X9_readRoof_32 m = some (b, m') ∧ Sm m m' ∧ m' 45 11 = m 45 11 ∧ ((b = 0 ∧ rflt tx by' S p ≠ -9 ∧ m' 45 3 = rflt tx by' S p) ∨ (b = 1 ∧ rflt tx by' S p = -9 ∧ m' 45 3 = ((p + 5 : Nat) : Int) ∧ RV m' (addR tx by' S p))) := by
    intro free
    unfold p_X9_readRoof_32
    rcases y_one v htx n5 (by decide) F0 hp 299 with ⟨q1, e1, F1, E1⟩ | ⟨q1, E1⟩
    · have l1 := lt_tx (Int.le_refl 0) q1
      have q1' : Dg tx by' (p + 1) 0 9 := q1
      have ok : OkR tx by' S p := ⟨q1', by rcases free with z | z; exact z; exact absurd q1' z⟩
      have ro : rflt tx by' S p = (if Dg tx by' (p + 2) 0 9 then if Dg tx by' (p + 3) 0 1 then if Dg tx by' (p + 4) 0 3 then -9 else ((p + 4 : Nat) : Int) else ((p + 3 : Nat) : Int) else ((p + 2 : Nat) : Int)) := if_pos ok
      rcases y_one v htx n5 (by decide) F1 (by omega) 298 with ⟨q2, e2, F2, E2⟩ | ⟨q2, E2⟩
      · have l2 := lt_tx (Int.le_refl 0) q2
        have q2' : Dg tx by' (p + 2) 0 9 := q2
        rcases y_one v htx n5 (by decide) F2 (by omega) 297 with ⟨q3, e3, F3, E3⟩ | ⟨q3, E3⟩
        · have l3 := lt_tx (Int.le_refl 0) q3
          have q3' : Dg tx by' (p + 3) 0 1 := q3
          rcases y_one v htx n5 (by decide) F3 (by omega) 296 with ⟨q4, e4, F4, E4⟩ | ⟨q4, E4⟩
          · have q4' : Dg tx by' (p + 4) 0 3 := q4
            have ro9 : rflt tx by' S p = -9 := by rw [ro, if_pos q2', if_pos q3', if_pos q4']
            obtain ⟨G1, G2, G3, G4, G5, G6, G7⟩ := F4
            have last : p_X9_readRoof_L34 296 e4 ((0 + 1 + 1 + 1 + 1 : Nat) : Int) = some (1, up e4 45 12 (((tn S + 1 : Nat) : Int))) := by
              show p_X9_readRoof_L34 (295 + 1) e4 4 = _
              rw [rdS]
              unfold p_X9_readRoof_34 p_X9_readRoof_93
              rw [if_pos (by decide), G6, wr_1 (by omega)]
              rfl
            refine ⟨1, up e4 45 12 (((tn S + 1 : Nat) : Int)), E1.trans (E2.trans (E3.trans (E4.trans last))), G1.tr (Sm.rd e4 (by decide) _), by rw [up_k _ _ _ _ (by decide)]; exact G2 11 (by decide) (by decide), Or.inr ⟨rfl, ro9, by rw [up_k _ _ _ _ (by decide), G5], ?_⟩⟩
            have d1 : dv tx by' (p + 1) < 10 := by have := dv_of q1'; omega
            have d2 : dv tx by' (p + 2) < 10 := by have := dv_of q2'; omega
            have d3 : dv tx by' (p + 3) < 2 := by have := dv_of q3'; omega
            have d4 : dv tx by' (p + 4) < 4 := by have := dv_of q4'; omega
            have g0 := G7 0 (by decide)
            have g1 := G7 1 (by decide)
            have g2 := G7 2 (by decide)
            have g3 := G7 3 (by decide)
            refine ⟨up_eq _ _ _ _, by rw [up_k _ _ _ _ (by decide), G2 13 (by decide) (by decide)]; exact r2, fun r hr => ?_, fun s hs => ?_⟩
            · have hr : r < tn S + 1 := hr
              have e51 : ∀ z, up e4 45 12 (((tn S + 1 : Nat) : Int)) 51 z = e4 51 z := fun z => up_c _ _ _ _ (by decide)
              rw [e51, e51, e51, e51]
              show e4 51 (4 * (r : Int)) = ((setA (tc S) (tn S) (fd (dv tx by' (p + 1))) r).val : Int) ∧ e4 51 (4 * (r : Int) + 1) = ((setA (tH S) (tn S) (fd (dv tx by' (p + 2))) r).val : Int) ∧ e4 51 (4 * (r : Int) + 2) = ((setA (tS S) (tn S) (f2 (dv tx by' (p + 3))) r).val : Int) ∧ e4 51 (4 * (r : Int) + 3) = ((setA (tO S) (tn S) (fo (dv tx by' (p + 4))) r).val : Int)
              by_cases er : r = tn S
              · subst er
                rw [setA_e, setA_e, setA_e, setA_e, fd_v d1, fd_v d2, f2_v d3, fo_v d4]
                exact ⟨by have := g0; simpa using this, g1, g2, g3⟩
              · rw [setA_n _ _ er, setA_n _ _ er, setA_n _ _ er, setA_n _ _ er, G4 _ (by omega), G4 _ (by omega), G4 _ (by omega), G4 _ (by omega)]
                exact r3 r (by omega)
            · have e52 : up e4 45 12 (((tn S + 1 : Nat) : Int)) 52 = m 52 := by rw [← G3]; funext z; exact up_c _ _ _ _ (by decide)
              rw [e52]
              exact r4 s hs
          · have q4' : ¬ Dg tx by' (p + 4) 0 3 := q4
            exact ⟨0, e3, E1.trans (E2.trans (E3.trans E4)), F3.1, F3.2.1 11 (by decide) (by decide), Or.inl (fail e3 3 _ F3 (by rw [ro, if_pos q2', if_pos q3', if_neg q4']) rfl)⟩
        · have q3' : ¬ Dg tx by' (p + 3) 0 1 := q3
          exact ⟨0, e2, E1.trans (E2.trans E3), F2.1, F2.2.1 11 (by decide) (by decide), Or.inl (fail e2 2 _ F2 (by rw [ro, if_pos q2', if_neg q3']) rfl)⟩
      · have q2' : ¬ Dg tx by' (p + 2) 0 9 := q2
        exact ⟨0, e1, E1.trans E2, F1.1, F1.2.1 11 (by decide) (by decide), Or.inl (fail e1 1 _ F1 (by rw [ro, if_neg q2']) rfl)⟩
    · have q1' : ¬ Dg tx by' (p + 1) 0 9 := q1
      exact ⟨0, m, E1, Sm.rf m, rfl, Or.inl (fail m 0 _ F0 (if_neg (fun z : OkR tx by' S p => q1' z.1)) rfl)⟩
  unfold p_X9_readRoof
  rw [v.1, h3]
  by_cases e : tx ≤ p + 1
  · rw [if_pos (by omega)]
    exact four (Or.inr (fun q => by have := lt_tx (Int.le_refl 0) q; omega))
  · have ec : m 46 ((p + 1 : Nat) : Int) = chr tx by' (p + 1) := by
      unfold chr
      rw [if_pos (by omega)]
      exact v.2 (p + 1) (by omega)
    have cb := chr_b tx by' (p + 1)
    rw [if_neg (by omega), gd_w (by omega), ec, wr_s (by omega) (by omega), y_taken r (by omega), bd_n]
    by_cases q : ∃ r, r < tn S ∧ ((tc S r).val : Int) = chr tx by' (p + 1) - 48
    · rw [bi_t q, if_neg (by decide)]
      have rf : rflt tx by' S p = ((p + 1 : Nat) : Int) := by
        refine if_neg (fun z : OkR tx by' S p => z.2 ?_)
        obtain ⟨r, y1, y2⟩ := q
        exact ⟨r, y1, by have := dv_of z.1; omega⟩
      exact ⟨0, m, rfl, Sm.rf m, rfl, Or.inl ⟨rfl, by rw [rf]; omega, by rw [h3, rf]⟩⟩
    · rw [bi_f q, if_pos rfl]
      by_cases q1 : Dg tx by' (p + 1) 0 9
      · refine four (Or.inl (fun z => q ?_))
        obtain ⟨r, y1, y2⟩ := z
        exact ⟨r, y1, by have := dv_of q1; omega⟩
      · exact four (Or.inr q1)
def Fy (tx : Nat) (by' : Nat → Fin 256) (m : Mem) (i n j : Nat) (d : Mem) : Prop := Sm m d ∧ (∀ z : Int, z ≠ 3 → z ≠ 13 → d 45 z = m 45 z) ∧ d 51 = m 51 ∧ (∀ z : Int, z < 3 * (n : Int) → d 52 z = m 52 z) ∧ d 45 3 = ((i + j : Nat) : Int) ∧ d 45 13 = (n : Int) ∧ ∀ t : Nat, t < j → d 52 (3 * (n : Int) + (t : Int)) = ((dv tx by' (i + t) : Nat) : Int)
theorem stS (f : Nat) (m : Mem) (l : Int) : p_X9_readStar_L2 (f + 1) m l = p_X9_readStar_2 (fun h l1 => p_X9_readStar_L2 f h l1) m l := rfl
def Lw (l : Nat) : Int := if l = 2 then 1 else 0
def Hw (l : Nat) : Int := if l = 1 then 3 else 9
theorem y_sone (v : TM m tx by') (htx : tx ≤ 48) {n j : Nat} (hn : n < 4) (hj : j < 3) {d : Mem} (F : Fy tx by' m i n j d) (hi : i + j ≤ tx) (f : Nat) : (Dg tx by' (i + j) (Lw j) (Hw j) ∧ ∃ e, Fy tx by' m i n (j + 1) e ∧ p_X9_readStar_L2 (f + 1) d (j : Int) = p_X9_readStar_L2 f e ((j + 1 : Nat) : Int)) ∨ (¬ Dg tx by' (i + j) (Lw j) (Hw j) ∧ p_X9_readStar_L2 (f + 1) d (j : Int) = some (0, d)) := by
  obtain ⟨F1, F2, F3, F4, F5, F6, F7⟩ := F
  have vd := v.md F1
  have lw : 0 ≤ Lw j := by unfold Lw; split <;> omega
  have e : p_X9_readStar_L2 (f + 1) d (j : Int) = bd (p_X9_figure d (Lw j) (Hw j)) (fun q => p_X9_readStar_42 (fun h l1 => p_X9_readStar_L2 f h l1) q.2 (j : Int) q.1) := by
    rw [stS]
    unfold p_X9_readStar_2 Lw Hw
    rw [if_neg (by omega)]
    have c : j = 0 ∨ j = 1 ∨ j = 2 := by omega
    rcases c with rfl | rfl | rfl
    · rfl
    · rfl
    · rfl
  rw [e, y_figure vd htx F5 hi lw]
  by_cases q : Dg tx by' (i + j) (Lw j) (Hw j)
  · left
    have ed : ((dv tx by' (i + j) : Nat) : Int) = chr tx by' (i + j) - 48 := by have := q.1; unfold dv; omega
    refine ⟨q, ?_⟩
    rw [if_pos q, bd_n]
    unfold p_X9_readStar_42
    simp only []
    have e13 : up d 45 3 (((i + j : Nat) : Int) + 1) 45 13 = (n : Int) := by rw [up_k _ _ _ _ (by decide)]; exact F6
    simp only [e13]
    rw [if_neg (by omega), wr_s (a := 3 * (n : Int)) (by omega) (by omega), wr_s (a := 3 * (n : Int) + (j : Int)) (by omega) (by omega), gd_w (by omega), wr_1 (by omega), ← ed]
    refine ⟨_, ⟨?_, ?_, ?_, ?_, ?_, ?_, ?_⟩, by rw [show ((j + 1 : Nat) : Int) = (j : Int) + 1 by omega]⟩
    · exact (F1.tr (Sm.rd d (Or.inl rfl) _)).tr (Sm.upr _ (by decide) _ _)
    · intro z z3 z12; rw [up_c _ _ _ _ (by decide), up_k _ _ _ _ z3]; exact F2 z z3 z12
    · rw [← F3]; funext z; rw [up_c _ _ _ _ (by decide), up_c _ _ _ _ (by decide)]
    · intro z hz; rw [up_k _ _ _ _ (by omega), up_c _ _ _ _ (by decide)]; exact F4 z hz
    · rw [up_c _ _ _ _ (by decide), up_eq]; omega
    · rw [up_c _ _ _ _ (by decide), up_k _ _ _ _ (by decide)]; exact F6
    · intro t ht
      by_cases et : t = j
      · subst et
        rw [up_eq]
      · rw [up_k _ _ _ _ (by omega), up_c _ _ _ _ (by decide)]; exact F7 t (by omega)
  · right
    rw [if_neg q, bd_n]
    exact ⟨q, rfl⟩
theorem y_readStar (v : TM m tx by') (htx : tx ≤ 48) (r : RV m S) (k4 : tk S < 4) (h3 : m 45 3 = ((p + 1 : Nat) : Int)) (hp : p + 1 ≤ tx) : ∃ b m', p_X9_readStar m = some (b, m') ∧ Sm m m' ∧ m' 45 11 = m 45 11 ∧ ((b = 0 ∧ sflt tx by' p ≠ -9 ∧ m' 45 3 = sflt tx by' p) ∨ (b = 1 ∧ sflt tx by' p = -9 ∧ m' 45 3 = ((p + 4 : Nat) : Int) ∧ RV m' (addS tx by' S p))) := by
  obtain ⟨r1, r2, r3, r4⟩ := id r
  have F0 : Fy tx by' m (p + 1) (tk S) 0 m := ⟨Sm.rf m, fun _ _ _ => rfl, rfl, fun _ _ => rfl, h3, r2, fun t ht => by omega⟩
  have fail : ∀ (d : Mem) (j : Nat) (x : Int), Fy tx by' m (p + 1) (tk S) j d → sflt tx by' p = x → x = ((p + 1 + j : Nat) : Int) → ((0 : Int) = 0 ∧ sflt tx by' p ≠ -9 ∧ d 45 3 = sflt tx by' p) := fun d j x F h1 h2 => ⟨rfl, by omega, by rw [F.2.2.2.2.1, h1, h2]⟩
  have so : sflt tx by' p = (if Dg tx by' (p + 1) 0 9 then if Dg tx by' (p + 2) 0 3 then if Dg tx by' (p + 3) 1 9 then -9 else ((p + 3 : Nat) : Int) else ((p + 2 : Nat) : Int) else ((p + 1 : Nat) : Int)) := rfl
  unfold p_X9_readStar
  rcases y_sone v htx k4 (by decide) F0 hp 299 with ⟨q1, e1, F1, E1⟩ | ⟨q1, E1⟩
  · have l1 := lt_tx (show (0 : Int) ≤ Lw 0 by decide) q1
    have q1' : Dg tx by' (p + 1) 0 9 := q1
    rcases y_sone v htx k4 (by decide) F1 (by omega) 298 with ⟨q2, e2, F2, E2⟩ | ⟨q2, E2⟩
    · have l2 := lt_tx (show (0 : Int) ≤ Lw 1 by decide) q2
      have q2' : Dg tx by' (p + 2) 0 3 := q2
      rcases y_sone v htx k4 (by decide) F2 (by omega) 297 with ⟨q3, e3, F3, E3⟩ | ⟨q3, E3⟩
      · have q3' : Dg tx by' (p + 3) 1 9 := q3
        have ro9 : sflt tx by' p = -9 := by rw [so, if_pos q1', if_pos q2', if_pos q3']
        obtain ⟨G1, G2, G3, G4, G5, G6, G7⟩ := F3
        have last : p_X9_readStar_L2 297 e3 ((0 + 1 + 1 + 1 : Nat) : Int) = some (1, up e3 45 13 (((tk S + 1 : Nat) : Int))) := by
          show p_X9_readStar_L2 (296 + 1) e3 3 = _
          rw [stS]
          unfold p_X9_readStar_2 p_X9_readStar_71
          rw [if_pos (by decide), G6, wr_1 (by omega)]
          rfl
        refine ⟨1, up e3 45 13 (((tk S + 1 : Nat) : Int)), E1.trans (E2.trans (E3.trans last)), G1.tr (Sm.rd e3 (by decide) _), by rw [up_k _ _ _ _ (by decide)]; exact G2 11 (by decide) (by decide), Or.inr ⟨rfl, ro9, by rw [up_k _ _ _ _ (by decide), G5], ?_⟩⟩
        have d1 : dv tx by' (p + 1) < 10 := by have := dv_of q1'; omega
        have d2 : dv tx by' (p + 2) < 4 := by have := dv_of q2'; omega
        have d3 : dv tx by' (p + 3) < 10 := by have := q3'; unfold dv; omega
        have g0 := G7 0 (by decide)
        have g1 := G7 1 (by decide)
        have g2 := G7 2 (by decide)
        refine ⟨by rw [up_k _ _ _ _ (by decide), G2 12 (by decide) (by decide)]; exact r1, up_eq _ _ _ _, fun r hr => ?_, fun s hs => ?_⟩
        · have e51 : up e3 45 13 (((tk S + 1 : Nat) : Int)) 51 = m 51 := by rw [← G3]; funext z; exact up_c _ _ _ _ (by decide)
          rw [e51]
          exact r3 r hr
        · have hs : s < tk S + 1 := hs
          have e52 : ∀ z, up e3 45 13 (((tk S + 1 : Nat) : Int)) 52 z = e3 52 z := fun z => up_c _ _ _ _ (by decide)
          rw [e52, e52, e52]
          show e3 52 (3 * (s : Int)) = ((setA (tri S) (tk S) (fd (dv tx by' (p + 1))) s).val : Int) ∧ e3 52 (3 * (s : Int) + 1) = ((setA (tsp S) (tk S) (fo (dv tx by' (p + 2))) s).val : Int) ∧ e3 52 (3 * (s : Int) + 2) = ((setA (two S) (tk S) (fd (dv tx by' (p + 3))) s).val : Int)
          by_cases er : s = tk S
          · subst er
            rw [setA_e, setA_e, setA_e, fd_v d1, fo_v d2, fd_v d3]
            exact ⟨by have := g0; simpa using this, g1, g2⟩
          · rw [setA_n _ _ er, setA_n _ _ er, setA_n _ _ er, G4 _ (by omega), G4 _ (by omega), G4 _ (by omega)]
            exact r4 s (by omega)
      · have q3' : ¬ Dg tx by' (p + 3) 1 9 := q3
        exact ⟨0, e2, E1.trans (E2.trans E3), F2.1, F2.2.1 11 (by decide) (by decide), Or.inl (fail e2 2 _ F2 (by rw [so, if_pos q1', if_pos q2', if_neg q3']) rfl)⟩
    · have q2' : ¬ Dg tx by' (p + 2) 0 3 := q2
      exact ⟨0, e1, E1.trans E2, F1.1, F1.2.1 11 (by decide) (by decide), Or.inl (fail e1 1 _ F1 (by rw [so, if_pos q1', if_neg q2']) rfl)⟩
  · have q1' : ¬ Dg tx by' (p + 1) 0 9 := q1
    exact ⟨0, m, E1, Sm.rf m, rfl, Or.inl (fail m 0 _ F0 (by rw [so, if_neg q1']) rfl)⟩
end READ
