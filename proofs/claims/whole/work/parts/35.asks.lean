/-! ===== purse, about, roof, star, bestLaw, starless ===== -/
theorem bor_if {a b : Int} (h : RI a) (P : Prop) [Decidable P] : bor a (if P then b else 0) = if P then bor a b else a := by
  split
  · rfl
  · exact bor_0 h
section ASKS
variable {h h' : Mem} {n : Nat} {c H : Nat → Fin 10} {ow : Nat → Fin 4} {S sm : Int} {k : Nat} {ri : Nat → Fin 10} {sp : Nat → Fin 4} {wo : Nat → Fin 10} {law hr : Nat} {cl : Int}
theorem x_purse (h : Mem) (l : Int) : p_X8_purse h l = some (if 0 ≤ l ∧ l < 4 then h 11 l else -1) := by
  unfold p_X8_purse
  rw [x_landlord]
  simp only [bd_s]
  by_cases q : 0 ≤ l ∧ l < 4
  · rw [if01_t q, if_pos q, gd_w q]
  · rw [if01_f q, if_neg q]
theorem y_purse (h : Mem) (l : Int) : ∃ h', p_X9_purse h l = some (if 0 ≤ l ∧ l < 4 then h 53 (12 + l) else -1, h') ∧ Sm h h' := by
  refine ⟨_, ?_, Sm.up0 h⟩
  unfold p_X9_purse
  rw [m_in]
  simp only [bd_s]
  by_cases q : 0 ≤ l ∧ l ≤ 3
  · rw [if01_t q, if_pos ⟨q.1, by omega⟩, wr_s (by omega) (by omega), gd_w (by omega), up_c _ _ _ _ (by decide)]
  · rw [if01_f q, if_neg (by omega)]
/-- ABOUT -/
def s_about (n k : Nat) (law hr : Nat) (cl sm sh ac wa tx w : Int) : Int := if w = 0 then (n : Int) else if w = 1 then (k : Int) else if w = 2 then (law : Int) else if w = 3 then (hr : Int) else if w = 4 then cl else if w = 5 then sm else if w = 6 then sh else if w = 7 then ac else if w = 8 then wa else if w = 9 then tx else -2
theorem x_about (v : CV h n c H ow sm k ri sp wo law hr cl) (w : Int) : p_X8_about h w = some (s_about n k law hr cl sm (bset (fun r => Shd n c H (AL n) r) n) (h 33 3) (h 37 3) (h 1 1) w) := by
  obtain ⟨v1, v2, v3, v4, v5, v6, v7⟩ := id v
  unfold p_X8_about s_about
  rw [t_shadedRoofs v1, v1.2.1, v2.2.1, v3, v4, v5, v1.2.2.1]
  simp only [bd_s]
  grind (splits := 40)
theorem y_about (v : MV2 h n c H ow sm k ri sp wo law hr cl) (w : Int) : ∃ h', p_X9_about h w = some (s_about n k law hr cl sm (bset (fun r => Shd n c H (AL n) r) n) (h 45 19) (h 45 22) (h 45 2) w, h') ∧ Sm h h' := by
  refine ⟨_, ?_, Sm.up0 h⟩
  have v' := v.md (Sm.up0 h)
  obtain ⟨v1, v2, v3, v4, v5, v6, v7⟩ := id v'
  have hn := v1.1
  have e19 : up h 45 0 0 45 19 = h 45 19 := up_k _ _ _ _ (by decide)
  have e22 : up h 45 0 0 45 22 = h 45 22 := up_k _ _ _ _ (by decide)
  have e2 : up h 45 0 0 45 2 = h 45 2 := up_k _ _ _ _ (by decide)
  unfold p_X9_about
  generalize up h 45 0 0 = g at *
  refine loop_up (fun f i a => p_X9_about_L9 f g w a i) (bset (fun r => Shd n c H (AL n) r)) n _ ?_ ?_ 300 0 (Nat.zero_le _) (by omega)
  · intro f r hr'
    simp only [p_X9_about_L9]
    unfold p_X9_about_9
    rw [v1.2.1, if_neg (by omega), m_all v1]
    simp only [bd_s]
    rw [m_isShaded v1 hr']
    simp only [bd_s]
    by_cases q : Shd n c H (AL n) r
    · rw [bi_t q, if_neg (by decide), bset_t q]
      unfold p_X9_about_41
      rw [wr_1 (by omega)]
    · rw [bi_f q, if_pos rfl, bset_f q]
      unfold p_X9_about_41
      rw [wr_1 (by omega), bor_0 (RI_bset _ _)]
  · intro f
    simp only [p_X9_about_L9]
    unfold p_X9_about_9
    rw [v1.2.1, if_pos (by omega)]
    unfold p_X9_about_49 s_about
    rw [v1.2.1, v2.2.1, v3, v4, v5, v1.2.2.1, e19, e22, e2]
    grind (splits := 40)
theorem m_noRoof (v : PV h 53 n c H ow sm) (r : Int) : p_X9_noRoof h r = some (if 0 ≤ r ∧ r < (n : Int) then 0 else 1) := by
  have := v.1
  unfold p_X9_noRoof
  rw [v.2.1, wr_s (by omega) (by omega), m_in]
  simp only [bd_s]
  by_cases q : 0 ≤ r ∧ r < (n : Int)
  · rw [if01_t ⟨q.1, by omega⟩, if_pos q]
  · rw [if01_f (by omega), if_neg q]
theorem m_noStar (w : MS h k ri sp wo) (r : Int) : p_X9_noStar h r = some (if 0 ≤ r ∧ r < (k : Int) then 0 else 1) := by
  have := w.1
  unfold p_X9_noStar
  rw [w.2.1, wr_s (by omega) (by omega), m_in]
  simp only [bd_s]
  by_cases q : 0 ≤ r ∧ r < (k : Int)
  · rw [if01_t ⟨q.1, by omega⟩, if_pos q]
  · rw [if01_f (by omega), if_neg q]
theorem if10_t {c : Prop} [Decidable c] {α : Type} {a b : α} (h : c) : (if (if c then (0 : Int) else 1) = 0 then a else b) = a := by simp [h]
theorem if10_f {c : Prop} [Decidable c] {α : Type} {a b : α} (h : ¬ c) : (if (if c then (0 : Int) else 1) = 0 then a else b) = b := by simp [h]
theorem x_starsHeld (v : CV h n c H ow sm k ri sp wo law hr cl) (r : Int) : ∃ h', p_X8_surveyTown h = some h' ∧ p_X8_starsHeldNow h' r = some (bset (fun s => HD n c H (AL n) law ri sp s hr = r) k) ∧ Sc h h' := by
  obtain ⟨h', e, s⟩ := x_survey v
  refine ⟨h', e, ?_, s.sc⟩
  have v' := v.sc s.sc
  obtain ⟨v1, v2, v3, v4, v5, v6, v7⟩ := id v'
  have hk := v2.1
  unfold p_X8_starsHeldNow
  refine loop_up (fun f i a => p_X8_starsHeldNow_L4 h' f r a i) (bset (fun s => HD n c H (AL n) law ri sp s hr = r)) k _ ?_ ?_ 300 0 (Nat.zero_le _) (by omega)
  · intro f st hs
    simp only [p_X8_starsHeldNow_L4]
    unfold p_X8_starsHeldNow_4
    rw [v2.2.1, if_neg (by omega), v4, t_cellAt v2 hs (by omega)]
    simp only [bd_s]
    rw [t_holdS s v2]
    simp only [bd_s]
    by_cases q : HD n c H (AL n) law ri sp st hr = r
    · rw [if_pos q, bset_t q]
      unfold p_X8_starsHeldNow_47
      rw [wr_1 (by omega)]
    · rw [if_neg q, bset_f q]
      unfold p_X8_starsHeldNow_47
      rw [wr_1 (by omega)]
  · intro f
    simp only [p_X8_starsHeldNow_L4]
    unfold p_X8_starsHeldNow_4
    rw [v2.2.1, if_pos (by omega)]
/-- ROOF -/
noncomputable def s_roof (n : Nat) (c H : Nat → Fin 10) (ow : Nat → Fin 4) (k : Nat) (ri : Nat → Fin 10) (sp : Nat → Fin 4) (law hr : Nat) (r w : Int) : Int := if 0 ≤ r ∧ r < (n : Int) then if w = 0 then ((c r.toNat).val : Int) else if w = 1 then ((H r.toNat).val : Int) else if w = 2 then ((ow r.toNat).val : Int) else if w = 3 then bset (fun x => Sees n c H (AL n) x r.toNat) 10 else if w = 4 then bset (fun s => HD n c H (AL n) law ri sp s hr = r) k else -2 else -1
theorem x_roof (v : CV h n c H ow sm k ri sp wo law hr cl) (r w : Int) : ∃ h', p_X8_roof h r w = some (s_roof n c H ow k ri sp law hr r w, h') ∧ Sc h h' := by
  obtain ⟨v1, v2, v3, v4, v5, v6, v7⟩ := id v
  obtain ⟨hn, a4, a5, hc, hH, ho⟩ := id v1
  unfold p_X8_roof s_roof
  rw [t_hasR v1]
  simp only [bd_s]
  by_cases q : 0 ≤ r ∧ r < (n : Int)
  · rw [if01_t q, if_pos q]
    obtain ⟨r', rfl⟩ := toN q.1
    have hr' : r' < n := by omega
    simp only [Int.toNat_natCast]
    by_cases w0 : w = 0
    · rw [if_pos w0, if_pos w0, gd_w (by omega), hc r' hr']; exact ⟨h, rfl, Sc.rf h⟩
    · rw [if_neg w0, if_neg w0]
      by_cases w1 : w = 1
      · rw [if_pos w1, if_pos w1, gd_w (by omega), hH r' hr']; exact ⟨h, rfl, Sc.rf h⟩
      · rw [if_neg w1, if_neg w1]
        by_cases w2 : w = 2
        · rw [if_pos w2, if_pos w2, gd_w (by omega), ho r' hr']; exact ⟨h, rfl, Sc.rf h⟩
        · rw [if_neg w2, if_neg w2]
          by_cases w3 : w = 3
          · rw [if_pos w3, if_pos w3, t_every v1]
            simp only [bd_s]
            rw [t_cellsSeen v1 hr']
            simp only [bd_s]
            refine ⟨h, ?_, Sc.rf h⟩
            have e : bset (fun x => adf (c r').val x ≤ (H r').val / 4 ∧ ¬ Shd n c H (AL n) r') 10 = bset (fun x => Sees n c H (AL n) x r') 10 := bset_c (fun x _ => ⟨fun z => ⟨hr', by rw [bb_AL hn (by omega)]; simpa using hr', z.1, z.2⟩, fun z => ⟨z.2.2.1, z.2.2.2⟩⟩)
            rw [e]
          · rw [if_neg w3, if_neg w3]
            by_cases w4 : w = 4
            · rw [if_pos w4, if_pos w4]
              obtain ⟨h', e, e2, s⟩ := x_starsHeld v (r' : Int)
              rw [e]
              simp only [bd_s]
              rw [e2]
              exact ⟨h', rfl, s⟩
            · rw [if_neg w4, if_neg w4]; exact ⟨h, rfl, Sc.rf h⟩
  · rw [if01_f q, if_neg q]; exact ⟨h, rfl, Sc.rf h⟩
theorem y_roof (v : MV2 h n c H ow sm k ri sp wo law hr cl) (r w : Int) : ∃ h', p_X9_roof h r w = some (s_roof n c H ow k ri sp law hr r w, h') ∧ Sm h h' := by
  refine ⟨_, ?_, Sm.up0 h⟩
  have v' := v.md (Sm.up0 h)
  obtain ⟨v1, v2, v3, v4, v5, v6, v7⟩ := id v'
  obtain ⟨hn, a4, a5, hc, hH, ho⟩ := id v1
  have hk := v2.1
  unfold p_X9_roof s_roof
  generalize up h 45 0 0 = g at *
  rw [m_noRoof v1]
  simp only [bd_s]
  by_cases q : 0 ≤ r ∧ r < (n : Int)
  · rw [if10_t q, if_pos q]
    obtain ⟨r', rfl⟩ := toN q.1
    have hr' : r' < n := by omega
    simp only [Int.toNat_natCast]
    by_cases w0 : w = 0
    · rw [if_pos w0, if_pos w0, gd_w (by omega), hc r' hr']
    · rw [if_neg w0, if_neg w0]
      by_cases w1 : w = 1
      · rw [if_pos w1, if_pos w1, gd_w (by omega), hH r' hr']
      · rw [if_neg w1, if_neg w1]
        by_cases w2 : w = 2
        · rw [if_pos w2, if_pos w2, wr_s (by omega) (by omega), gd_w (by omega), ho r' hr']
        · rw [if_neg w2, if_neg w2]
          by_cases w3 : w = 3
          · rw [if_pos w3, if_pos w3]
            refine loop_up (fun f i a => p_X9_roof_L79 f g (r' : Int) a i) (bset (fun x => Sees n c H (AL n) x r')) 10 _ ?_ ?_ 300 0 (Nat.zero_le _) (by omega)
            · intro f x hx
              simp only [p_X9_roof_L79]
              unfold p_X9_roof_79
              rw [if_neg (by omega), m_all v1]
              simp only [bd_s]
              rw [m_doesSee v1 hr' hx]
              simp only [bd_s]
              by_cases z : Sees n c H (AL n) x r'
              · rw [bi_t z, if_neg (by decide), bset_t (P := fun x => Sees n c H (AL n) x r') z]
                unfold p_X9_roof_113
                rw [wr_1 (by omega)]
              · rw [bi_f z, if_pos rfl, bset_f (P := fun x => Sees n c H (AL n) x r') z]
                unfold p_X9_roof_113
                rw [wr_1 (by omega), bor_0 (RI_bset _ _)]
            · intro f
              simp only [p_X9_roof_L79]
              unfold p_X9_roof_79
              rw [if_pos (by decide)]
          · rw [if_neg w3, if_neg w3]
            by_cases w4 : w = 4
            · rw [if_pos w4, if_pos w4]
              refine loop_up (fun f i a => p_X9_roof_L126 f g (r' : Int) a i) (bset (fun s => HD n c H (AL n) law ri sp s hr = (r' : Int))) k _ ?_ ?_ 300 0 (Nat.zero_le _) (by omega)
              · intro f s hs
                simp only [p_X9_roof_L126]
                unfold p_X9_roof_126
                rw [v2.2.1, if_neg (by omega), m_all v1]
                simp only [bd_s]
                rw [v4, v3, m_holder v1 v2 hs (by omega)]
                simp only [bd_s]
                by_cases z : HD n c H (AL n) law ri sp s hr = (r' : Int)
                · rw [if_pos z, bset_t z]
                  unfold p_X9_roof_173
                  rw [wr_1 (by omega)]
                · rw [if_neg z, bset_f z]
                  unfold p_X9_roof_173
                  rw [wr_1 (by omega), bor_0 (RI_bset _ _)]
              · intro f
                simp only [p_X9_roof_L126]
                unfold p_X9_roof_126
                rw [v2.2.1, if_pos (by omega)]
            · rw [if_neg w4, if_neg w4]
  · rw [if10_f q, if_neg q]
/-- STAR -/
noncomputable def s_star (n : Nat) (c H : Nat → Fin 10) (sm : Int) (k : Nat) (ri : Nat → Fin 10) (sp : Nat → Fin 4) (wo : Nat → Fin 10) (law hr : Nat) (cl s w : Int) : Int := if 0 ≤ s ∧ s < (k : Int) then if w = 0 then ((scell ri sp s.toNat hr : Nat) : Int) else if w = 1 then ((sp s.toNat).val : Int) else if w = 2 then ((wo s.toNat).val : Int) else if w = 3 then HD n c H (AL n) law ri sp s.toNat hr else if w = 4 then (if cl = 0 then get1 (HD n c H (AL n) law ri sp s.toNat hr) (fun _ => True) (wo s.toNat).val (smk n c (AL n) sm) else 0) else -2 else -1
theorem x_star (v : CV h n c H ow sm k ri sp wo law hr cl) (s w : Int) : ∃ h', p_X8_star h s w = some (s_star n c H sm k ri sp wo law hr cl s w, h') ∧ Sc h h' := by
  obtain ⟨v1, v2, v3, v4, v5, v6, v7⟩ := id v
  obtain ⟨hk, b3, hri, hsp, hwo⟩ := id v2
  unfold p_X8_star s_star
  rw [t_hasSR v2]
  simp only [bd_s]
  by_cases q : 0 ≤ s ∧ s < (k : Int)
  · rw [if01_t q, if_pos q]
    obtain ⟨s', rfl⟩ := toN q.1
    have hs' : s' < k := by omega
    simp only [Int.toNat_natCast]
    by_cases w0 : w = 0
    · rw [if_pos w0, if_pos w0, v4, t_cellAt v2 hs' (by omega)]; exact ⟨h, rfl, Sc.rf h⟩
    · rw [if_neg w0, if_neg w0]
      by_cases w1 : w = 1
      · rw [if_pos w1, if_pos w1, gd_w (by omega), hsp s' hs']; exact ⟨h, rfl, Sc.rf h⟩
      · rw [if_neg w1, if_neg w1]
        by_cases w2 : w = 2
        · rw [if_pos w2, if_pos w2, gd_w (by omega), hwo s' hs']; exact ⟨h, rfl, Sc.rf h⟩
        · rw [if_neg w2, if_neg w2]
          obtain ⟨h', e, sv⟩ := x_survey v
          have v' := v.sc sv.sc
          by_cases w3 : w = 3
          · rw [if_pos w3, if_pos w3, e]
            simp only [bd_s]
            rw [v'.2.2.2.1, t_cellAt v'.2.1 hs' (by omega)]
            simp only [bd_s]
            rw [t_holdS sv v'.2.1]
            exact ⟨h', rfl, sv.sc⟩
          · rw [if_neg w3, if_neg w3]
            by_cases w4 : w = 4
            · rw [if_pos w4, if_pos w4, e]
              simp only [bd_s]
              rw [v'.2.2.2.2.1]
              by_cases z : cl = 0
              · rw [if_pos z, if_pos z, v'.2.2.2.1, t_payOf sv v1.1 v'.2.1 hs' (by omega)]
                exact ⟨h', rfl, sv.sc⟩
              · rw [if_neg z, if_neg z]; exact ⟨h', rfl, sv.sc⟩
            · rw [if_neg w4, if_neg w4]; exact ⟨h, rfl, Sc.rf h⟩
  · rw [if01_f q, if_neg q]; exact ⟨h, rfl, Sc.rf h⟩
theorem y_star (v : MV2 h n c H ow sm k ri sp wo law hr cl) (s w : Int) : ∃ h', p_X9_star h s w = some (s_star n c H sm k ri sp wo law hr cl s w, h') ∧ Sm h h' := by
  refine ⟨_, ?_, Sm.up0 h⟩
  have v' := v.md (Sm.up0 h)
  obtain ⟨v1, v2, v3, v4, v5, v6, v7⟩ := id v'
  obtain ⟨hk, b3, hri, hsp, hwo⟩ := id v2
  unfold p_X9_star s_star
  generalize up h 45 0 0 = g at *
  rw [m_noStar v2]
  simp only [bd_s]
  by_cases q : 0 ≤ s ∧ s < (k : Int)
  · rw [if10_t q, if_pos q]
    obtain ⟨s', rfl⟩ := toN q.1
    have hs' : s' < k := by omega
    simp only [Int.toNat_natCast]
    rw [m_all v1]
    simp only [bd_s]
    rw [v4, v3, m_holder v1 v2 hs' (by omega)]
    simp only [bd_s]
    by_cases w0 : w = 0
    · rw [if_pos w0, if_pos w0, m_over v2 hs' (by omega)]; rfl
    · rw [if_neg w0, if_neg w0]
      by_cases w1 : w = 1
      · rw [if_pos w1, if_pos w1, gd_w (by omega), hsp s' hs']
      · rw [if_neg w1, if_neg w1]
        by_cases w2 : w = 2
        · rw [if_pos w2, if_pos w2, gd_w (by omega), hwo s' hs']
        · rw [if_neg w2, if_neg w2]
          by_cases w3 : w = 3
          · rw [if_pos w3, if_pos w3]
          · rw [if_neg w3, if_neg w3]
            by_cases w4 : w = 4
            · rw [if_pos w4, if_pos w4]
              unfold p_X9_star_122
              rw [v5]
              rcases HD_in n c H (AL n) law ri sp s' hr with z | ⟨j, z1, z2, z3⟩
              · rw [if_pos z, get1_f (Or.inl z)]
                split <;> rfl
              · rw [if_neg (by omega)]
                by_cases y : cl = 0
                · rw [if_neg (by omega), if_pos y, v1.2.2.1, z2, m_pays v1 v2 hs' z1, get1_t (pr := fun _ => True) (j := j) rfl trivial]
                  rfl
                · rw [if_pos (by omega), if_neg y]
            · rw [if_neg w4, if_neg w4]
  · rw [if10_f q, if_neg q]
/-- BEST LAW -/
noncomputable def s_best (a0 a1 a2 : Int) : Int := if a1 ≤ a0 then (if a2 ≤ a0 then 0 else 2) else (if a2 ≤ a1 then 1 else 2)
noncomputable def s_bestLaw (n : Nat) (c H : Nat → Fin 10) (ow : Nat → Fin 4) (sm : Int) (k : Nat) (ri : Nat → Fin 10) (sp : Nat → Fin 4) (wo : Nat → Fin 10) (hr : Nat) (cl l m : Int) : Int := if 0 ≤ l ∧ l < 4 then if 0 ≤ m ∧ m ≤ 12 then s_best (RT n c H ow (AL n) sm 0 k ri sp wo cl hr m.toNat l) (RT n c H ow (AL n) sm 1 k ri sp wo cl hr m.toNat l) (RT n c H ow (AL n) sm 2 k ri sp wo cl hr m.toNat l) else -2 else -1
theorem x_rentsByLaw (v : CV h n c H ow sm k ri sp wo law hr cl) (by' : Nat) {l : Int} (hl : l ≠ 4) {m : Nat} (hm : m ≤ 100) : ∃ h', p_X8_rentsByLaw h (by' : Int) l (m : Int) = some (RT n c H ow (AL n) sm by' k ri sp wo cl hr m l, h') ∧ Sc h h' := by
  obtain ⟨h', e, s⟩ := t_survey v.1 (by decide) (AL_hi v.1.1) by'
  refine ⟨h', ?_, s.sc⟩
  have v' := v.sc s.sc
  unfold p_X8_rentsByLaw
  rw [t_every v.1]
  simp only [bd_s]
  rw [e]
  simp only [bd_s]
  rw [t_roofsOf v'.1]
  simp only [bd_s]
  have := t_takings (t := 7) s v.1.1 v'.2.1 (T := bset (fun r => ((ow r).val : Int) = l) n) (pr := fun j => l = 4 ∨ ((ow j).val : Int) = l) (fun r h1 _ => bb_owner v.1.1 ow hl r h1) v'.2.2.2.1 (by have := v.2.2.2.2.2.1; omega) hm
  rw [v'.2.2.2.2.1] at this
  rw [this]
  rfl
theorem x_best3 (h1 h2 h3 : Mem) (l m a0 a1 a2 : Int) (e2 : p_X8_rentsByLaw h1 1 l m = some (a1, h2)) (e3 : p_X8_rentsByLaw h2 2 l m = some (a2, h3)) (f : Nat) : p_X8_bestLaw_L36 (f + 1 + 1 + 1) h1 l m 0 a0 1 = some (s_best a0 a1 a2, h3) := by
  have st1 : ∀ (f : Nat) (b t : Int), p_X8_bestLaw_L36 (f + 1) h1 l m b t 1 = if a1 ≤ t then p_X8_bestLaw_L36 f h2 l m b t 2 else p_X8_bestLaw_L36 f h2 l m 1 a1 2 := by
    intro f b t
    simp only [p_X8_bestLaw_L36]
    unfold p_X8_bestLaw_36
    rw [if_neg (by decide), e2]
    simp only [bd_s]
    unfold p_X8_bestLaw_66
    rw [wr_s (a := (1 : Int) + 1) (by decide) (by decide)]
    rfl
  have st2 : ∀ (f : Nat) (b t : Int), p_X8_bestLaw_L36 (f + 1) h2 l m b t 2 = if a2 ≤ t then p_X8_bestLaw_L36 f h3 l m b t 3 else p_X8_bestLaw_L36 f h3 l m 2 a2 3 := by
    intro f b t
    simp only [p_X8_bestLaw_L36]
    unfold p_X8_bestLaw_36
    rw [if_neg (by decide), e3]
    simp only [bd_s]
    unfold p_X8_bestLaw_66
    rw [wr_s (a := (2 : Int) + 1) (by decide) (by decide)]
    rfl
  have st3 : ∀ (f : Nat) (b t : Int), p_X8_bestLaw_L36 (f + 1) h3 l m b t 3 = some (b, h3) := by
    intro f b t
    simp only [p_X8_bestLaw_L36]
    unfold p_X8_bestLaw_36
    rw [if_pos (by decide)]
  rw [st1, st2, st2]
  simp only [st3]
  unfold s_best
  split <;> split <;> rfl
theorem x_bestLaw (v : CV h n c H ow sm k ri sp wo law hr cl) (l m : Int) : ∃ h', p_X8_bestLaw h l m = some (s_bestLaw n c H ow sm k ri sp wo hr cl l m, h') ∧ Sc h h' := by
  unfold p_X8_bestLaw s_bestLaw
  rw [x_landlord]
  simp only [bd_s]
  by_cases q : 0 ≤ l ∧ l < 4
  · rw [if01_t q, if_pos q]
    by_cases m0 : m < 0
    · rw [if_pos m0, if_neg (by omega)]; exact ⟨h, rfl, Sc.rf h⟩
    · rw [if_neg m0]
      by_cases m1 : m ≤ 12
      · rw [if_pos m1, if_pos ⟨by omega, m1⟩]
        obtain ⟨m', rfl⟩ := toN (show 0 ≤ m by omega)
        simp only [Int.toNat_natCast]
        obtain ⟨h1, e1, s1⟩ := x_rentsByLaw v 0 (show l ≠ 4 by omega) (show m' ≤ 100 by omega)
        obtain ⟨h2, e2, s2⟩ := x_rentsByLaw (v.sc s1) 1 (show l ≠ 4 by omega) (show m' ≤ 100 by omega)
        obtain ⟨h3, e3, s3⟩ := x_rentsByLaw ((v.sc s1).sc s2) 2 (show l ≠ 4 by omega) (show m' ≤ 100 by omega)
        have e1' : p_X8_rentsByLaw h 0 l (m' : Int) = some (RT n c H ow (AL n) sm 0 k ri sp wo cl hr m' l, h1) := e1
        rw [e1', bd_n]
        exact ⟨h3, x_best3 h1 h2 h3 l m' _ _ _ e2 e3 297, (s1.tr s2).tr s3⟩
      · rw [if_neg m1, if_neg (by omega)]; exact ⟨h, rfl, Sc.rf h⟩
  · rw [if01_f q, if_neg q]; exact ⟨h, rfl, Sc.rf h⟩
theorem RT_b (n : Nat) (c H : Nat → Fin 10) (ow : Nat → Fin 4) (S sm : Int) (law k : Nat) (ri : Nat → Fin 10) (sp : Nat → Fin 4) (wo : Nat → Fin 10) (cl : Int) (fr m : Nat) (o : Int) (hk : k ≤ 4) : 0 ≤ RT n c H ow S sm law k ri sp wo cl fr m o ∧ RT n c H ow S sm law k ri sp wo cl fr m o ≤ 36 * m := TK_b n c H S sm law k ri sp wo _ cl fr m hk
theorem y_bestLaw (v : MV2 h n c H ow sm k ri sp wo law hr cl) (l m : Int) : ∃ h', p_X9_bestLaw h l m = some (s_bestLaw n c H ow sm k ri sp wo hr cl l m, h') ∧ Sm h h' := by
  refine ⟨_, ?_, Sm.up0 h⟩
  have v' := v.md (Sm.up0 h)
  unfold p_X9_bestLaw s_bestLaw
  generalize up h 45 0 0 = g at *
  rw [m_in]
  simp only [bd_s]
  by_cases q : 0 ≤ l ∧ l < 4
  · rw [if01_t ⟨q.1, by omega⟩, if_pos q, m_in]
    simp only [bd_s]
    by_cases q2 : 0 ≤ m ∧ m ≤ 12
    · rw [if01_t q2, if_pos q2]
      obtain ⟨m', rfl⟩ := toN q2.1
      simp only [Int.toNat_natCast]
      have hR : ∀ b : Nat, p_X9_rentsOf g 53 (AL n) (g 53 16) (m' : Int) l (b : Int) = some (RT n c H ow (AL n) sm b k ri sp wo cl hr m' l) := by
        intro b
        rw [v'.2.2.2.1, m_rentsOf v'.1 v'.2.1 (by have := v.2.2.2.2.2.1; omega) (by omega) (AL n) ⟨q.1, by omega⟩, v'.2.2.2.2.1]
        rfl
      have e0 := hR 0
      have e1 := hR 1
      have e2 := hR 2
      rw [show ((0 : Nat) : Int) = 0 from rfl] at e0
      rw [show ((1 : Nat) : Int) = 1 from rfl] at e1
      rw [show ((2 : Nat) : Int) = 2 from rfl] at e2
      have b0 := RT_b n c H ow (AL n) sm 0 k ri sp wo cl hr m' l v'.2.1.1
      generalize RT n c H ow (AL n) sm 0 k ri sp wo cl hr m' l = a0 at *
      generalize RT n c H ow (AL n) sm 1 k ri sp wo cl hr m' l = a1 at *
      generalize RT n c H ow (AL n) sm 2 k ri sp wo cl hr m' l = a2 at *
      have st : ∀ (f : Nat) (b t i j a : Int), i < 3 → wr (i + 1) = j → p_X9_rentsOf g 53 (AL n) (g 53 16) (m' : Int) l i = some a → p_X9_bestLaw_L43 (f + 1) g l (m' : Int) b t i = if a ≤ t then p_X9_bestLaw_L43 f g l (m' : Int) b t j else p_X9_bestLaw_L43 f g l (m' : Int) i a j := by
        intro f b t i j a hi hj ha
        simp only [p_X9_bestLaw_L43]
        unfold p_X9_bestLaw_43
        rw [if_neg (by omega), m_all v'.1]
        simp only [bd_s]
        rw [ha]
        simp only [bd_s]
        unfold p_X9_bestLaw_87 p_X9_bestLaw_102
        rw [hj]
        split <;> rfl
      have st3 : ∀ (f : Nat) (b t : Int), p_X9_bestLaw_L43 (f + 1) g l (m' : Int) b t 3 = some (b, g) := by
        intro f b t
        simp only [p_X9_bestLaw_L43]
        unfold p_X9_bestLaw_43
        rw [if_pos (by decide)]
      have all : ∀ f : Nat, p_X9_bestLaw_L43 (f + 1 + 1 + 1 + 1) g l (m' : Int) 0 (-9) 0 = some (s_best a0 a1 a2, g) := by
        intro f
        rw [st _ 0 (-9) 0 1 a0 (by decide) (by decide) e0, if_neg (by omega), st _ 0 a0 1 2 a1 (by decide) (by decide) e1, st _ 0 a0 2 3 a2 (by decide) (by decide) e2, st _ 1 a1 2 3 a2 (by decide) (by decide) e2]
        simp only [st3]
        unfold s_best
        split <;> split <;> rfl
      exact all 296
    · rw [if01_f q2, if_neg q2]
  · rw [if01_f (by omega), if_neg q]
end ASKS
