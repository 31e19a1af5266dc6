/-! ===== stars; who holds what; what is paid ===== -/
def SV (h : Mem) (k : Nat) (ri : Nat → Fin 10) (sp : Nat → Fin 4) (wo : Nat → Fin 10) : Prop := k ≤ 4 ∧ h 3 3 = (k : Int) ∧ (∀ s : Nat, s < k → h 4 (s : Int) = ((ri s).val : Int)) ∧ (∀ s : Nat, s < k → h 5 (s : Int) = ((sp s).val : Int)) ∧ ∀ s : Nat, s < k → h 6 (s : Int) = ((wo s).val : Int)
theorem SV.same {h h' : Mem} {k : Nat} {ri : Nat → Fin 10} {sp : Nat → Fin 4} {wo : Nat → Fin 10} (v : SV h k ri sp wo) (e0 : h' 3 = h 3) (e1 : h' 4 = h 4) (e2 : h' 5 = h 5) (e3 : h' 6 = h 6) : SV h' k ri sp wo := by
  unfold SV at *
  rw [e0, e1, e2, e3]
  exact v
/-- where a star is -/
def scell (ri : Nat → Fin 10) (sp : Nat → Fin 4) (s hr : Nat) : Nat := ((ri s).val + (sp s).val * hr) % 10
theorem scell_lt (ri : Nat → Fin 10) (sp : Nat → Fin 4) (s hr : Nat) : scell ri sp s hr < 10 := Nat.mod_lt _ (by omega)
theorem t_walk (h : Mem) {a b m : Nat} (ha : a < 10) (hb : b < 4) (hm : m < 100000) : p_X4_walkedTo h (a : Int) (b : Int) (m : Int) = some (((a + b * m) % 10 : Nat) : Int) := by
  unfold p_X4_walkedTo
  rw [show (10 : Int) = ((10 : Nat) : Int) from rfl, qrem_n (by omega) (by omega) (by omega)]
  have h1 : m % 10 < 10 := Nat.mod_lt _ (by omega)
  have h2 : b * (m % 10) ≤ 3 * 9 := Nat.mul_le_mul (by omega) (by omega)
  rw [← Int.natCast_mul, wr_s (a := ((b * (m % 10) : Nat) : Int)) (by omega) (by omega), ← Int.natCast_add, wr_s (by omega) (by omega), qrem_n (by omega) (by omega) (by omega)]
  congr 2
  rw [Nat.add_mod, Nat.mul_mod, Nat.mod_mod, ← Nat.mul_mod, ← Nat.add_mod]
section STAR
variable {h : Mem} {k : Nat} {ri : Nat → Fin 10} {sp : Nat → Fin 4} {wo : Nat → Fin 10}
theorem t_hasStar (h : Mem) (s : Int) (h4 : h 3 3 ≤ 4) : p_X4_hasStar h s = some (if 0 ≤ s ∧ s < h 3 3 then 1 else 0) := by
  unfold p_X4_hasStar
  grind
theorem t_hasS (v : SV h k ri sp wo) {s : Nat} (hs : s < k) : p_X4_hasStar h (s : Int) = some 1 := by
  rw [t_hasStar _ _ (by rw [v.2.1]; have := v.1; omega), v.2.1, if_pos ⟨by omega, by omega⟩]
theorem t_hasSR (v : SV h k ri sp wo) (s : Int) : p_X4_hasStar h s = some (if 0 ≤ s ∧ s < (k : Int) then 1 else 0) := by
  rw [t_hasStar _ _ (by rw [v.2.1]; have := v.1; omega), v.2.1]
theorem t_worthOf (v : SV h k ri sp wo) {s : Nat} (hs : s < k) : p_X4_worthOf h (s : Int) = some (((wo s).val : Nat) : Int) := by
  obtain ⟨hk, h3, hri, hsp, hwo⟩ := id v
  unfold p_X4_worthOf
  rw [t_hasS v hs]
  simp only [bd_s]
  rw [if_neg (by decide), gd_w (by omega), hwo s hs]
theorem t_cellAt (v : SV h k ri sp wo) {s hr : Nat} (hs : s < k) (hh : hr < 100000) : p_X4_cellAt h (s : Int) (hr : Int) = some ((scell ri sp s hr : Nat) : Int) := by
  obtain ⟨hk, h3, hri, hsp, hwo⟩ := id v
  unfold p_X4_cellAt
  rw [t_hasS v hs]
  simp only [bd_s]
  rw [if_neg (by decide), gd_w (by omega), gd_w (by omega), hri s hs, hsp s hs, t_walk h (by omega) (by omega) hh]
  simp only [bd_s]
  rfl
end STAR
section SURVEY
variable {h : Mem} {t n : Nat} {c H : Nat → Fin 10} {ow : Nat → Fin 4} {sm : Int}
theorem t_holderByLaw (v : TV h t n c H ow sm) {law x : Nat} (hx : x ≤ 9) (P : Nat → Prop) (hPn : ∀ r, P r → r < n) (hP : ∀ r : Nat, r < 5 → (bb (h 30 (r : Int)) x = true ↔ P r)) : p_X2_holderByLaw h t (law : Int) (x : Int) = some (hld P (key law c H x) n) := by
  obtain ⟨hn, h4, h5, hc, hH, ho⟩ := id v
  have e5 : hld P (key law c H x) 5 = hld P (key law c H x) n := by
    have := hld_more (P := P) (ky := key law c H x) (n := n) (fun k hk q => by have := hPn k q; omega) (5 - n)
    rw [show n + (5 - n) = 5 by omega] at this
    exact this
  rw [← e5]
  unfold p_X2_holderByLaw
  refine loop_up (fun f i a => p_X2_holderByLaw_L7 h t f (law : Int) (x : Int) a i) (hld P (key law c H x)) 5 _ ?_ ?_ 300 0 (Nat.zero_le _) (by omega)
  · intro f r hr
    simp only [p_X2_holderByLaw_L7]
    unfold p_X2_holderByLaw_7
    rw [if_neg (by omega), gd_w (by omega)]
    by_cases q : P r
    · have hrn := hPn r q
      rw [if_neg (by rw [hb_0 _ (by omega), (hP r hr).mpr q]; decide)]
      unfold p_X2_holderByLaw_32
      rw [if_neg (by decide)]
      rcases hld_in P (key law c H x) r with z | ⟨j, j1, j2, j3⟩
      · rw [if_pos z, hld_t ⟨q, Or.inl z⟩]
        unfold p_X2_holderByLaw_59 p_X2_holderByLaw_63
        rw [wr_1 (by omega)]
      · rw [if_neg (by omega), j2, t_goesAhead v hrn (by omega) hx]
        simp only [bd_s]
        by_cases w : key law c H x r < key law c H x j
        · rw [bi_t w, if_neg (by decide), hld_t ⟨q, Or.inr (by rw [j2]; exact w)⟩]
          unfold p_X2_holderByLaw_59 p_X2_holderByLaw_63
          rw [wr_1 (by omega)]
        · rw [bi_f w, if_pos rfl, hld_f (fun y => by
            rcases y.2 with y | y
            · omega
            · rw [j2] at y; exact w y), j2]
          unfold p_X2_holderByLaw_63
          rw [wr_1 (by omega)]
    · rw [if_pos (by rw [hb_0 _ (by omega)]; cases z : bb (h 30 (r : Int)) x; rfl; exact absurd ((hP r hr).mp z) q)]
      unfold p_X2_holderByLaw_32
      rw [if_pos rfl, hld_f (fun y => q y.1)]
      unfold p_X2_holderByLaw_63
      rw [wr_1 (by omega)]
  · intro f
    simp only [p_X2_holderByLaw_L7]
    unfold p_X2_holderByLaw_7
    rw [if_pos (by decide)]
/-- what the survey has laid down -/
def SvP (h h' : Mem) (n : Nat) (c H : Nat → Fin 10) (S sm : Int) (law : Nat) : Prop := (∀ i, i ≠ 30 → i ≠ 31 → i ≠ 32 → h' i = h i) ∧ (∀ r : Nat, r < 5 → ∀ x, x < 10 → (bb (h' 30 (r : Int)) x = true ↔ Sees n c H S x r)) ∧ (∀ r : Nat, r < n → bb S r = true → h' 31 (r : Int) = ((smk n c S sm r : Nat) : Int)) ∧ ∀ x : Nat, x < 10 → h' 32 (x : Int) = hld (Sees n c H S x) (key law c H x) n
theorem t_survey (v : TV h t n c H ow sm) (ht : t + 4 < 30) {S : Int} (hS : ∀ r, n ≤ r → r < 32 → bb S r = false) (law : Nat) : ∃ h', p_X2_survey h t S (law : Int) = some h' ∧ SvP h h' n c H S sm law := by
  obtain ⟨hn, h4, h5, hc, hH, ho⟩ := id v
  unfold p_X2_survey
  refine loop_inv (fun f i m => p_X2_survey_L3 t f m S (law : Int) i) 5 (fun k m => (∀ i, i ≠ 30 → i ≠ 31 → m i = h i) ∧ (∀ r : Nat, r < k → ∀ x, x < 10 → (bb (m 30 (r : Int)) x = true ↔ Sees n c H S x r)) ∧ (∀ r : Nat, r < k → r < n → bb S r = true → m 31 (r : Int) = ((smk n c S sm r : Nat) : Int))) (fun o => ∃ h', o = some h' ∧ SvP h h' n c H S sm law) ?_ ?_ 300 0 h (Nat.zero_le _) (by omega) ⟨fun _ _ _ => rfl, fun r hr => by omega, fun r hr => by omega⟩
  · intro f r m hr hI
    obtain ⟨i1, i2, i3⟩ := hI
    have vm : TV m t n c H ow sm := v.same (i1 t (by omega) (by omega)) (i1 _ (by omega) (by omega)) (i1 _ (by omega) (by omega)) (i1 _ (by omega) (by omega))
    simp only [p_X2_survey_L3]
    unfold p_X2_survey_3
    rw [if_neg (by omega)]
    by_cases q : bb S r = true
    · have hrn : r < n := by
        rcases Nat.lt_or_ge r n with z | z
        · exact z
        · rw [hS r z (by omega)] at q; cases q
      rw [if_neg (by rw [hb_0 _ (by omega), q]; decide)]
      unfold p_X2_survey_23
      rw [if_neg (by decide), t_cellsSeen vm hrn]
      simp only [bd_s]
      unfold p_X2_survey_47
      rw [gd_w (by omega), if_neg (by decide)]
      generalize hsb : bset (fun x => adf (c r).val x ≤ (H r).val / 4 ∧ ¬ Shd n c H S r) 10 = sb
      have vm2 : TV (up m 30 (r : Int) sb) t n c H ow sm := vm.same (by funext z; exact up_c _ _ _ _ (by omega)) (by funext z; exact up_c _ _ _ _ (by omega)) (by funext z; exact up_c _ _ _ _ (by omega)) (by funext z; exact up_c _ _ _ _ (by omega))
      rw [t_smokeAround vm2 hrn]
      simp only [bd_s]
      unfold p_X2_survey_70
      rw [gd_w (by omega), wr_1 (by omega)]
      refine ⟨_, ⟨fun i q1 q2 => ?_, fun r' hr' x hx => ?_, fun r' hr' hn' hb' => ?_⟩, rfl⟩
      · rw [← i1 i q1 q2]
        funext z
        rw [up_c _ _ _ _ q2, up_c _ _ _ _ q1]
      · rw [up_c _ _ _ _ (by decide)]
        by_cases e : r' = r
        · subst e
          rw [up_eq, ← hsb, bb_bset _ (by omega) 10 (by omega)]
          unfold Sees
          constructor
          · rintro ⟨-, y⟩; exact ⟨hrn, q, y.1, y.2⟩
          · rintro ⟨-, -, y1, y2⟩; exact ⟨hx, y1, y2⟩
        · rw [up_k _ _ _ _ (by omega)]
          exact i2 r' (by omega) x hx
      · by_cases e : r' = r
        · subst e
          rw [up_eq]
        · rw [up_k _ _ _ _ (by omega), up_c _ _ _ _ (by decide)]
          exact i3 r' (by omega) hn' hb'
    · have q' : bb S r = false := by simpa using q
      rw [if_pos (by rw [hb_0 _ (by omega)]; exact q')]
      unfold p_X2_survey_23
      rw [if_pos rfl]
      unfold p_X2_survey_47
      rw [gd_w (by omega), if_pos rfl]
      unfold p_X2_survey_70
      rw [gd_w (by omega), wr_1 (by omega)]
      refine ⟨_, ⟨fun i q1 q2 => ?_, fun r' hr' x hx => ?_, fun r' hr' hn' hb' => ?_⟩, rfl⟩
      · rw [← i1 i q1 q2]
        funext z
        rw [up_c _ _ _ _ q2, up_c _ _ _ _ q1]
      · rw [up_c _ _ _ _ (by decide)]
        by_cases e : r' = r
        · subst e
          rw [up_eq, bb_0]
          constructor
          · intro y; cases y
          · intro y; exact absurd y.2.1 q
        · rw [up_k _ _ _ _ (by omega)]
          exact i2 r' (by omega) x hx
      · by_cases e : r' = r
        · subst e
          exact absurd hb' q
        · rw [up_k _ _ _ _ (by omega), up_c _ _ _ _ (by decide)]
          exact i3 r' (by omega) hn' hb'
  · intro f m hI
    obtain ⟨i1, i2, i3⟩ := hI
    simp only [p_X2_survey_L3]
    unfold p_X2_survey_3
    rw [if_pos (by decide)]
    unfold p_X2_survey_77
    refine loop_inv (fun f i m2 => p_X2_survey_L80 t f m2 (law : Int) i) 10 (fun k m2 => (∀ i, i ≠ 32 → m2 i = m i) ∧ ∀ x : Nat, x < k → m2 32 (x : Int) = hld (Sees n c H S x) (key law c H x) n) (fun o => ∃ h', o = some h' ∧ SvP h h' n c H S sm law) ?_ ?_ 300 0 m (Nat.zero_le _) (by omega) ⟨fun _ _ => rfl, fun x hx => by omega⟩
    · intro f x m2 hx hJ
      obtain ⟨j1, j2⟩ := hJ
      have vm : TV m2 t n c H ow sm := v.same (by rw [j1 t (by omega), i1 t (by omega) (by omega)]) (by rw [j1 _ (by omega), i1 _ (by omega) (by omega)]) (by rw [j1 _ (by omega), i1 _ (by omega) (by omega)]) (by rw [j1 _ (by omega), i1 _ (by omega) (by omega)])
      simp only [p_X2_survey_L80]
      unfold p_X2_survey_80
      rw [if_neg (by omega), t_holderByLaw vm (by omega) (Sees n c H S x) (fun r q => q.1) (fun r hr => by rw [j1 30 (by decide)]; exact i2 r hr x hx)]
      simp only [bd_s]
      rw [gd_w (by omega), wr_1 (by omega)]
      refine ⟨_, ⟨fun i q => ?_, fun x' hx' => ?_⟩, rfl⟩
      · rw [← j1 i q]
        funext z
        exact up_c _ _ _ _ q
      · by_cases e : x' = x
        · subst e; rw [up_eq]
        · rw [up_k _ _ _ _ (by omega)]
          exact j2 x' (by omega)
    · intro f m2 hJ
      obtain ⟨j1, j2⟩ := hJ
      simp only [p_X2_survey_L80]
      unfold p_X2_survey_80
      rw [if_pos (by decide)]
      refine ⟨m2, rfl, fun i a b d => ?_, fun r hr x hx => ?_, fun r hr hb => ?_, fun x hx => j2 x hx⟩
      · rw [j1 i d, i1 i a b]
      · rw [j1 30 (by decide)]; exact i2 r hr x hx
      · rw [j1 31 (by decide)]; exact i3 r (by omega) hr hb
end SURVEY
/-- who holds a star at an hour -/
noncomputable def HD (n : Nat) (c H : Nat → Fin 10) (S : Int) (law : Nat) (ri : Nat → Fin 10) (sp : Nat → Fin 4) (s hr : Nat) : Int := hld (Sees n c H S (scell ri sp s hr)) (key law c H (scell ri sp s hr)) n
theorem HD_in (n : Nat) (c H : Nat → Fin 10) (S : Int) (law : Nat) (ri : Nat → Fin 10) (sp : Nat → Fin 4) (s hr : Nat) : HD n c H S law ri sp s hr = -9 ∨ ∃ j : Nat, j < n ∧ HD n c H S law ri sp s hr = (j : Int) ∧ bb S j = true := by
  rcases hld_in (Sees n c H S (scell ri sp s hr)) (key law c H (scell ri sp s hr)) n with q | ⟨j, q1, q2, q3⟩
  · exact Or.inl q
  · exact Or.inr ⟨j, q1, q2, q3.2.1⟩
/-- what a star pays, if its holder is one of those -/
noncomputable def get1 (hd : Int) (pr : Nat → Prop) (w : Nat) (sk : Nat → Nat) : Int := @ite Int (0 ≤ hd ∧ pr hd.toNat) (Classical.propDecidable _) ((w - sk hd.toNat : Nat) : Int) 0
theorem get1_t {hd : Int} {j : Nat} {pr : Nat → Prop} {w : Nat} {sk : Nat → Nat} (h : hd = (j : Int)) (hp : pr j) : get1 hd pr w sk = ((w - sk j : Nat) : Int) := by
  subst h
  unfold get1
  rw [if_pos ⟨by omega, by simpa using hp⟩]
  simp
theorem get1_f {hd : Int} {pr : Nat → Prop} {w : Nat} {sk : Nat → Nat} (h : hd = -9 ∨ ¬ pr hd.toNat) : get1 hd pr w sk = 0 := by
  unfold get1
  rw [if_neg]
  rintro ⟨q1, q2⟩
  rcases h with h | h
  · omega
  · exact h q2
theorem get1_b (hd : Int) (pr : Nat → Prop) (w : Fin 10) (sk : Nat → Nat) : 0 ≤ get1 hd pr w.val sk ∧ get1 hd pr w.val sk ≤ 9 := by
  unfold get1
  split <;> omega
/-- what all stars pay at an hour without clouds, to some of the roofs -/
noncomputable def PA (n : Nat) (c H : Nat → Fin 10) (S sm : Int) (law k : Nat) (ri : Nat → Fin 10) (sp : Nat → Fin 4) (wo : Nat → Fin 10) (pr : Nat → Prop) (hr : Nat) : Int := sumF (fun s => get1 (HD n c H S law ri sp s hr) pr (wo s).val (smk n c S sm)) k
theorem PA_b (n : Nat) (c H : Nat → Fin 10) (S sm : Int) (law k : Nat) (ri : Nat → Fin 10) (sp : Nat → Fin 4) (wo : Nat → Fin 10) (pr : Nat → Prop) (hr : Nat) (hk : k ≤ 4) : 0 ≤ PA n c H S sm law k ri sp wo pr hr ∧ PA n c H S sm law k ri sp wo pr hr ≤ 36 := by
  have := sumF_b (g := fun s => get1 (HD n c H S law ri sp s hr) pr (wo s).val (smk n c S sm)) (lo := 0) (hi := 9) (n := k) (fun s _ => get1_b _ _ _ _)
  unfold PA
  omega
/-- what they pay in some hours -/
noncomputable def TK (n : Nat) (c H : Nat → Fin 10) (S sm : Int) (law k : Nat) (ri : Nat → Fin 10) (sp : Nat → Fin 4) (wo : Nat → Fin 10) (pr : Nat → Prop) (cl : Int) (fr m : Nat) : Int := if cl = 0 then sumF (fun i => PA n c H S sm law k ri sp wo pr (fr + i)) m else 0
theorem TK_b (n : Nat) (c H : Nat → Fin 10) (S sm : Int) (law k : Nat) (ri : Nat → Fin 10) (sp : Nat → Fin 4) (wo : Nat → Fin 10) (pr : Nat → Prop) (cl : Int) (fr m : Nat) (hk : k ≤ 4) : 0 ≤ TK n c H S sm law k ri sp wo pr cl fr m ∧ TK n c H S sm law k ri sp wo pr cl fr m ≤ 36 * m := by
  have := sumF_b (g := fun i => PA n c H S sm law k ri sp wo pr (fr + i)) (lo := 0) (hi := 36) (n := m) (fun s _ => PA_b n c H S sm law k ri sp wo pr _ hk)
  unfold TK
  split <;> omega
section PAID
variable {h h' : Mem} {t n : Nat} {c H : Nat → Fin 10} {ow : Nat → Fin 4} {S sm : Int} {law k : Nat} {ri : Nat → Fin 10} {sp : Nat → Fin 4} {wo : Nat → Fin 10}
theorem t_holderOver (v : SvP h h' n c H S sm law) {x : Nat} (hx : x < 10) : p_X2_holderOver h' (x : Int) = some (hld (Sees n c H S x) (key law c H x) n) := by
  unfold p_X2_holderOver
  rw [if_neg (by omega), if_neg (by omega), gd_w (by omega), v.2.2.2 x hx]
theorem t_holdS (v : SvP h h' n c H S sm law) (sv : SV h' k ri sp wo) {s hr : Nat} : p_X2_holderOver h' ((scell ri sp s hr : Nat) : Int) = some (HD n c H S law ri sp s hr) := t_holderOver v (scell_lt _ _ _ _)
theorem t_payTo (v : SvP h h' n c H S sm law) (hn : n ≤ 5) {j : Nat} (hj : j < n) (hb : bb S j = true) {w : Nat} (hw : w < 10) : p_X2_payTo h' (j : Int) (w : Int) = some ((w - smk n c S sm j : Nat) : Int) := by
  have hle : smk n c S sm j ≤ n := cnt_le _ _
  unfold p_X2_payTo
  rw [if_neg (by omega), if_neg (by omega), gd_w (by omega), v.2.2.1 j hj hb, wr_s (by omega) (by omega)]
  unfold bmax
  congr 1
  split <;> omega
theorem t_payTo9 (h : Mem) (w : Int) : p_X2_payTo h (-9) w = some 0 := by
  unfold p_X2_payTo
  rw [if_pos (by decide)]
theorem t_payOf (v : SvP h h' n c H S sm law) (hn : n ≤ 5) (sv : SV h' k ri sp wo) {s hr : Nat} (hs : s < k) (hh : hr < 100000) : p_X2_payOf h' (s : Int) (hr : Int) = some (get1 (HD n c H S law ri sp s hr) (fun _ => True) (wo s).val (smk n c S sm)) := by
  have hk := sv.1
  unfold p_X2_payOf
  rw [t_cellAt sv hs hh]
  simp only [bd_s]
  rw [t_holdS v sv]
  simp only [bd_s]
  rw [t_worthOf sv hs]
  simp only [bd_s]
  rcases HD_in n c H S law ri sp s hr with q | ⟨j, q1, q2, q3⟩
  · rw [q, t_payTo9]
    simp only [bd_s]
    rw [get1_f (Or.inl rfl)]
  · rw [q2, t_payTo v hn q1 q3 (by omega)]
    simp only [bd_s]
    rw [get1_t rfl trivial]
theorem t_paidAt (v : SvP h h' n c H S sm law) (hn : n ≤ 5) (sv : SV h' k ri sp wo) {T : Int} {pr : Nat → Prop} (hpr : ∀ r, r < n → bb S r = true → (bb T r = true ↔ pr r)) {hr : Nat} (hh : hr < 100000) : p_X2_paidAt h' T (hr : Int) = some (PA n c H S sm law k ri sp wo pr hr) := by
  have hk := sv.1
  unfold p_X2_paidAt PA
  refine loop_up (fun f i a => p_X2_paidAt_L6 h' f T (hr : Int) a i) (sumF (fun s => get1 (HD n c H S law ri sp s hr) pr (wo s).val (smk n c S sm))) k _ ?_ ?_ 300 0 (Nat.zero_le _) (by omega)
  · intro f s hs
    have hb := sumF_b (g := fun s => get1 (HD n c H S law ri sp s hr) pr (wo s).val (smk n c S sm)) (lo := 0) (hi := 9) (n := s) (fun s _ => get1_b _ _ _ _)
    have hb1 := get1_b (HD n c H S law ri sp s hr) pr (wo s) (smk n c S sm)
    simp only [p_X2_paidAt_L6]
    unfold p_X2_paidAt_6
    rw [sv.2.1, if_neg (by omega), t_cellAt sv hs hh]
    simp only [bd_s]
    rw [t_holdS v sv]
    simp only [bd_s]
    rcases HD_in n c H S law ri sp s hr with q | ⟨j, q1, q2, q3⟩
    · rw [if_pos q]
      unfold p_X2_paidAt_61
      rw [wr_1 (by omega)]
      show _ = p_X2_paidAt_L6 h' f T (hr : Int) (sumF _ s + get1 (HD n c H S law ri sp s hr) pr (wo s).val (smk n c S sm)) _
      rw [get1_f (Or.inl q), Int.add_zero]
    · rw [if_neg (by omega), q2]
      by_cases z : pr j
      · rw [if_neg (by rw [hb_0 _ (by omega), (hpr j q1 q3).mpr z]; decide), t_worthOf sv hs]
        simp only [bd_s]
        rw [t_payTo v hn q1 q3 (by omega)]
        simp only [bd_s]
        unfold p_X2_paidAt_61
        rw [get1_t q2 z] at hb1
        rw [wr_1 (by omega), wr_s (by omega) (by omega)]
        show _ = p_X2_paidAt_L6 h' f T (hr : Int) (sumF _ s + get1 (HD n c H S law ri sp s hr) pr (wo s).val (smk n c S sm)) _
        rw [get1_t q2 z]
      · rw [if_pos (by
          rw [hb_0 _ (by omega)]
          cases y : bb T j
          · rfl
          · exact absurd ((hpr j q1 q3).mp y) z)]
        unfold p_X2_paidAt_61
        rw [wr_1 (by omega)]
        show _ = p_X2_paidAt_L6 h' f T (hr : Int) (sumF _ s + get1 (HD n c H S law ri sp s hr) pr (wo s).val (smk n c S sm)) _
        rw [get1_f (Or.inr (by rw [q2]; simpa using z)), Int.add_zero]
  · intro f
    simp only [p_X2_paidAt_L6]
    unfold p_X2_paidAt_6
    rw [sv.2.1, if_pos (by omega)]
theorem t_takings (v : SvP h h' n c H S sm law) (hn : n ≤ 5) (sv : SV h' k ri sp wo) {T : Int} {pr : Nat → Prop} (hpr : ∀ r, r < n → bb S r = true → (bb T r = true ↔ pr r)) {fr m : Nat} (h6 : h' t 6 = (fr : Int)) (hfr : fr < 50000) (hm : m ≤ 100) : p_X2_takings h' t T (m : Int) = some (TK n c H S sm law k ri sp wo pr (h' t 7) fr m) := by
  have hk := sv.1
  unfold p_X2_takings
  by_cases hcl : h' t 7 = 0
  · have e : TK n c H S sm law k ri sp wo pr (h' t 7) fr m = sumF (fun i => PA n c H S sm law k ri sp wo pr (fr + i)) m := if_pos hcl
    rw [e]
    refine loop_up (fun f i a => p_X2_takings_L6 h' t f T (m : Int) a i) (sumF (fun i => PA n c H S sm law k ri sp wo pr (fr + i))) m _ ?_ ?_ 300 0 (Nat.zero_le _) (by omega)
    · intro f i hi
      have hb := sumF_b (g := fun i => PA n c H S sm law k ri sp wo pr (fr + i)) (lo := 0) (hi := 36) (n := i) (fun s _ => PA_b n c H S sm law k ri sp wo pr _ hk)
      have hb1 := PA_b n c H S sm law k ri sp wo pr (fr + i) hk
      simp only [p_X2_takings_L6]
      unfold p_X2_takings_6
      rw [if_neg (by omega), if_pos hcl, h6, wr_s (by omega) (by omega), ← Int.natCast_add, t_paidAt v hn sv hpr (by omega)]
      simp only [bd_s]
      rw [wr_1 (by omega), wr_s (by omega) (by omega)]
      rfl
    · intro f
      simp only [p_X2_takings_L6]
      unfold p_X2_takings_6
      rw [if_pos (by omega)]
  · have e : TK n c H S sm law k ri sp wo pr (h' t 7) fr m = 0 := if_neg hcl
    rw [e]
    have all : ∀ f : Nat, p_X2_takings_L6 h' t (f + 1) T (m : Int) 0 0 = some 0 := by
      intro f
      simp only [p_X2_takings_L6]
      unfold p_X2_takings_6
      by_cases hm0 : (m : Int) ≤ 0
      · rw [if_pos hm0]
      · rw [if_neg hm0, if_neg hcl]
    exact all 299
end PAID
section COVER
variable {h h' : Mem} {t n : Nat} {c H : Nat → Fin 10} {ow : Nat → Fin 4} {S sm : Int} {law k : Nat} {ri : Nat → Fin 10} {sp : Nat → Fin 4} {wo : Nat → Fin 10}
theorem t_cellsPassed (sv : SV h k ri sp wo) {s fr m : Nat} (hs : s < k) (hfr : fr < 50000) (hm : m ≤ 100) : ∃ v, p_X4_cellsPassed h (s : Int) (fr : Int) (m : Int) = some v ∧ ∀ x, x < 32 → (bb v x = true ↔ ∃ i, i < m ∧ scell ri sp s (fr + i) = x) := by
  unfold p_X4_cellsPassed
  refine loop_inv (fun f i a => p_X4_cellsPassed_L6 h f (s : Int) (fr : Int) (m : Int) a i) m (fun j a => ∀ x, x < 32 → (bb a x = true ↔ ∃ i, i < j ∧ scell ri sp s (fr + i) = x)) (fun o => ∃ v, o = some v ∧ ∀ x, x < 32 → (bb v x = true ↔ ∃ i, i < m ∧ scell ri sp s (fr + i) = x)) ?_ ?_ 300 0 0 (Nat.zero_le _) (by omega) (fun x _ => by rw [bb_0]; simp)
  · intro f i a hi hI
    simp only [p_X4_cellsPassed_L6]
    unfold p_X4_cellsPassed_6
    rw [if_neg (by omega), wr_s (by omega) (by omega), ← Int.natCast_add, t_cellAt sv hs (by omega)]
    simp only [bd_s]
    rw [wr_1 (by omega)]
    refine ⟨_, fun x hx => ?_, rfl⟩
    have hlt := scell_lt ri sp s (fr + i)
    rw [bb_or, Bool.or_eq_true, hI x hx, bb_1 (by omega) hx, decide_eq_true_eq]
    constructor
    · rintro (⟨j, q1, q2⟩ | q)
      · exact ⟨j, by omega, q2⟩
      · exact ⟨i, by omega, q.symm⟩
    · rintro ⟨j, q1, q2⟩
      by_cases e : j = i
      · subst e; exact Or.inr q2.symm
      · exact Or.inl ⟨j, by omega, q2⟩
  · intro f a hI
    simp only [p_X4_cellsPassed_L6]
    unfold p_X4_cellsPassed_6
    rw [if_pos (by omega)]
    exact ⟨a, rfl, hI⟩
theorem t_cellsSeenBy (h : Mem) (T : Int) : ∃ v, p_X2_cellsSeenBy h T = some v ∧ ∀ x, x < 32 → (bb v x = true ↔ ∃ r : Nat, r < 5 ∧ bb T r = true ∧ bb (h 30 (r : Int)) x = true) := by
  unfold p_X2_cellsSeenBy
  refine loop_inv (fun f i a => p_X2_cellsSeenBy_L4 h f T a i) 5 (fun j a => ∀ x, x < 32 → (bb a x = true ↔ ∃ r : Nat, r < j ∧ bb T r = true ∧ bb (h 30 (r : Int)) x = true)) (fun o => ∃ v, o = some v ∧ ∀ x, x < 32 → (bb v x = true ↔ ∃ r : Nat, r < 5 ∧ bb T r = true ∧ bb (h 30 (r : Int)) x = true)) ?_ ?_ 300 0 0 (Nat.zero_le _) (by omega) (fun x _ => by rw [bb_0]; simp)
  · intro f r a hr hI
    simp only [p_X2_cellsSeenBy_L4]
    unfold p_X2_cellsSeenBy_4
    rw [if_neg (by omega)]
    by_cases q : bb T r = true
    · rw [if_neg (by rw [hb_0 _ (by omega), q]; decide), gd_w (by omega)]
      unfold p_X2_cellsSeenBy_26
      rw [wr_1 (by omega)]
      refine ⟨_, fun x hx => ?_, rfl⟩
      rw [bb_or, Bool.or_eq_true, hI x hx]
      constructor
      · rintro (⟨j, q1, q2⟩ | w)
        · exact ⟨j, by omega, q2⟩
        · exact ⟨r, by omega, q, w⟩
      · rintro ⟨j, q1, q2, q3⟩
        by_cases e : j = r
        · subst e; exact Or.inr q3
        · exact Or.inl ⟨j, by omega, q2, q3⟩
    · rw [if_pos (by rw [hb_0 _ (by omega)]; simpa using q)]
      unfold p_X2_cellsSeenBy_26
      rw [wr_1 (by omega)]
      refine ⟨_, fun x hx => ?_, rfl⟩
      rw [hI x hx]
      constructor
      · rintro ⟨j, q1, q2⟩; exact ⟨j, by omega, q2⟩
      · rintro ⟨j, q1, q2, q3⟩
        refine ⟨j, ?_, q2, q3⟩
        rcases Nat.lt_or_ge j r with w | w
        · exact w
        · exact absurd (by rw [show r = j by omega]; exact q2) q
  · intro f a hI
    simp only [p_X2_cellsSeenBy_L4]
    unfold p_X2_cellsSeenBy_4
    rw [if_pos (by decide)]
    exact ⟨a, rfl, hI⟩
/-- who holds some star in some hours -/
theorem t_holders (v : SvP h h' n c H S sm law) (hn : n ≤ 5) (sv : SV h' k ri sp wo) {fr m : Nat} (hfr : fr < 50000) (hm : m ≤ 100) : ∃ w, p_X2_holders h' (fr : Int) (m : Int) = some w ∧ ∀ r, r < 32 → (bb w r = true ↔ ∃ s, s < k ∧ ∃ i, i < m ∧ HD n c H S law ri sp s (fr + i) = (r : Int)) := by
  have hk := sv.1
  unfold p_X2_holders
  refine loop_inv (fun f i a => p_X2_holders_L6 h' f (fr : Int) (m : Int) a i) k (fun j a => ∀ r, r < 32 → (bb a r = true ↔ ∃ s, s < j ∧ ∃ i, i < m ∧ HD n c H S law ri sp s (fr + i) = (r : Int))) (fun o => ∃ w, o = some w ∧ ∀ r, r < 32 → (bb w r = true ↔ ∃ s, s < k ∧ ∃ i, i < m ∧ HD n c H S law ri sp s (fr + i) = (r : Int))) ?_ ?_ 300 0 0 (Nat.zero_le _) (by omega) (fun x _ => by rw [bb_0]; simp)
  · intro f s a hs hI
    simp only [p_X2_holders_L6]
    unfold p_X2_holders_6
    rw [sv.2.1, if_neg (by omega)]
    have inner : ∃ a', (∀ r, r < 32 → (bb a' r = true ↔ (∃ s', s' < s ∧ ∃ i, i < m ∧ HD n c H S law ri sp s' (fr + i) = (r : Int)) ∨ ∃ i, i < m ∧ HD n c H S law ri sp s (fr + i) = (r : Int))) ∧ p_X2_holders_L18 (fun (l2 l3 l4 l5 : Int) => p_X2_holders_L6 h' f l2 l3 l4 l5) h' 300 (fr : Int) (m : Int) a (s : Int) 0 = p_X2_holders_L6 h' f (fr : Int) (m : Int) a' ((s : Int) + 1) := by
      refine loop_inv (fun f2 i a => p_X2_holders_L18 (fun (l2 l3 l4 l5 : Int) => p_X2_holders_L6 h' f l2 l3 l4 l5) h' f2 (fr : Int) (m : Int) a (s : Int) i) m (fun j a => ∀ r, r < 32 → (bb a r = true ↔ (∃ s', s' < s ∧ ∃ i, i < m ∧ HD n c H S law ri sp s' (fr + i) = (r : Int)) ∨ ∃ i, i < j ∧ HD n c H S law ri sp s (fr + i) = (r : Int))) (fun o => ∃ a', (∀ r, r < 32 → (bb a' r = true ↔ (∃ s', s' < s ∧ ∃ i, i < m ∧ HD n c H S law ri sp s' (fr + i) = (r : Int)) ∨ ∃ i, i < m ∧ HD n c H S law ri sp s (fr + i) = (r : Int))) ∧ o = p_X2_holders_L6 h' f (fr : Int) (m : Int) a' ((s : Int) + 1)) ?_ ?_ 300 0 a (Nat.zero_le _) (by omega) (fun r hr => by rw [hI r hr]; simp)
      · intro f2 i a2 hi hJ
        simp only [p_X2_holders_L18]
        unfold p_X2_holders_18
        rw [if_neg (by omega), wr_s (by omega) (by omega), ← Int.natCast_add, t_cellAt sv hs (by omega)]
        simp only [bd_s]
        rw [t_holdS v sv]
        simp only [bd_s]
        rcases HD_in n c H S law ri sp s (fr + i) with q | ⟨j, q1, q2, q3⟩
        · rw [if_pos q]
          unfold p_X2_holders_57
          rw [wr_1 (by omega)]
          refine ⟨_, fun r hr => ?_, rfl⟩
          rw [bb_or, bb_0, Bool.or_false, hJ r hr]
          constructor
          · rintro (w | ⟨j, w1, w2⟩)
            · exact Or.inl w
            · exact Or.inr ⟨j, by omega, w2⟩
          · rintro (w | ⟨j, w1, w2⟩)
            · exact Or.inl w
            · refine Or.inr ⟨j, ?_, w2⟩
              rcases Nat.lt_or_ge j i with y | y
              · exact y
              · have : j = i := by omega
                subst this
                omega
        · rw [if_neg (by omega), q2]
          unfold p_X2_holders_57
          rw [wr_1 (by omega)]
          refine ⟨_, fun r hr => ?_, rfl⟩
          rw [bb_or, Bool.or_eq_true, hJ r hr, bb_1 (by omega) hr, decide_eq_true_eq]
          constructor
          · rintro ((w | ⟨j', w1, w2⟩) | w)
            · exact Or.inl w
            · exact Or.inr ⟨j', by omega, w2⟩
            · exact Or.inr ⟨i, by omega, by rw [q2, w]⟩
          · rintro (w | ⟨j', w1, w2⟩)
            · exact Or.inl (Or.inl w)
            · by_cases e : j' = i
              · subst e
                rw [q2] at w2
                exact Or.inr (by omega)
              · exact Or.inl (Or.inr ⟨j', by omega, w2⟩)
      · intro f2 a2 hJ
        simp only [p_X2_holders_L18]
        unfold p_X2_holders_18
        rw [if_pos (by omega)]
        unfold p_X2_holders_66
        rw [wr_1 (by omega)]
        exact ⟨a2, hJ, rfl⟩
    obtain ⟨a', b1, b2⟩ := inner
    refine ⟨a', fun r hr => ?_, b2⟩
    rw [b1 r hr]
    constructor
    · rintro (⟨s', q1, q2⟩ | q)
      · exact ⟨s', by omega, q2⟩
      · exact ⟨s, by omega, q⟩
    · rintro ⟨s', q1, q2⟩
      by_cases e : s' = s
      · subst e; exact Or.inr q2
      · exact Or.inl ⟨s', by omega, q2⟩
  · intro f a hI
    simp only [p_X2_holders_L6]
    unfold p_X2_holders_6
    rw [sv.2.1, if_pos (by omega)]
    exact ⟨a, rfl, hI⟩
end COVER
