/-! ===== hour ===== -/
theorem wr_add (a b : Int) : wr (wr a + b) = wr (a + b) := by
  unfold wr
  congr 1
  show Int32.ofInt ((Int32.ofInt a).toInt + b) = Int32.ofInt (a + b)
  rw [Int32.ofInt_add, Int32.ofInt_add, Int32.ofInt_toInt]
theorem wr_back {p R : Int} (hp : RI p) (hR : 0 ≤ R ∧ R ≤ 1000) : wr (wr (p + R) + wr (-1 * R)) = p := by
  rw [wr_s (a := -1 * R) (by omega) (by omega), wr_add, show p + R + -1 * R = p by omega]
  exact wr_id hp
section HOUR
variable {h h' g : Mem} {n : Nat} {c H : Nat → Fin 10} {ow : Nat → Fin 4} {S sm : Int} {k : Nat} {ri : Nat → Fin 10} {sp : Nat → Fin 4} {wo : Nat → Fin 10} {law hr : Nat} {cl : Int}
theorem SvP.rf (v : SvP h h' n c H S sm law) : SvP h' h' n c H S sm law := ⟨fun _ _ _ _ => rfl, v.2⟩
theorem SvP.row (v : SvP h h n c H S sm law) (e : ∀ i, 30 ≤ i → i ≤ 32 → h' i = h i) : SvP h' h' n c H S sm law := by
  obtain ⟨_, v2, v3, v4⟩ := v
  exact ⟨fun _ _ _ _ => rfl, by rw [e 30 (by decide) (by decide)]; exact v2, by rw [e 31 (by decide) (by decide)]; exact v3, by rw [e 32 (by decide) (by decide)]; exact v4⟩
theorem x_pay (v : CV h n c H ow sm k ri sp wo law hr cl) {s : Int} (hs : s = 1 ∨ s = -1) : ∃ h', p_X8_payPurses h s = some (sumF (fun l => RT n c H ow (AL n) sm law k ri sp wo cl hr 1 (l : Int)) 4, h') ∧ (∀ i, i ≠ 11 → i ≠ 30 → i ≠ 31 → i ≠ 32 → h' i = h i) ∧ ∀ l : Nat, l < 4 → h' 11 (l : Int) = wr (h 11 (l : Int) + wr (s * RT n c H ow (AL n) sm law k ri sp wo cl hr 1 (l : Int))) := by
  obtain ⟨g, eg, sg⟩ := x_survey v
  have hk := v.2.1.1
  have vg := v.sc sg.sc
  have sgg := sg.rf
  have hR := fun l : Nat => RT_b n c H ow (AL n) sm law k ri sp wo cl hr 1 (l : Int) hk
  have eg2 : ∃ q, p_X6_everyRoof h 7 = some q ∧ p_X2_survey h 7 q (h 0 11) = some g := by
    refine ⟨_, t_every v.1, ?_⟩
    unfold p_X8_surveyTown at eg
    rw [t_every v.1, bd_n] at eg
    cases e : p_X2_survey h 7 (AL n) (h 0 11) with
    | none => rw [e] at eg; exact absurd eg (by intro z; cases z)
    | some g' => rw [e, bd_n] at eg; exact eg
  obtain ⟨q, eq1, eq2⟩ := eg2
  unfold p_X8_payPurses
  rw [eq1, bd_n, eq2, bd_n]
  refine loop_inv (fun f i (A : Mem × Int) => p_X8_payPurses_L26 f A.1 s A.2 i) 4 (fun j A => (∀ i, i ≠ 11 → A.1 i = g i) ∧ (∀ l : Nat, l < j → A.1 11 (l : Int) = wr (h 11 (l : Int) + wr (s * RT n c H ow (AL n) sm law k ri sp wo cl hr 1 (l : Int)))) ∧ (∀ l : Nat, j ≤ l → A.1 11 (l : Int) = h 11 (l : Int)) ∧ A.2 = sumF (fun l => RT n c H ow (AL n) sm law k ri sp wo cl hr 1 (l : Int)) j) (fun o => ∃ h', o = some (sumF (fun l => RT n c H ow (AL n) sm law k ri sp wo cl hr 1 (l : Int)) 4, h') ∧ (∀ i, i ≠ 11 → i ≠ 30 → i ≠ 31 → i ≠ 32 → h' i = h i) ∧ ∀ l : Nat, l < 4 → h' 11 (l : Int) = wr (h 11 (l : Int) + wr (s * RT n c H ow (AL n) sm law k ri sp wo cl hr 1 (l : Int)))) ?_ ?_ 300 0 (g, 0) (Nat.zero_le _) (by omega) ⟨fun _ _ => rfl, fun l hl => by omega, fun l _ => by show g 11 (l : Int) = _; rw [sg.1 11 (by decide) (by decide) (by decide)], rfl⟩
  · rintro f j ⟨a, t⟩ hj ⟨i1, i2, i3, i4⟩
    simp only at i1 i2 i3 i4
    subst i4
    have va : CV a n c H ow sm k ri sp wo law hr cl := by
      obtain ⟨w1, w2, w3, w4, w5, w6⟩ := vg
      exact ⟨w1.same (i1 _ (by decide)) (i1 _ (by decide)) (i1 _ (by decide)) (i1 _ (by decide)), w2.same (i1 _ (by decide)) (i1 _ (by decide)) (i1 _ (by decide)) (i1 _ (by decide)), by rw [i1 0 (by decide)]; exact w3, by rw [i1 7 (by decide)]; exact w4, by rw [i1 7 (by decide)]; exact w5, w6⟩
    have sa : SvP a a n c H (AL n) sm law := sgg.row (fun i a b => i1 i (by omega))
    have tk := x_takeOne va sa (m := 1) (by decide) (l := (j : Int)) (by omega)
    have sb := sumF_b (g := fun l : Nat => RT n c H ow (AL n) sm law k ri sp wo cl hr 1 (l : Int)) (lo := 0) (hi := 36) (n := j) (fun s _ => by have := hR s; omega)
    have hRj := hR j
    simp only [p_X8_payPurses_L26]
    unfold p_X8_payPurses_26
    rw [if_neg (by omega), t_roofsOf va.1, bd_n, show (1 : Int) = ((1 : Nat) : Int) from rfl, tk, bd_n, gd_w (by omega), gd_w (by omega), ← show (1 : Int) = ((1 : Nat) : Int) from rfl, wr_1 (by omega), wr_s (a := sumF _ j + _) (by omega) (by omega), i3 j (Nat.le_refl j)]
    refine ⟨(_, _), ⟨fun i hi => ?_, fun l hl => ?_, fun l hl => ?_, rfl⟩, rfl⟩
    · rw [← i1 i hi]; funext q; exact up_c _ _ _ _ hi
    · by_cases e : l = j
      · subst e; exact up_eq _ _ _ _
      · exact (up_k _ _ _ _ (by omega)).trans (i2 l (by omega))
    · exact (up_k _ _ _ _ (by omega)).trans (i3 l (by omega))
  · rintro f ⟨a, t⟩ ⟨i1, i2, i3, i4⟩
    simp only at i1 i2 i3 i4
    subst i4
    simp only [p_X8_payPurses_L26]
    unfold p_X8_payPurses_26
    rw [if_pos (by decide)]
    exact ⟨a, rfl, fun i h1 h2 h3 h4 => by rw [i1 i h1, sg.1 i h2 h3 h4], i2⟩
theorem y_pay (v : MV2 g n c H ow sm k ri sp wo law hr cl) {pu : Nat → Int} (hpu : ∀ l : Nat, l < 4 → g 53 (12 + (l : Int)) = pu l) : ∃ h', p_X9_hour_L13 300 g 0 0 = some (sumF (fun l => RT n c H ow (AL n) sm law k ri sp wo cl hr 1 (l : Int)) 4, h') ∧ (∀ i, i ≠ 53 → h' i = g i) ∧ (∀ z : Int, z < 12 → h' 53 z = g 53 z) ∧ (∀ l : Nat, l < 4 → h' 53 (12 + (l : Int)) = wr (pu l + RT n c H ow (AL n) sm law k ri sp wo cl hr 1 (l : Int))) ∧ h' 53 16 = ((hr + 1 : Nat) : Int) := by
  have hk := v.2.1.1
  have h40 := v.2.2.2.2.2.1
  have hR := fun l : Nat => RT_b n c H ow (AL n) sm law k ri sp wo cl hr 1 (l : Int) hk
  refine loop_inv (fun f i (A : Mem × Int) => p_X9_hour_L13 f A.1 A.2 i) 4 (fun j A => (∀ i, i ≠ 53 → A.1 i = g i) ∧ (∀ z : Int, z < 12 ∨ z = 16 → A.1 53 z = g 53 z) ∧ (∀ l : Nat, l < j → A.1 53 (12 + (l : Int)) = wr (pu l + RT n c H ow (AL n) sm law k ri sp wo cl hr 1 (l : Int))) ∧ (∀ l : Nat, j ≤ l → l < 4 → A.1 53 (12 + (l : Int)) = pu l) ∧ A.2 = sumF (fun l => RT n c H ow (AL n) sm law k ri sp wo cl hr 1 (l : Int)) j) (fun o => ∃ h', o = some (sumF (fun l => RT n c H ow (AL n) sm law k ri sp wo cl hr 1 (l : Int)) 4, h') ∧ (∀ i, i ≠ 53 → h' i = g i) ∧ (∀ z : Int, z < 12 → h' 53 z = g 53 z) ∧ (∀ l : Nat, l < 4 → h' 53 (12 + (l : Int)) = wr (pu l + RT n c H ow (AL n) sm law k ri sp wo cl hr 1 (l : Int))) ∧ h' 53 16 = ((hr + 1 : Nat) : Int)) ?_ ?_ 300 0 (g, 0) (Nat.zero_le _) (by omega) ⟨fun _ _ => rfl, fun _ _ => rfl, fun l hl => by omega, fun l _ hl => hpu l hl, rfl⟩
  · rintro f j ⟨a, t⟩ hj ⟨i1, i2, i3, i4, i5⟩
    simp only at i1 i2 i3 i4 i5
    subst i5
    have va : MV2 a n c H ow sm k ri sp wo law hr cl := by
      obtain ⟨⟨p1, p2, p3, p4, p5, p6⟩, ⟨m1, m2, m3, m4, m5⟩, w1, w2, w3, w4⟩ := v
      exact ⟨⟨p1, by rw [i1 45 (by decide)]; exact p2, by rw [i2 5 (by decide)]; exact p3, by rw [i1 47 (by decide)]; exact p4, fun r hr => by rw [i2 _ (by omega)]; exact p5 r hr, fun r hr => by rw [i2 _ (by omega)]; exact p6 r hr⟩, ⟨m1, by rw [i1 45 (by decide)]; exact m2, by rw [i1 48 (by decide)]; exact m3, by rw [i1 49 (by decide)]; exact m4, by rw [i1 50 (by decide)]; exact m5⟩, by rw [i1 45 (by decide)]; exact w1, by rw [i2 16 (by decide)]; exact w2, by rw [i2 11 (by decide)]; exact w3, w4⟩
    have sb := sumF_b (g := fun l : Nat => RT n c H ow (AL n) sm law k ri sp wo cl hr 1 (l : Int)) (lo := 0) (hi := 36) (n := j) (fun s _ => by have := hR s; omega)
    have hRj := hR j
    have tk : p_X9_rentsOf a 53 (AL n) (hr : Int) 1 (j : Int) (law : Int) = some (RT n c H ow (AL n) sm law k ri sp wo cl hr 1 (j : Int)) := by
      have := m_rentsOf va.1 va.2.1 (fr := hr) (m := 1) (law := law) (by omega) (by decide) (AL n) (o := (j : Int)) (by omega)
      rw [va.2.2.2.2.1] at this
      exact this
    simp only [p_X9_hour_L13]
    unfold p_X9_hour_13
    rw [if_neg (by omega), m_all va.1, bd_n, va.2.2.2.1, va.2.2.1, tk, bd_n, wr_s (a := 12 + (j : Int)) (by omega) (by omega), gd_w (by omega), gd_w (by omega), wr_1 (by omega), wr_s (a := sumF _ j + _) (by omega) (by omega), i4 j (Nat.le_refl j) hj]
    refine ⟨(_, _), ⟨fun i hi => ?_, fun z hz => ?_, fun l hl => ?_, fun l hl h4 => ?_, rfl⟩, rfl⟩
    · rw [← i1 i hi]; funext q; exact up_c _ _ _ _ hi
    · exact (up_k _ _ _ _ (by omega)).trans (i2 z hz)
    · by_cases e : l = j
      · subst e; exact up_eq _ _ _ _
      · exact (up_k _ _ _ _ (by omega)).trans (i3 l (by omega))
    · exact (up_k _ _ _ _ (by omega)).trans (i4 l (by omega) h4)
  · rintro f ⟨a, t⟩ ⟨i1, i2, i3, i4, i5⟩
    simp only at i1 i2 i3 i4 i5
    subst i5
    simp only [p_X9_hour_L13]
    unfold p_X9_hour_13 p_X9_hour_67
    rw [if_pos (by decide), i2 16 (by decide), v.2.2.2.1, wr_1 (by omega)]
    refine ⟨_, rfl, fun i hi => ?_, fun z hz => ?_, fun l hl => ?_, ?_⟩
    · rw [← i1 i hi]; funext q; exact up_c _ _ _ _ hi
    · rw [up_k _ _ _ _ (by omega)]; exact i2 z (by omega)
    · rw [up_k _ _ _ _ (by omega)]; exact i3 l hl
    · rw [up_eq]; omega
end HOUR
theorem pr_hour {B : Nat} (hB : B + 1 ≤ 600) : Pair B (B + 1) (fun h => p_X8_hour h) (fun h => p_X9_hour h) := by
  intro h i
  obtain ⟨n, c, k, ri, sp, wo, law, a, pg, f0, q0, f1, q1, w, ce, ho, sh, tx, by', sd, i1, i2, i3⟩ := i
  show ∃ (u : Int) (h1 h2 : Mem), p_X8_hour h = some (u, h1) ∧ p_X9_hour h1 = some (u, h2) ∧ INV (B + 1) h2
  obtain ⟨cp1, cp2, cp3, cp4⟩ := id i1.1
  have cv := i1.cv i3
  have hk := cv.2.1.1
  have vp := i3.2.2.2.1 a (Nat.le_refl a)
  have h40 := cv.2.2.2.2.2.1
  let R : Nat → Int := fun l => RT n c (pH (pg a)) (pO (pg a)) (AL n) (pS (pg a)) law k ri sp wo (pC (pg a)) (pT (pg a)) 1 (l : Int)
  have hR := fun l : Nat => RT_b n c (pH (pg a)) (pO (pg a)) (AL n) (pS (pg a)) law k ri sp wo (pC (pg a)) (pT (pg a)) 1 (l : Int) hk
  let P : Pg := (pH (pg a), pO (pg a), pS (pg a), pC (pg a), fun l => if l < 4 then wr (pP (pg a) l + R l) else pP (pg a) l, pT (pg a) + 1)
  have vP : VP (B + 1) P := by
    refine ⟨vp.1, vp.2.1, fun l => ?_, Nat.succ_le_succ vp.2.2.2⟩
    show RI (if l < 4 then wr (pP (pg a) l + R l) else pP (pg a) l)
    split
    · exact RI_toInt _
    · exact vp.2.2.1 l
  obtain ⟨g, eg, sg, pg11⟩ := x_pay cv (s := 1) (Or.inl rfl)
  unfold p_X8_hour
  rw [eg, bd_n]
  have eB : ∀ i, i < 7 ∨ 11 < i → ¬ (12 ≤ i ∧ i ≤ 16) → ¬ (30 ≤ i ∧ i ≤ 32) → ¬ (42 ≤ i ∧ i ≤ 44) → up g 7 6 (wr (g 7 6 + 1)) i = h i := fun i a1 a2 a3 a4 => by
    rw [← sg i (by omega) (by omega) (by omega) (by omega)]; funext z; exact up_c _ _ _ _ (by omega)
  have g7 : g 7 = h 7 := sg 7 (by decide) (by decide) (by decide) (by decide)
  have hcp : CP (up g 7 6 (wr (g 7 6 + 1))) 7 n c P := by
    obtain ⟨hn, a4, a5, hc, hH, hO⟩ := cp1
    refine ⟨⟨hn, by rw [up_k _ _ _ _ (by decide), g7]; exact a4, by rw [up_k _ _ _ _ (by decide), g7]; exact a5, fun i hi => by rw [up_c _ _ _ _ (by decide), sg _ (by decide) (by decide) (by decide) (by decide)]; exact hc i hi, fun i hi => by rw [up_c _ _ _ _ (by decide), sg _ (by decide) (by decide) (by decide) (by decide)]; exact hH i hi, fun i hi => by rw [up_c _ _ _ _ (by decide), sg _ (by decide) (by decide) (by decide) (by decide)]; exact hO i hi⟩, ?_, by rw [up_k _ _ _ _ (by decide), g7]; exact cp3, fun l hl => ?_⟩
    · rw [up_eq, g7, cp2, wr_1 (by omega)]
      show _ = ((pT (pg a) + 1 : Nat) : Int)
      omega
    · show up g 7 6 (wr (g 7 6 + 1)) 11 (l : Int) = if l < 4 then wr (pP (pg a) l + R l) else pP (pg a) l
      have := hR l
      rw [up_c _ _ _ _ (by decide), pg11 l hl, if_pos hl, show h 11 (l : Int) = pP (pg a) l from cp4 l hl, Int.one_mul, wr_s (a := RT _ _ _ _ _ _ _ _ _ _ _ _ _ _ _) (by omega) (by omega)]
  have hu : UndoR n c k ri sp wo law 4 0 0 P (pg a) := by
    refine Or.inr (Or.inr (Or.inr (Or.inr ⟨rfl, Nat.succ_pos _, ?_⟩)))
    have : (fun l => if l < 4 then wr (pP P l + wr (-1 * rent1 n c k ri sp wo law P (pT P - 1) l)) else pP P l) = pP (pg a) := by
      funext l
      by_cases e : l < 4
      · rw [if_pos e]
        show wr ((if l < 4 then wr (pP (pg a) l + R l) else pP (pg a) l) + wr (-1 * R l)) = pP (pg a) l
        rw [if_pos e]
        have := hR l
        exact wr_back (vp.2.2.1 l) ⟨this.1, Int.le_trans this.2 (by decide)⟩
      · rw [if_neg e]
        show (if l < 4 then wr (pP (pg a) l + R l) else pP (pg a) l) = _
        rw [if_neg e]
    rw [this]
    rfl
  obtain ⟨h1, ea, j1, lo, same⟩ := i1.act i3.2.2.1 eB hcp hu
  rw [ea, bd_n]
  have j2 := i2.lo lo
  have sm := Sm.up0 h1
  have m1 := (j2.md sm).mv i3
  obtain ⟨b, eb, hi, e53, e4, e47, e5, e6, mk⟩ := (j2.md sm).act i3.2.2.1 P
  have mb : MV2 b n c (pH (pg a)) (pO (pg a)) (pS (pg a)) k ri sp wo law (pT (pg a)) (pC (pg a)) := by
    obtain ⟨⟨p1, p2, p3, p4, p5, p6⟩, ⟨m1, m2, m3, m4, m5⟩, w1, w2, w3, w4⟩ := m1
    exact ⟨⟨p1, by rw [e5]; exact p2, by rw [e53]; exact p3, by rw [e47 47 (by decide)]; exact p4, by rw [e53]; exact p5, by rw [e53]; exact p6⟩, ⟨m1, by rw [e6]; exact m2, by rw [e47 48 (by decide)]; exact m3, by rw [e47 49 (by decide)]; exact m4, by rw [e47 50 (by decide)]; exact m5⟩, by rw [e4]; exact w1, by rw [e53]; exact w2, by rw [e53]; exact w3, w4⟩
  have pf := (j2.md sm).1
  rw [← e53] at pf
  obtain ⟨d, ed, d1, d2, d3, d4⟩ := y_pay mb (pu := pP (pg a)) pf.2.2.2.2.1
  refine ⟨_, h1, d, rfl, ?_, n, c, k, ri, sp, wo, law, na a, np a pg P, f0, q0, f1, q1, w, ce, ho, sh, tx, by', sd, ((j1.hi sm.hi).hi hi).hi (fun i q => d1 i (by omega)), mk d d1 ?_, i3.act (Nat.le_succ B) hB vP⟩
  · unfold p_X9_hour
    rw [eb, bd_n]
    exact ed
  · obtain ⟨p1, p2, p3, p4, p5, p6⟩ := pf
    have hn := cp1.1
    refine ⟨fun r hr => by rw [d2 _ (by omega)]; exact p1 r hr, by rw [d2 _ (by decide)]; exact p2, fun r hr => by rw [d2 _ (by omega)]; exact p3 r hr, by rw [d2 _ (by decide)]; exact p4, fun l hl => ?_, d4⟩
    rw [d3 l hl]
    show _ = if l < 4 then wr (pP (pg a) l + R l) else pP (pg a) l
    rw [if_pos hl]
