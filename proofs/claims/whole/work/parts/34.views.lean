/-! ===== one night, seen by the class and by the reference ===== -/
def CV (h : Mem) (n : Nat) (c H : Nat → Fin 10) (ow : Nat → Fin 4) (sm : Int) (k : Nat) (ri : Nat → Fin 10) (sp : Nat → Fin 4) (wo : Nat → Fin 10) (law hr : Nat) (cl : Int) : Prop := TV h 7 n c H ow sm ∧ SV h k ri sp wo ∧ h 0 11 = (law : Int) ∧ h 7 6 = (hr : Int) ∧ h 7 7 = cl ∧ hr ≤ 40000 ∧ (cl = 0 ∨ cl = 1)
def MV2 (h : Mem) (n : Nat) (c H : Nat → Fin 10) (ow : Nat → Fin 4) (sm : Int) (k : Nat) (ri : Nat → Fin 10) (sp : Nat → Fin 4) (wo : Nat → Fin 10) (law hr : Nat) (cl : Int) : Prop := PV h 53 n c H ow sm ∧ MS h k ri sp wo ∧ h 45 4 = (law : Int) ∧ h 53 16 = (hr : Int) ∧ h 53 11 = cl ∧ hr ≤ 40000 ∧ (cl = 0 ∨ cl = 1)
/-- what the class's what-ifs may change, what the reference's may -/
def Sc (h h' : Mem) : Prop := ∀ i, ¬ (12 ≤ i ∧ i ≤ 16) → ¬ (30 ≤ i ∧ i ≤ 32) → ¬ (42 ≤ i ∧ i ≤ 44) → h' i = h i
def Sm (h h' : Mem) : Prop := (∀ i, i ≠ 45 → i ≠ 51 → i ≠ 52 → i ≠ 54 → i ≠ 61 → i ≠ 62 → h' i = h i) ∧ ∀ f : Int, (f = 2 ∨ f = 4 ∨ f = 5 ∨ f = 6 ∨ f = 19 ∨ f = 22 ∨ f = 26) → h' 45 f = h 45 f
theorem Sc.rf (h : Mem) : Sc h h := fun _ _ _ _ => rfl
theorem Sc.tr {h h1 h2 : Mem} (a : Sc h h1) (b : Sc h1 h2) : Sc h h2 := fun i q1 q2 q3 => (b i q1 q2 q3).trans (a i q1 q2 q3)
theorem Sm.rf (h : Mem) : Sm h h := ⟨fun _ _ _ _ _ _ _ => rfl, fun _ _ => rfl⟩
theorem Sm.tr {h h1 h2 : Mem} (a : Sm h h1) (b : Sm h1 h2) : Sm h h2 := ⟨fun i q1 q2 q3 q4 q5 q6 => (b.1 i q1 q2 q3 q4 q5 q6).trans (a.1 i q1 q2 q3 q4 q5 q6), fun f q => (b.2 f q).trans (a.2 f q)⟩
theorem Sm.up0 (h : Mem) : Sm h (up h 45 0 0) := ⟨fun i q _ _ _ _ _ => by funext z; exact up_c _ _ _ _ q, fun f q => up_k _ _ _ _ (by rcases q with rfl | rfl | rfl | rfl | rfl | rfl | rfl <;> decide)⟩
section VIEW
variable {h h' : Mem} {n : Nat} {c H : Nat → Fin 10} {ow : Nat → Fin 4} {S sm : Int} {k : Nat} {ri : Nat → Fin 10} {sp : Nat → Fin 4} {wo : Nat → Fin 10} {law hr : Nat} {cl : Int}
theorem CV.sc (v : CV h n c H ow sm k ri sp wo law hr cl) (s : Sc h h') : CV h' n c H ow sm k ri sp wo law hr cl := by
  have e : ∀ i, i < 12 → h' i = h i := fun i hi => s i (by omega) (by omega) (by omega)
  exact ⟨v.1.same (e _ (by decide)) (e _ (by decide)) (e _ (by decide)) (e _ (by decide)), v.2.1.same (e _ (by decide)) (e _ (by decide)) (e _ (by decide)) (e _ (by decide)), by rw [e 0 (by decide)]; exact v.2.2.1, by rw [e 7 (by decide)]; exact v.2.2.2.1, by rw [e 7 (by decide)]; exact v.2.2.2.2.1, v.2.2.2.2.2⟩
theorem MV2.md (v : MV2 h n c H ow sm k ri sp wo law hr cl) (s : Sm h h') : MV2 h' n c H ow sm k ri sp wo law hr cl := by
  have e : ∀ i, (i = 47 ∨ i = 48 ∨ i = 49 ∨ i = 50 ∨ i = 53) → h' i = h i := fun i hi => s.1 i (by omega) (by omega) (by omega) (by omega) (by omega) (by omega)
  have f := s.2
  obtain ⟨⟨p1, p2, p3, p4, p5, p6⟩, ⟨m1, m2, m3, m4, m5⟩, q1, q2, q3, q4⟩ := v
  refine ⟨⟨p1, ?_, ?_, ?_, ?_, ?_⟩, ⟨m1, ?_, ?_, ?_, ?_⟩, ?_, ?_, ?_, q4⟩
  · rw [f 5 (by decide)]; exact p2
  · rw [e 53 (by decide)]; exact p3
  · rw [e 47 (by decide)]; exact p4
  · rw [e 53 (by decide)]; exact p5
  · rw [e 53 (by decide)]; exact p6
  · rw [f 6 (by decide)]; exact m2
  · rw [e 48 (by decide)]; exact m3
  · rw [e 49 (by decide)]; exact m4
  · rw [e 50 (by decide)]; exact m5
  · rw [f 4 (by decide)]; exact q1
  · rw [e 53 (by decide)]; exact q2
  · rw [e 53 (by decide)]; exact q3
theorem MV2.sc (v : MV2 h n c H ow sm k ri sp wo law hr cl) (s : Sc h h') : MV2 h' n c H ow sm k ri sp wo law hr cl := by
  have e : ∀ i, 45 ≤ i → h' i = h i := fun i hi => s i (by omega) (by omega) (by omega)
  obtain ⟨⟨p1, p2, p3, p4, p5, p6⟩, ⟨m1, m2, m3, m4, m5⟩, q1, q2, q3, q4⟩ := v
  refine ⟨⟨p1, ?_, ?_, ?_, ?_, ?_⟩, ⟨m1, ?_, ?_, ?_, ?_⟩, ?_, ?_, ?_, q4⟩ <;> simp only [e 45 (by decide), e 47 (by decide), e 48 (by decide), e 49 (by decide), e 50 (by decide), e 53 (by decide)] <;> assumption
theorem SvP.sc (v : SvP h h' n c H S sm law) : Sc h h' := fun i _ q _ => v.1 i (by omega) (by omega) (by omega)
theorem AL_hi {n : Nat} (hn : n ≤ 5) : ∀ r, n ≤ r → r < 32 → bb (AL n) r = false := by
  intro r h1 h2
  rw [bb_AL hn h2]
  simp
  omega
theorem x_survey (v : CV h n c H ow sm k ri sp wo law hr cl) : ∃ h', p_X8_surveyTown h = some h' ∧ SvP h h' n c H (AL n) sm law := by
  obtain ⟨h', e, s⟩ := t_survey v.1 (by decide) (AL_hi v.1.1) law
  refine ⟨h', ?_, s⟩
  unfold p_X8_surveyTown
  rw [t_every v.1]
  simp only [bd_s]
  rw [v.2.2.1, e]
  rfl
theorem x_landlord (h : Mem) (l : Int) : p_X8_isLandlord h l = some (if 0 ≤ l ∧ l < 4 then 1 else 0) := by
  unfold p_X8_isLandlord
  grind
theorem x_span (h : Mem) (a b : Int) : p_X8_isSpan h a b = some (if 1 ≤ a ∧ a ≤ b then 1 else 0) := by
  unfold p_X8_isSpan
  grind
/-- the rents of one landlord (all: 4) -/
noncomputable def RT (n : Nat) (c H : Nat → Fin 10) (ow : Nat → Fin 4) (S sm : Int) (law k : Nat) (ri : Nat → Fin 10) (sp : Nat → Fin 4) (wo : Nat → Fin 10) (cl : Int) (fr m : Nat) (o : Int) : Int := TK n c H S sm law k ri sp wo (fun j => o = 4 ∨ ((ow j).val : Int) = o) cl fr m
theorem bb_owner {n : Nat} (hn : n ≤ 5) (ow : Nat → Fin 4) {l : Int} (hl : l ≠ 4) : ∀ r, r < n → (bb (bset (fun r => ((ow r).val : Int) = l) n) r = true ↔ (l = 4 ∨ ((ow r).val : Int) = l)) := by
  intro r hr
  rw [bb_bset _ (by omega) n (by omega)]
  constructor
  · rintro ⟨_, q⟩; exact Or.inr q
  · rintro (q | q)
    · exact absurd q hl
    · exact ⟨hr, q⟩
theorem x_takeAll (v : CV h n c H ow sm k ri sp wo law hr cl) (s : SvP h h' n c H (AL n) sm law) {m : Nat} (hm : m ≤ 100) {l : Int} (hl : l = 4) : p_X2_takings h' 7 (AL n) (m : Int) = some (RT n c H ow (AL n) sm law k ri sp wo cl hr m l) := by
  have v' := v.sc s.sc
  have := t_takings (t := 7) s v.1.1 v'.2.1 (T := AL n) (pr := fun j => l = 4 ∨ ((ow j).val : Int) = l) (fun r h1 h2 => ⟨fun _ => Or.inl hl, fun _ => h2⟩) v'.2.2.2.1 (by have := v.2.2.2.2.2.1; omega) hm
  rw [v'.2.2.2.2.1] at this
  exact this
theorem x_takeOne (v : CV h n c H ow sm k ri sp wo law hr cl) (s : SvP h h' n c H S sm law) {m : Nat} (hm : m ≤ 100) {l : Int} (hl : l ≠ 4) : p_X2_takings h' 7 (bset (fun r => ((ow r).val : Int) = l) n) (m : Int) = some (RT n c H ow S sm law k ri sp wo cl hr m l) := by
  have v' := v.sc s.sc
  have := t_takings (t := 7) s v.1.1 v'.2.1 (T := bset (fun r => ((ow r).val : Int) = l) n) (pr := fun j => l = 4 ∨ ((ow j).val : Int) = l) (fun r h1 _ => bb_owner v.1.1 ow hl r h1) v'.2.2.2.1 (by have := v.2.2.2.2.2.1; omega) hm
  rw [v'.2.2.2.2.1] at this
  exact this
theorem toN {a : Int} (h : 0 ≤ a) : ∃ m : Nat, a = (m : Int) := ⟨a.toNat, by omega⟩
theorem if01_t {c : Prop} [Decidable c] {α : Type} {a b : α} (h : c) : (if (if c then (1 : Int) else 0) = 0 then a else b) = b := by simp [h]
theorem if01_f {c : Prop} [Decidable c] {α : Type} {a b : α} (h : ¬ c) : (if (if c then (1 : Int) else 0) = 0 then a else b) = a := by simp [h]
/-- RENTS -/
noncomputable def s_rents (n : Nat) (c H : Nat → Fin 10) (ow : Nat → Fin 4) (sm : Int) (k : Nat) (ri : Nat → Fin 10) (sp : Nat → Fin 4) (wo : Nat → Fin 10) (law hr : Nat) (cl l m : Int) : Int := if 0 ≤ l ∧ l ≤ 4 then if 0 ≤ m ∧ m ≤ 12 then RT n c H ow (AL n) sm law k ri sp wo cl hr m.toNat l else -2 else -1
theorem x_rents (v : CV h n c H ow sm k ri sp wo law hr cl) (l m : Int) : ∃ h', p_X8_rents h l m = some (s_rents n c H ow sm k ri sp wo law hr cl l m, h') ∧ Sc h h' := by
  have body : (0 ≤ l ∧ l ≤ 4) → ∃ h', p_X8_rents_14 h l m = some (s_rents n c H ow sm k ri sp wo law hr cl l m, h') ∧ Sc h h' := by
    intro hl
    unfold p_X8_rents_14 s_rents
    rw [if_pos hl]
    by_cases h0 : m < 0
    · rw [if_pos h0, if_neg (by omega)]; exact ⟨h, rfl, Sc.rf h⟩
    · rw [if_neg h0]
      by_cases h1 : m ≤ 12
      · rw [if_pos h1, if_pos ⟨by omega, h1⟩]
        obtain ⟨m', rfl⟩ := toN (show 0 ≤ m by omega)
        obtain ⟨h', e, s⟩ := x_survey v
        rw [e]
        simp only [bd_s]
        have v' := v.sc s.sc
        by_cases h4 : l = 4
        · rw [if_pos h4, t_every v'.1]
          simp only [bd_s]
          unfold p_X8_rents_54
          rw [x_takeAll v s (by omega) h4]
          exact ⟨h', by simp only [bd_s, Int.toNat_natCast], s.sc⟩
        · rw [if_neg h4, t_roofsOf v'.1]
          simp only [bd_s]
          unfold p_X8_rents_54
          rw [x_takeOne v s (by omega) h4]
          exact ⟨h', by simp only [bd_s, Int.toNat_natCast], s.sc⟩
      · rw [if_neg h1, if_neg (by omega)]; exact ⟨h, rfl, Sc.rf h⟩
  unfold p_X8_rents
  rw [x_landlord]
  simp only [bd_s]
  by_cases h03 : 0 ≤ l ∧ l < 4
  · rw [if01_t h03]; exact body ⟨h03.1, by omega⟩
  · rw [if01_f h03]
    by_cases h4 : l = 4
    · rw [if_pos h4]; exact body ⟨by omega, by omega⟩
    · rw [if_neg h4]
      refine ⟨h, ?_, Sc.rf h⟩
      unfold s_rents
      rw [if_neg (by omega)]
theorem y_rents (v : MV2 h n c H ow sm k ri sp wo law hr cl) (l m : Int) : ∃ h', p_X9_rents h l m = some (s_rents n c H ow sm k ri sp wo law hr cl l m, h') ∧ Sm h h' := by
  have v' := v.md (Sm.up0 h)
  refine ⟨_, ?_, Sm.up0 h⟩
  unfold p_X9_rents s_rents
  rw [m_in]
  simp only [bd_s]
  by_cases hl : 0 ≤ l ∧ l ≤ 4
  · rw [if01_t hl, if_pos hl, m_in]
    simp only [bd_s]
    by_cases hm : 0 ≤ m ∧ m ≤ 12
    · rw [if01_t hm, if_pos hm, m_all v'.1]
      simp only [bd_s]
      obtain ⟨m', rfl⟩ := toN hm.1
      rw [v'.2.2.2.1, v'.2.2.1, m_rentsOf v'.1 v'.2.1 (by have := v.2.2.2.2.2.1; omega) (by omega) (AL n) hl]
      simp only [bd_s, Int.toNat_natCast]
      rw [v'.2.2.2.2.1]
      rfl
    · rw [if01_f hm, if_neg hm]
  · rw [if01_f hl, if_neg hl]
end VIEW
