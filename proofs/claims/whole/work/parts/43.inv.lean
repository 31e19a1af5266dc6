/-! ===== the state of a run, as class and reference hold it ===== -/
abbrev Pg : Type := (Nat → Fin 10) × (Nat → Fin 4) × Int × Int × (Nat → Int) × Nat
def pH (p : Pg) : Nat → Fin 10 := p.1
def pO (p : Pg) : Nat → Fin 4 := p.2.1
def pS (p : Pg) : Int := p.2.2.1
def pC (p : Pg) : Int := p.2.2.2.1
def pP (p : Pg) : Nat → Int := p.2.2.2.2.1
def pT (p : Pg) : Nat := p.2.2.2.2.2
def CP (h : Mem) (t n : Nat) (c : Nat → Fin 10) (p : Pg) : Prop := TV h t n c (pH p) (pO p) (pS p) ∧ h t 6 = (pT p : Int) ∧ h t 7 = pC p ∧ ∀ l : Nat, l < 4 → h (t + 4) (l : Int) = pP p l
def PgF (f : Int → Int) (n : Nat) (p : Pg) : Prop := (∀ r : Nat, r < n → f (r : Int) = ((pH p r).val : Int)) ∧ f 5 = pS p ∧ (∀ r : Nat, r < n → f (6 + (r : Int)) = ((pO p r).val : Int)) ∧ f 11 = pC p ∧ (∀ l : Nat, l < 4 → f (12 + (l : Int)) = pP p l) ∧ f 16 = (pT p : Int)
def VP (B : Nat) (p : Pg) : Prop := (pC p = 0 ∨ pC p = 1) ∧ RI (pS p) ∧ (∀ l, RI (pP p l)) ∧ pT p ≤ B
theorem VP.up {B B' : Nat} (hB : B ≤ B') {p : Pg} (v : VP B p) : VP B' p := ⟨v.1, v.2.1, v.2.2.1, Nat.le_trans v.2.2.2 hB⟩
/-- the night's rents of an owner in one hour -/
noncomputable def rent1 (n : Nat) (c : Nat → Fin 10) (k : Nat) (ri : Nat → Fin 10) (sp : Nat → Fin 4) (wo : Nat → Fin 10) (law : Nat) (p : Pg) (hr l : Nat) : Int := RT n c (pH p) (pO p) (AL n) (pS p) law k ri sp wo (pC p) hr 1 (l : Int)
/-- undoing an act leads from the page p to the page q -/
def UndoR (n : Nat) (c : Nat → Fin 10) (k : Nat) (ri : Nat → Fin 10) (sp : Nat → Fin 4) (wo : Nat → Fin 10) (law : Nat) (kd rf ws : Int) (p q : Pg) : Prop :=
  (kd = 0 ∧ ∃ (r : Nat) (x : Fin 10), r < n ∧ rf = (r : Int) ∧ ws = ((x.val : Nat) : Int) ∧ q = (fun i => if i = r then x else pH p i, pO p, pS p, pC p, pP p, pT p)) ∨
  (kd = 1 ∧ ∃ r : Nat, r < n ∧ rf = (r : Int) ∧ q = (pH p, pO p, bxor (pS p) (bshl 1 (r : Int)), pC p, pP p, pT p)) ∨
  (kd = 2 ∧ ∃ (r : Nat) (x : Fin 4), r < n ∧ rf = (r : Int) ∧ ws = ((x.val : Nat) : Int) ∧ q = (pH p, fun i => if i = r then x else pO p i, pS p, pC p, pP p, pT p)) ∨
  (kd = 3 ∧ q = (pH p, pO p, pS p, 1 - pC p, pP p, pT p)) ∨
  (kd = 4 ∧ 0 < pT p ∧ q = (pH p, pO p, pS p, pC p, fun l => if l < 4 then wr (pP p l + wr (-1 * rent1 n c k ri sp wo law p (pT p - 1) l)) else pP p l, pT p - 1))
def ST (h : Mem) (k : Nat) (ri : Nat → Fin 10) (sp : Nat → Fin 4) (wo : Nat → Fin 10) (law : Nat) : Prop := SV h k ri sp wo ∧ h 0 11 = (law : Int)
def AC (h : Mem) (n : Nat) (c : Nat → Fin 10) (k : Nat) (ri : Nat → Fin 10) (sp : Nat → Fin 4) (wo : Nat → Fin 10) (law a : Nat) (pg : Nat → Pg) : Prop := h 33 3 = (a : Int) ∧ ∀ j : Nat, j < a → UndoR n c k ri sp wo law (h 34 (j : Int)) (h 35 (j : Int)) (h 36 (j : Int)) (pg (j + 1)) (pg j)
def KP (h : Mem) (t n : Nat) (c : Nat → Fin 10) (f : Nat) (q : Pg) : Prop := (f = 0 ∧ h t 1 = 0) ∨ (f = 1 ∧ h t 1 = 1 ∧ CP h (t + 1) n c q)
def TX (h : Mem) (tx : Nat) (by' : Nat → Fin 256) : Prop := tx ≤ 48 ∧ h 1 1 = (tx : Int) ∧ ∀ i : Nat, i < tx → h 2 (i : Int) = ((by' i).val : Int)
/-- the class's half -/
def IC (h : Mem) (n : Nat) (c : Nat → Fin 10) (k : Nat) (ri : Nat → Fin 10) (sp : Nat → Fin 4) (wo : Nat → Fin 10) (law a : Nat) (pg : Nat → Pg) (f0 : Nat) (q0 : Pg) (f1 : Nat) (q1 : Pg) (w : Nat) (ce ho : Nat → Fin 10) (sh : Nat → Fin 2) (tx : Nat) (by' : Nat → Fin 256) (sd : Int) : Prop :=
  CP h 7 n c (pg a) ∧ ST h k ri sp wo law ∧ AC h n c k ri sp wo law a pg ∧ KP h 17 n c f0 q0 ∧ KP h 23 n c f1 q1 ∧ WV h w ce ho sh ∧ TX h tx by' ∧ h 0 12 = sd
def NM (h : Mem) (n : Nat) (c : Nat → Fin 10) (k : Nat) (ri : Nat → Fin 10) (sp : Nat → Fin 4) (wo : Nat → Fin 10) (law : Nat) : Prop := n ≤ 5 ∧ h 45 5 = (n : Int) ∧ (∀ r : Nat, r < n → h 47 (r : Int) = ((c r).val : Int)) ∧ MS h k ri sp wo ∧ h 45 4 = (law : Int)
def BK (h : Mem) (n a : Nat) (pg : Nat → Pg) : Prop := h 45 19 = (a : Int) ∧ ∀ j : Nat, j < a → PgF (fun i => h 55 (17 * (j : Int) + i)) n (pg j)
def KM (h : Mem) (n s f : Nat) (q : Pg) : Prop := (f = 0 ∧ h 57 (s : Int) = 0) ∨ (f = 1 ∧ h 57 (s : Int) = 1 ∧ PgF (fun i => h 56 (17 * (s : Int) + i)) n q)
def TM (h : Mem) (tx : Nat) (by' : Nat → Fin 256) : Prop := h 45 2 = (tx : Int) ∧ ∀ i : Nat, i < tx → h 46 (i : Int) = ((by' i).val : Int)
/-- the reference's half -/
def IM (h : Mem) (n : Nat) (c : Nat → Fin 10) (k : Nat) (ri : Nat → Fin 10) (sp : Nat → Fin 4) (wo : Nat → Fin 10) (law a : Nat) (pg : Nat → Pg) (f0 : Nat) (q0 : Pg) (f1 : Nat) (q1 : Pg) (w : Nat) (ce ho : Nat → Fin 10) (sh : Nat → Fin 2) (tx : Nat) (by' : Nat → Fin 256) (sd : Int) : Prop :=
  PgF (h 53) n (pg a) ∧ NM h n c k ri sp wo law ∧ BK h n a pg ∧ KM h n 0 f0 q0 ∧ KM h n 1 f1 q1 ∧ WM h w ce ho sh ∧ TM h tx by' ∧ h 45 26 = sd
/-- what holds of the numbers themselves -/
def IV (B law a : Nat) (pg : Nat → Pg) (q0 q1 : Pg) : Prop := B ≤ 600 ∧ law ≤ 2 ∧ a ≤ 14 ∧ (∀ j, j ≤ a → VP B (pg j)) ∧ VP B q0 ∧ VP B q1
section INV
variable {h h' g : Mem} {n : Nat} {c : Nat → Fin 10} {k : Nat} {ri : Nat → Fin 10} {sp : Nat → Fin 4} {wo : Nat → Fin 10} {law a : Nat} {pg : Nat → Pg} {f0 : Nat} {q0 : Pg} {f1 : Nat} {q1 : Pg} {w : Nat} {ce ho : Nat → Fin 10} {sh : Nat → Fin 2} {tx : Nat} {by' : Nat → Fin 256} {sd : Int} {p : Pg} {t s f : Nat}
theorem CP.same (v : CP h t n c p) (e : ∀ i, t ≤ i → i ≤ t + 4 → h' i = h i) : CP h' t n c p := by
  obtain ⟨v1, v2, v3, v4⟩ := v
  exact ⟨v1.same (e _ (by omega) (by omega)) (e _ (by omega) (by omega)) (e _ (by omega) (by omega)) (e _ (by omega) (by omega)), by rw [e t (by omega) (by omega)]; exact v2, by rw [e t (by omega) (by omega)]; exact v3, by rw [e (t + 4) (by omega) (by omega)]; exact v4⟩
theorem ST.same (v : ST h k ri sp wo law) (e : ∀ i, 3 ≤ i → i ≤ 6 → h' i = h i) (e0 : h' 0 11 = h 0 11) : ST h' k ri sp wo law := ⟨v.1.same (e _ (by decide) (by decide)) (e _ (by decide) (by decide)) (e _ (by decide) (by decide)) (e _ (by decide) (by decide)), by rw [e0]; exact v.2⟩
theorem AC.same (v : AC h n c k ri sp wo law a pg) (e : ∀ i, 33 ≤ i → i ≤ 36 → h' i = h i) : AC h' n c k ri sp wo law a pg := by
  unfold AC at *
  rw [e 33 (by decide) (by decide), e 34 (by decide) (by decide), e 35 (by decide) (by decide), e 36 (by decide) (by decide)]
  exact v
theorem KP.same (v : KP h t n c f p) (e : ∀ i, t ≤ i → i ≤ t + 5 → h' i = h i) : KP h' t n c f p := by
  rcases v with ⟨v1, v2⟩ | ⟨v1, v2, v3⟩
  · exact Or.inl ⟨v1, by rw [e t (by omega) (by omega)]; exact v2⟩
  · exact Or.inr ⟨v1, by rw [e t (by omega) (by omega)]; exact v2, v3.same (fun i h1 h2 => e i (by omega) (by omega))⟩
theorem WV.same (v : WV h w ce ho sh) (e : ∀ i, 37 ≤ i → i ≤ 40 → h' i = h i) : WV h' w ce ho sh := by
  unfold WV at *
  rw [e 37 (by decide) (by decide), e 38 (by decide) (by decide), e 39 (by decide) (by decide), e 40 (by decide) (by decide)]
  exact v
theorem TX.same (v : TX h tx by') (e : ∀ i, 1 ≤ i → i ≤ 2 → h' i = h i) : TX h' tx by' := by
  unfold TX at *
  rw [e 1 (by decide) (by decide), e 2 (by decide) (by decide)]
  exact v
theorem NM.same (v : NM h n c k ri sp wo law) (e : ∀ i, 47 ≤ i → i ≤ 50 → h' i = h i) (e4 : h' 45 4 = h 45 4) (e5 : h' 45 5 = h 45 5) (e6 : h' 45 6 = h 45 6) : NM h' n c k ri sp wo law := by
  unfold NM MS at *
  rw [e 47 (by decide) (by decide), e 48 (by decide) (by decide), e 49 (by decide) (by decide), e 50 (by decide) (by decide), e4, e5, e6]
  exact v
theorem BK.same (v : BK h n a pg) (e : h' 55 = h 55) (e19 : h' 45 19 = h 45 19) : BK h' n a pg := by
  unfold BK at *
  rw [e, e19]
  exact v
theorem KM.same (v : KM h n s f p) (e : h' 56 = h 56) (e2 : h' 57 = h 57) : KM h' n s f p := by
  unfold KM at *
  rw [e, e2]
  exact v
theorem TM.same (v : TM h tx by') (e : h' 46 = h 46) (e2 : h' 45 2 = h 45 2) : TM h' tx by' := by
  unfold TM at *
  rw [e, e2]
  exact v
theorem WM.same (v : WM h w ce ho sh) (e : ∀ i, 58 ≤ i → i ≤ 60 → h' i = h i) (e2 : h' 45 22 = h 45 22) : WM h' w ce ho sh := by
  unfold WM at *
  rw [e 58 (by decide) (by decide), e 59 (by decide) (by decide), e 60 (by decide) (by decide), e2]
  exact v
/-- the reference's rows untouched; the class's rows untouched -/
def Lo (h h' : Mem) : Prop := ∀ i, 45 ≤ i → h' i = h i
def Hi (h h' : Mem) : Prop := ∀ i, i < 45 → h' i = h i
theorem Lo.tr {h h1 h2 : Mem} (a : Lo h h1) (b : Lo h1 h2) : Lo h h2 := fun i q => (b i q).trans (a i q)
theorem Hi.tr {h h1 h2 : Mem} (a : Hi h h1) (b : Hi h1 h2) : Hi h h2 := fun i q => (b i q).trans (a i q)
theorem Sc.lo (s : Sc h h') : Lo h h' := fun i q => s i (by omega) (by omega) (by omega)
theorem Sm.hi (s : Sm h h') : Hi h h' := fun i q => s.1 i (by omega) (by omega) (by omega) (by omega) (by omega) (by omega)
theorem Lo.up (h : Mem) {i : Nat} (hi : i < 45) (f a : Int) : Lo h (up h i f a) := fun j q => by funext z; exact up_c _ _ _ _ (by omega)
theorem Hi.up (h : Mem) {i : Nat} (hi : 45 ≤ i) (f a : Int) : Hi h (up h i f a) := fun j q => by funext z; exact up_c _ _ _ _ (by omega)
theorem IM.lo (v : IM h n c k ri sp wo law a pg f0 q0 f1 q1 w ce ho sh tx by' sd) (s : Lo h h') : IM h' n c k ri sp wo law a pg f0 q0 f1 q1 w ce ho sh tx by' sd := by
  obtain ⟨v1, v2, v3, v4, v5, v6, v7, v8⟩ := v
  have e45 := s 45 (by decide)
  refine ⟨by rw [s 53 (by decide)]; exact v1, v2.same (fun i a b => s i (by omega)) (by rw [e45]) (by rw [e45]) (by rw [e45]), v3.same (s 55 (by decide)) (by rw [e45]), v4.same (s 56 (by decide)) (s 57 (by decide)), v5.same (s 56 (by decide)) (s 57 (by decide)), v6.same (fun i a b => s i (by omega)) (by rw [e45]), v7.same (s 46 (by decide)) (by rw [e45]), by rw [e45]; exact v8⟩
theorem IM.md (v : IM h n c k ri sp wo law a pg f0 q0 f1 q1 w ce ho sh tx by' sd) (s : Sm h h') : IM h' n c k ri sp wo law a pg f0 q0 f1 q1 w ce ho sh tx by' sd := by
  obtain ⟨v1, v2, v3, v4, v5, v6, v7, v8⟩ := v
  have e : ∀ i, i ≠ 45 → i ≠ 51 → i ≠ 52 → i ≠ 54 → i ≠ 61 → i ≠ 62 → h' i = h i := s.1
  have f := s.2
  refine ⟨by rw [e 53 (by decide) (by decide) (by decide) (by decide) (by decide) (by decide)]; exact v1, v2.same (fun i a b => e i (by omega) (by omega) (by omega) (by omega) (by omega) (by omega)) (f 4 (by decide)) (f 5 (by decide)) (f 6 (by decide)), v3.same (e 55 (by decide) (by decide) (by decide) (by decide) (by decide) (by decide)) (f 19 (by decide)), v4.same (e 56 (by decide) (by decide) (by decide) (by decide) (by decide) (by decide)) (e 57 (by decide) (by decide) (by decide) (by decide) (by decide) (by decide)), v5.same (e 56 (by decide) (by decide) (by decide) (by decide) (by decide) (by decide)) (e 57 (by decide) (by decide) (by decide) (by decide) (by decide) (by decide)), v6.same (fun i a b => e i (by omega) (by omega) (by omega) (by omega) (by omega) (by omega)) (f 22 (by decide)), v7.same (e 46 (by decide) (by decide) (by decide) (by decide) (by decide) (by decide)) (f 2 (by decide)), by rw [f 26 (by decide)]; exact v8⟩
theorem IC.hi (v : IC h n c k ri sp wo law a pg f0 q0 f1 q1 w ce ho sh tx by' sd) (s : Hi h h') : IC h' n c k ri sp wo law a pg f0 q0 f1 q1 w ce ho sh tx by' sd := by
  obtain ⟨v1, v2, v3, v4, v5, v6, v7, v8⟩ := v
  have e0 := s 0 (by decide)
  exact ⟨v1.same (fun i a b => s i (by omega)), v2.same (fun i a b => s i (by omega)) (by rw [e0]), v3.same (fun i a b => s i (by omega)), v4.same (fun i a b => s i (by omega)), v5.same (fun i a b => s i (by omega)), v6.same (fun i a b => s i (by omega)), v7.same (fun i a b => s i (by omega)), by rw [e0]; exact v8⟩
theorem IC.sc (v : IC h n c k ri sp wo law a pg f0 q0 f1 q1 w ce ho sh tx by' sd) (s : Sc h h') : IC h' n c k ri sp wo law a pg f0 q0 f1 q1 w ce ho sh tx by' sd := by
  obtain ⟨v1, v2, v3, v4, v5, v6, v7, v8⟩ := v
  have e0 := s 0 (by decide) (by decide) (by decide)
  exact ⟨v1.same (fun i a b => s i (by omega) (by omega) (by omega)), v2.same (fun i a b => s i (by omega) (by omega) (by omega)) (by rw [e0]), v3.same (fun i a b => s i (by omega) (by omega) (by omega)), v4.same (fun i a b => s i (by omega) (by omega) (by omega)), v5.same (fun i a b => s i (by omega) (by omega) (by omega)), v6.same (fun i a b => s i (by omega) (by omega) (by omega)), v7.same (fun i a b => s i (by omega) (by omega) (by omega)), by rw [e0]; exact v8⟩
theorem IC.cv {B : Nat} (v : IC h n c k ri sp wo law a pg f0 q0 f1 q1 w ce ho sh tx by' sd) (i : IV B law a pg q0 q1) : CV h n c (pH (pg a)) (pO (pg a)) (pS (pg a)) k ri sp wo law (pT (pg a)) (pC (pg a)) := by
  obtain ⟨⟨v1, v2, v3, v4⟩, ⟨s1, s2⟩, _⟩ := v
  obtain ⟨i1, i2, i3, i4, i5⟩ := i
  have := i4 a (Nat.le_refl a)
  exact ⟨v1, s1, s2, v2, v3, by have := this.2.2.2; omega, this.1⟩
theorem IM.mv {B : Nat} (v : IM h n c k ri sp wo law a pg f0 q0 f1 q1 w ce ho sh tx by' sd) (i : IV B law a pg q0 q1) : MV2 h n c (pH (pg a)) (pO (pg a)) (pS (pg a)) k ri sp wo law (pT (pg a)) (pC (pg a)) := by
  obtain ⟨⟨v1, v2, v3, v4, v5, v6⟩, ⟨s1, s2, s3, s4, s5⟩, _⟩ := v
  obtain ⟨i1, i2, i3, i4, i5⟩ := i
  have := i4 a (Nat.le_refl a)
  exact ⟨⟨s1, s2, v2, s3, v1, v3⟩, s4, s5, v6, v4, by have := this.2.2.2; omega, this.1⟩
/-- the whole state -/
def INV (B : Nat) (h : Mem) : Prop := ∃ (n : Nat) (c : Nat → Fin 10) (k : Nat) (ri : Nat → Fin 10) (sp : Nat → Fin 4) (wo : Nat → Fin 10) (law a : Nat) (pg : Nat → Pg) (f0 : Nat) (q0 : Pg) (f1 : Nat) (q1 : Pg) (w : Nat) (ce ho : Nat → Fin 10) (sh : Nat → Fin 2) (tx : Nat) (by' : Nat → Fin 256) (sd : Int), IC h n c k ri sp wo law a pg f0 q0 f1 q1 w ce ho sh tx by' sd ∧ IM h n c k ri sp wo law a pg f0 q0 f1 q1 w ce ho sh tx by' sd ∧ IV B law a pg q0 q1
theorem IV.up {B B' : Nat} (hB : B ≤ B') (hB' : B' ≤ 600) (i : IV B law a pg q0 q1) : IV B' law a pg q0 q1 := ⟨hB', i.2.1, i.2.2.1, fun j hj => (i.2.2.2.1 j hj).up hB, i.2.2.2.2.1.up hB, i.2.2.2.2.2.up hB⟩
theorem INV.up {B B' : Nat} (hB : B ≤ B') (hB' : B' ≤ 600) (i : INV B h) : INV B' h := by
  obtain ⟨n, c, k, ri, sp, wo, law, a, pg, f0, q0, f1, q1, w, ce, ho, sh, tx, by', sd, i1, i2, i3⟩ := i
  exact ⟨n, c, k, ri, sp, wo, law, a, pg, f0, q0, f1, q1, w, ce, ho, sh, tx, by', sd, i1, i2, i3.up hB hB'⟩
/-- a method of each side, one after the other, answer the same and keep the state -/
def Pair (B B' : Nat) (X Y : Mem → Option (Int × Mem)) : Prop := ∀ h, INV B h → ∃ (v : Int) (h1 h2 : Mem), X h = some (v, h1) ∧ Y h1 = some (v, h2) ∧ INV B' h2
/-- what-ifs -/
theorem pair_if {B : Nat} {X Y : Mem → Option (Int × Mem)} (H : ∀ (n : Nat) (c : Nat → Fin 10) (Hh : Nat → Fin 10) (ow : Nat → Fin 4) (sm : Int) (k : Nat) (ri : Nat → Fin 10) (sp : Nat → Fin 4) (wo : Nat → Fin 10) (law hr : Nat) (cl : Int), ∃ v : Int, (∀ h, CV h n c Hh ow sm k ri sp wo law hr cl → ∃ h', X h = some (v, h') ∧ Sc h h') ∧ ∀ h, MV2 h n c Hh ow sm k ri sp wo law hr cl → ∃ h', Y h = some (v, h') ∧ Sm h h') : Pair B B X Y := by
  intro h i
  obtain ⟨n, c, k, ri, sp, wo, law, a, pg, f0, q0, f1, q1, w, ce, ho, sh, tx, by', sd, i1, i2, i3⟩ := i
  obtain ⟨v, hX, hY⟩ := H n c (pH (pg a)) (pO (pg a)) (pS (pg a)) k ri sp wo law (pT (pg a)) (pC (pg a))
  obtain ⟨h1, e1, s1⟩ := hX h (i1.cv i3)
  have j1 := i1.sc s1
  have j2 := i2.lo s1.lo
  obtain ⟨h2, e2, s2⟩ := hY h1 (j2.mv i3)
  exact ⟨v, h1, h2, e1, e2, n, c, k, ri, sp, wo, law, a, pg, f0, q0, f1, q1, w, ce, ho, sh, tx, by', sd, j1.hi s2.hi, j2.md s2, i3⟩
theorem pr_rents (B : Nat) (x y : Int) : Pair B B (fun h => p_X8_rents h x y) (fun h => p_X9_rents h x y) := pair_if (fun n c H ow sm k ri sp wo law hr cl => ⟨_, fun h v => x_rents v x y, fun h v => y_rents v x y⟩)
theorem pr_roof (B : Nat) (x y : Int) : Pair B B (fun h => p_X8_roof h x y) (fun h => p_X9_roof h x y) := pair_if (fun n c H ow sm k ri sp wo law hr cl => ⟨_, fun h v => x_roof v x y, fun h v => y_roof v x y⟩)
theorem pr_star (B : Nat) (x y : Int) : Pair B B (fun h => p_X8_star h x y) (fun h => p_X9_star h x y) := pair_if (fun n c H ow sm k ri sp wo law hr cl => ⟨_, fun h v => x_star v x y, fun h v => y_star v x y⟩)
theorem pr_hold (B : Nat) (x y : Int) : Pair B B (fun h => p_X8_hold h x y) (fun h => p_X9_hold h x y) := pair_if (fun n c H ow sm k ri sp wo law hr cl => ⟨_, fun h v => x_hold v x y, fun h v => y_hold v x y⟩)
theorem pr_fires (B : Nat) (x y : Int) : Pair B B (fun h => p_X8_fires h x y) (fun h => p_X9_fires h x y) := pair_if (fun n c H ow sm k ri sp wo law hr cl => ⟨_, fun h v => x_fires v x y, fun h v => y_fires v x y⟩)
theorem pr_share (B : Nat) (x y z : Int) : Pair B B (fun h => p_X8_share h x y z) (fun h => p_X9_share h x y z) := pair_if (fun n c H ow sm k ri sp wo law hr cl => ⟨_, fun h v => x_share v x y z, fun h v => y_share v x y z⟩)
theorem pr_bestLaw (B : Nat) (x y : Int) : Pair B B (fun h => p_X8_bestLaw h x y) (fun h => p_X9_bestLaw h x y) := pair_if (fun n c H ow sm k ri sp wo law hr cl => ⟨_, fun h v => x_bestLaw v x y, fun h v => y_bestLaw v x y⟩)
theorem pr_starless (B : Nat) (x : Int) : Pair B B (fun h => p_X8_starless h x) (fun h => p_X9_starless h x) := pair_if (fun n c H ow sm k ri sp wo law hr cl => ⟨_, fun h v => x_starless v x, fun h v => y_starless v x⟩)
theorem pr_rests (B : Nat) (x y z t : Int) : Pair B B (fun h => p_X8_rests h x y z t) (fun h => p_X9_rests h x y z t) := pair_if (fun n c H ow sm k ri sp wo law hr cl => ⟨_, fun h v => x_rests v x y z t, fun h v => y_rests v x y z t⟩)
theorem pr_chance (B : Nat) (x y z t : Int) : Pair B B (fun h => p_X8_chance h x y z t) (fun h => p_X9_chance h x y z t) := pair_if (fun n c H ow sm k ri sp wo law hr cl => ⟨_, fun h v => x_chance v x y z t, fun h v => y_chance v x y z t⟩)
/-- asked without change of the class -/
def PairR (B B' : Nat) (X : Mem → Option Int) (Y : Mem → Option (Int × Mem)) : Prop := ∀ h, INV B h → ∃ (v : Int) (h2 : Mem), X h = some v ∧ Y h = some (v, h2) ∧ INV B' h2
theorem pr_found (B : Nat) (x : Int) : PairR B B (fun h => p_X8_found h x) (fun h => p_X9_found h x) := by
  intro h i
  obtain ⟨n, c, k, ri, sp, wo, law, a, pg, f0, q0, f1, q1, w, ce, ho, sh, tx, by', sd, i1, i2, i3⟩ := i
  obtain ⟨h2, e2, s2⟩ := y_found i2.2.2.2.2.2.1 x
  exact ⟨_, h2, x_found i1.2.2.2.2.2.1 x, e2, n, c, k, ri, sp, wo, law, a, pg, f0, q0, f1, q1, w, ce, ho, sh, tx, by', sd, i1.hi s2.hi, i2.md s2, i3⟩
theorem pr_look (B : Nat) : PairR B B (fun h => p_X8_look h) (fun h => p_X9_look h) := by
  intro h i
  obtain ⟨n, c, k, ri, sp, wo, law, a, pg, f0, q0, f1, q1, w, ce, ho, sh, tx, by', sd, i1, i2, i3⟩ := i
  obtain ⟨h2, e2, s2⟩ := y_look i2.2.2.2.2.2.1
  exact ⟨_, h2, x_look i1.2.2.2.2.2.1, e2, n, c, k, ri, sp, wo, law, a, pg, f0, q0, f1, q1, w, ce, ho, sh, tx, by', sd, i1.hi s2.hi, i2.md s2, i3⟩
theorem pr_purse (B : Nat) (x : Int) : PairR B B (fun h => p_X8_purse h x) (fun h => p_X9_purse h x) := by
  intro h i
  obtain ⟨n, c, k, ri, sp, wo, law, a, pg, f0, q0, f1, q1, w, ce, ho, sh, tx, by', sd, i1, i2, i3⟩ := i
  obtain ⟨h2, e2, s2⟩ := y_purse h x
  refine ⟨_, h2, x_purse h x, ?_, n, c, k, ri, sp, wo, law, a, pg, f0, q0, f1, q1, w, ce, ho, sh, tx, by', sd, i1.hi s2.hi, i2.md s2, i3⟩
  refine e2.trans ?_
  congr 2
  by_cases q : 0 ≤ x ∧ x < 4
  · rw [if_pos q, if_pos q]
    obtain ⟨l, rfl⟩ := toN q.1
    rw [i1.1.2.2.2 l (by omega), i2.1.2.2.2.2.1 l (by omega)]
  · rw [if_neg q, if_neg q]
theorem pr_about (B : Nat) (x : Int) : PairR B B (fun h => p_X8_about h x) (fun h => p_X9_about h x) := by
  intro h i
  obtain ⟨n, c, k, ri, sp, wo, law, a, pg, f0, q0, f1, q1, w, ce, ho, sh, tx, by', sd, i1, i2, i3⟩ := i
  obtain ⟨h2, e2, s2⟩ := y_about (i2.mv i3) x
  refine ⟨_, h2, x_about (i1.cv i3) x, ?_, n, c, k, ri, sp, wo, law, a, pg, f0, q0, f1, q1, w, ce, ho, sh, tx, by', sd, i1.hi s2.hi, i2.md s2, i3⟩
  refine e2.trans ?_
  rw [i1.2.2.1.1, i2.2.2.1.1, i1.2.2.2.2.2.1.2.1, i2.2.2.2.2.2.1.2.1, i1.2.2.2.2.2.2.1.2.1, i2.2.2.2.2.2.2.1.1]
end INV
