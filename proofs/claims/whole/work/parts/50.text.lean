/-! ===== the text, read once ===== -/
def chr (tx : Nat) (by' : Nat → Fin 256) (i : Nat) : Int := if i < tx then (((by' i).val : Nat) : Int) else -1
abbrev Dg (tx : Nat) (by' : Nat → Fin 256) (i : Nat) (lo hi : Int) : Prop := lo ≤ chr tx by' i - 48 ∧ chr tx by' i - 48 ≤ hi
def dv (tx : Nat) (by' : Nat → Fin 256) (i : Nat) : Nat := (chr tx by' i - 48).toNat
/-- what is read: roofs (cell, height, smoke, owner), stars (rise, speed, worth) -/
abbrev TS : Type := Nat × (Nat → Fin 10) × (Nat → Fin 10) × (Nat → Fin 2) × (Nat → Fin 4) × Nat × (Nat → Fin 10) × (Nat → Fin 4) × (Nat → Fin 10)
def tn (S : TS) : Nat := S.1
def tc (S : TS) : Nat → Fin 10 := S.2.1
def tH (S : TS) : Nat → Fin 10 := S.2.2.1
def tS (S : TS) : Nat → Fin 2 := S.2.2.2.1
def tO (S : TS) : Nat → Fin 4 := S.2.2.2.2.1
def tk (S : TS) : Nat := S.2.2.2.2.2.1
def tri (S : TS) : Nat → Fin 10 := S.2.2.2.2.2.2.1
def tsp (S : TS) : Nat → Fin 4 := S.2.2.2.2.2.2.2.1
def two (S : TS) : Nat → Fin 10 := S.2.2.2.2.2.2.2.2
def f2 (z : Nat) : Fin 2 := ⟨z % 2, Nat.mod_lt _ (by decide)⟩
theorem f2_v {z : Nat} (h : z < 2) : (f2 z).val = z := Nat.mod_eq_of_lt h
def addR (tx : Nat) (by' : Nat → Fin 256) (S : TS) (p : Nat) : TS := (tn S + 1, setA (tc S) (tn S) (fd (dv tx by' (p + 1))), setA (tH S) (tn S) (fd (dv tx by' (p + 2))), setA (tS S) (tn S) (f2 (dv tx by' (p + 3))), setA (tO S) (tn S) (fo (dv tx by' (p + 4))), tk S, tri S, tsp S, two S)
def addS (tx : Nat) (by' : Nat → Fin 256) (S : TS) (p : Nat) : TS := (tn S, tc S, tH S, tS S, tO S, tk S + 1, setA (tri S) (tk S) (fd (dv tx by' (p + 1))), setA (tsp S) (tk S) (fo (dv tx by' (p + 2))), setA (two S) (tk S) (fd (dv tx by' (p + 3))))
def Tkn (S : TS) (x : Nat) : Prop := ∃ r, r < tn S ∧ (tc S r).val = x
/-- a roof's place is right -/
def OkR (tx : Nat) (by' : Nat → Fin 256) (S : TS) (p : Nat) : Prop := Dg tx by' (p + 1) 0 9 ∧ ¬ Tkn S (dv tx by' (p + 1))
noncomputable def rflt (tx : Nat) (by' : Nat → Fin 256) (S : TS) (p : Nat) : Int := @ite Int (OkR tx by' S p) (Classical.propDecidable _) (if Dg tx by' (p + 2) 0 9 then if Dg tx by' (p + 3) 0 1 then if Dg tx by' (p + 4) 0 3 then -9 else ((p + 4 : Nat) : Int) else ((p + 3 : Nat) : Int) else ((p + 2 : Nat) : Int)) ((p + 1 : Nat) : Int)
def sflt (tx : Nat) (by' : Nat → Fin 256) (p : Nat) : Int := if Dg tx by' (p + 1) 0 9 then if Dg tx by' (p + 2) 0 3 then if Dg tx by' (p + 3) 1 9 then -9 else ((p + 3 : Nat) : Int) else ((p + 2 : Nat) : Int) else ((p + 1 : Nat) : Int)
noncomputable def run (tx : Nat) (by' : Nat → Fin 256) : Nat → TS → Nat → Int × TS
  | 0, S, _ => (-9, S)
  | f + 1, S, p => if tx ≤ p then (-9, S) else if chr tx by' p = 82 ∧ tn S < 5 then if rflt tx by' S p = -9 then run tx by' f (addR tx by' S p) (p + 5) else (rflt tx by' S p, S) else if chr tx by' p = 83 ∧ tk S < 4 then if sflt tx by' p = -9 then run tx by' f (addS tx by' S p) (p + 4) else (sflt tx by' p, S) else ((p : Int), S)
theorem chr_b (tx : Nat) (by' : Nat → Fin 256) (i : Nat) : -1 ≤ chr tx by' i ∧ chr tx by' i ≤ 255 := by
  unfold chr
  split <;> omega
theorem dv_of {tx : Nat} {by' : Nat → Fin 256} {i : Nat} {hi : Int} (h : Dg tx by' i 0 hi) : ((dv tx by' i : Nat) : Int) = chr tx by' i - 48 := by unfold dv; omega
section TEXT
variable {h h' g : Mem} {tx : Nat} {by' : Nat → Fin 256}
theorem t_byte (v : TX h tx by') (i : Nat) : p_X5_byteAt h (i : Int) = some (chr tx by' i) := by
  obtain ⟨v1, v2, v3⟩ := v
  unfold p_X5_byteAt chr
  rw [if_neg (by omega), v2]
  by_cases q : i < tx
  · rw [if_neg (by omega), if_neg (by omega), gd_w (by omega), if_pos q, v3 i q]
  · rw [if_pos (by omega), if_neg q]
theorem t_digit (v : TX h tx by') (i : Nat) : p_X5_digitAt h (i : Int) = some (chr tx by' i - 48) := by
  have := chr_b tx by' i
  unfold p_X5_digitAt
  rw [t_byte v, bd_n, wr_s (by omega) (by omega)]
theorem t_hasDg (v : TX h tx by') (i : Nat) (lo hi : Int) : p_X5_hasDigit h (i : Int) lo hi = some (if Dg tx by' i lo hi then 1 else 0) := by
  unfold p_X5_hasDigit
  rw [t_digit v, bd_n, bd_n]
  by_cases q : chr tx by' i - 48 < lo
  · rw [if_pos q, if_neg (by omega)]
  · rw [if_neg q]
    by_cases q2 : hi < chr tx by' i - 48
    · rw [if_pos q2, if_neg (by omega)]
    · rw [if_neg q2, if_pos (by omega)]
theorem wr_k {p : Nat} (hp : p < 1000) (k : Nat) (hk : k < 1000) : wr ((p : Int) + (k : Int)) = ((p + k : Nat) : Int) := by
  rw [wr_s (by omega) (by omega)]; omega
theorem t_roofFault (v : TX h tx by') {S : TS} {p : Nat} (hp : p < 100) {cells : Int} (hc : ∀ x, x < 10 → (bb cells x = true ↔ Tkn S x)) : p_X5_faultInRoof h (p : Int) cells = some (rflt tx by' S p) := by
  unfold p_X5_faultInRoof p_X5_faultInRoof_27 rflt
  rw [show (1 : Int) = ((1 : Nat) : Int) from rfl, show (2 : Int) = ((2 : Nat) : Int) from rfl, show (3 : Int) = ((3 : Nat) : Int) from rfl, show (4 : Int) = ((4 : Nat) : Int) from rfl, wr_k (by omega) 1 (by decide), wr_k (by omega) 2 (by decide), wr_k (by omega) 3 (by decide), wr_k (by omega) 4 (by decide), ← show (1 : Int) = ((1 : Nat) : Int) from rfl, ← show (3 : Int) = ((3 : Nat) : Int) from rfl, t_hasDg v, bd_n, t_digit v, bd_n]
  by_cases q1 : Dg tx by' (p + 1) 0 9
  · have ed := dv_of q1
    have dl : dv tx by' (p + 1) < 10 := by omega
    rw [if01_t q1, ← ed]
    by_cases tkn : Tkn S (dv tx by' (p + 1))
    · rw [if_neg (by rw [hb_0 _ (by omega), (hc _ dl).mpr tkn]; decide), if_neg (fun z => z.2 tkn)]
    · have no : bb cells (dv tx by' (p + 1)) = false := by
        cases y : bb cells (dv tx by' (p + 1))
        · rfl
        · exact absurd ((hc _ dl).mp y) tkn
      rw [if_pos ((hb_0 _ (by omega)).mpr no), if_pos (show OkR tx by' S p from ⟨q1, tkn⟩), t_hasDg v, bd_n]
      by_cases q2 : Dg tx by' (p + 2) 0 9
      · rw [if01_t q2, if_pos q2, t_hasDg v, bd_n]
        by_cases q3 : Dg tx by' (p + 3) 0 1
        · rw [if01_t q3, if_pos q3, t_hasDg v, bd_n]
          by_cases q4 : Dg tx by' (p + 4) 0 3
          · rw [if01_t q4, if_pos q4]
          · rw [if01_f q4, if_neg q4]
        · rw [if01_f q3, if_neg q3]
      · rw [if01_f q2, if_neg q2]
  · rw [if01_f q1, if_neg (fun z : OkR tx by' S p => q1 z.1)]
theorem t_starFault (v : TX h tx by') {p : Nat} (hp : p < 100) : p_X5_faultInStar h (p : Int) = some (sflt tx by' p) := by
  unfold p_X5_faultInStar sflt
  rw [show wr ((p : Int) + 1) = ((p + 1 : Nat) : Int) from wr_k (by omega) 1 (by decide), show wr ((p : Int) + 2) = ((p + 2 : Nat) : Int) from wr_k (by omega) 2 (by decide), show wr ((p : Int) + 3) = ((p + 3 : Nat) : Int) from wr_k (by omega) 3 (by decide), t_hasDg v, bd_n]
  by_cases q1 : Dg tx by' (p + 1) 0 9
  · rw [if01_t q1, if_pos q1, t_hasDg v, bd_n]
    by_cases q2 : Dg tx by' (p + 2) 0 3
    · rw [if01_t q2, if_pos q2, t_hasDg v, bd_n]
      by_cases q3 : Dg tx by' (p + 3) 1 9
      · rw [if01_t q3, if_pos q3]
      · rw [if01_f q3, if_neg q3]
    · rw [if01_f q2, if_neg q2]
  · rw [if01_f q1, if_neg q1]
theorem Tkn_add {S : TS} {p : Nat} (x : Nat) : Tkn (addR tx by' S p) x ↔ Tkn S x ∨ x = (fd (dv tx by' (p + 1))).val := by
  constructor
  · rintro ⟨r, r1, r2⟩
    have r1 : r < tn S + 1 := r1
    have r2 : (setA (tc S) (tn S) (fd (dv tx by' (p + 1))) r).val = x := r2
    by_cases e : r = tn S
    · subst e; rw [setA_e] at r2; exact Or.inr r2.symm
    · rw [setA_n _ _ e] at r2; exact Or.inl ⟨r, by omega, r2⟩
  · rintro (⟨r, r1, r2⟩ | e)
    · refine ⟨r, ?_, ?_⟩
      · show r < tn S + 1; omega
      · show (setA (tc S) (tn S) (fd (dv tx by' (p + 1))) r).val = x
        rw [setA_n _ _ (by omega)]; exact r2
    · refine ⟨tn S, ?_, ?_⟩
      · show tn S < tn S + 1; omega
      · show (setA (tc S) (tn S) (fd (dv tx by' (p + 1))) (tn S)).val = x
        rw [setA_e]; exact e.symm
theorem x_ff (v : TX h tx by') : ∀ (f : Nat) (S : TS) (p : Nat) (cells : Int), (∀ x, x < 10 → (bb cells x = true ↔ Tkn S x)) → tn S ≤ 5 → tk S ≤ 4 → p ≤ tx + 4 → tx + 6 < f + p → p_X5_firstFault_L37 h f (tn S : Int) (tk S : Int) cells (p : Int) (-9) = some (run tx by' f S p).1 := by
  have htx := v.1
  have stop : ∀ (f : Nat) (a b c e : Int) (p : Int), e ≠ -9 → p_X5_firstFault_L37 h (f + 1) a b c p e = some e := by
    intro f a b c e p he
    simp only [p_X5_firstFault_L37]
    unfold p_X5_firstFault_37
    split
    · rfl
    · first | rfl | rw [if_neg he]
  intro f
  induction f with
  | zero => intro S p cells _ _ _ h1 h2; omega
  | succ f ih =>
    intro S p cells hc n5 k4 h1 h2
    simp only [p_X5_firstFault_L37, run]
    unfold p_X5_firstFault_37
    rw [v.2.1]
    by_cases q : tx ≤ p
    · rw [if_pos (by omega), if_pos q]
    · rw [if_neg (by omega), if_neg q, if_pos rfl, t_byte v, bd_n]
      obtain ⟨f', rfl⟩ : ∃ f', f = f' + 1 := ⟨f - 1, by omega⟩
      have star : ¬ (chr tx by' p = 82 ∧ tn S < 5) → p_X5_firstFault_100 (fun l1 l2 l3 l4 l5 => p_X5_firstFault_L37 h (f' + 1) l1 l2 l3 l4 l5) h (tn S : Int) (tk S : Int) cells (p : Int) = some (if chr tx by' p = 83 ∧ tk S < 4 then if sflt tx by' p = -9 then run tx by' (f' + 1) (addS tx by' S p) (p + 4) else (sflt tx by' p, S) else ((p : Int), S)).1 := by
        intro _
        unfold p_X5_firstFault_100
        rw [t_byte v, bd_n]
        by_cases c83 : chr tx by' p = 83
        · rw [if_pos c83]
          by_cases k : tk S < 4
          · rw [if_neg (by omega), if_pos ⟨c83, k⟩, t_starFault v (by omega), bd_n, wr_1 (by omega), show wr ((p : Int) + 4) = ((p + 4 : Nat) : Int) from wr_k (by omega) 4 (by decide)]
            by_cases z : sflt tx by' p = -9
            · rw [if_pos z, z]
              exact ih (addS tx by' S p) (p + 4) cells hc n5 (show tk S + 1 ≤ 4 by omega) (by omega) (by omega)
            · rw [if_neg z]
              exact stop _ _ _ _ _ _ z
          · rw [if_pos (by omega), if_neg (fun y => k y.2)]
        · rw [if_neg c83, if_neg (fun y => c83 y.1)]
      by_cases c82 : chr tx by' p = 82
      · rw [if_pos c82]
        by_cases n : tn S < 5
        · rw [if_neg (by omega), if_pos ⟨c82, n⟩, t_roofFault v (by omega) hc, bd_n, show wr ((p : Int) + 1) = ((p + 1 : Nat) : Int) from wr_k (by omega) 1 (by decide), t_digit v, bd_n, wr_1 (by omega), show wr ((p : Int) + 5) = ((p + 5 : Nat) : Int) from wr_k (by omega) 5 (by decide)]
          by_cases z : rflt tx by' S p = -9
          · rw [if_pos z, z]
            have ok : OkR tx by' S p := by
              apply Classical.byContradiction
              intro y
              have : rflt tx by' S p = ((p + 1 : Nat) : Int) := if_neg y
              omega
            have ed := dv_of ok.1
            have dl : dv tx by' (p + 1) < 10 := by have := ok.1; omega
            rw [← ed]
            refine ih (addR tx by' S p) (p + 5) _ (fun x hx => ?_) (show tn S + 1 ≤ 5 by omega) k4 (by omega) (by omega)
            rw [Tkn_add, fd_v dl, bb_or, Bool.or_eq_true, hc x hx, bb_1 (by omega) (by omega), decide_eq_true_eq]
          · rw [if_neg z]
            exact stop _ _ _ _ _ _ z
        · rw [if_pos (by omega), if_neg (fun y => n y.2)]
          exact star (fun y => n y.2)
      · rw [if_neg c82, if_neg (fun y => c82 y.1)]
        exact star (fun y => c82 y.1)
def TS0 : TS := (0, fun _ => 0, fun _ => 0, fun _ => 0, fun _ => 0, 0, fun _ => 0, fun _ => 0, fun _ => 0)
/-- the whole text -/
noncomputable def flt (tx : Nat) (by' : Nat → Fin 256) : Int := if chr tx by' 0 = 78 then if Dg tx by' 1 0 2 then (run tx by' 300 TS0 2).1 else 1 else 0
theorem x_firstFault (v : TX h tx by') : p_X5_firstFault h = some (flt tx by') := by
  have htx := v.1
  unfold p_X5_firstFault flt
  have b0 := t_byte v 0
  have d1 := t_hasDg v 1 0 2
  rw [show (((0 : Nat) : Int)) = 0 from rfl] at b0
  rw [show (((1 : Nat) : Int)) = 1 from rfl] at d1
  rw [b0, bd_n]
  by_cases q : chr tx by' 0 = 78
  · rw [if_pos q, if_pos q, d1, bd_n]
    by_cases q1 : Dg tx by' 1 0 2
    · rw [if01_t q1, if_pos q1]
      have t2 : 2 ≤ tx := by
        have := q1.1
        unfold chr at this
        split at this <;> omega
      exact x_ff v 300 TS0 2 0 (fun x hx => ⟨fun y => (by rw [bb_0] at y; cases y), fun ⟨r, r1, _⟩ => absurd r1 (Nat.not_lt_zero r)⟩) (by decide) (by decide) (by omega) (by omega)
    · rw [if01_f q1, if_neg q1]
  · rw [if_neg q, if_neg q]
end TEXT
