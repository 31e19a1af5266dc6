/-! ===== night: the class tells the parts ===== -/
def sbt (s : Nat → Fin 2) : Nat → Int
  | 0 => 0
  | r + 1 => bor (sbt s r) (bshl ((s r).val : Int) (r : Int))
theorem sbt_c {s s' : Nat → Fin 2} : ∀ n : Nat, (∀ r, r < n → s r = s' r) → sbt s n = sbt s' n
  | 0, _ => rfl
  | n + 1, h => by
    show bor (sbt s n) _ = bor (sbt s' n) _
    rw [sbt_c n (fun r hr => h r (by omega)), h n (by omega)]
theorem RI_sbt (s : Nat → Fin 2) : ∀ n, RI (sbt s n)
  | 0 => RI_0
  | n + 1 => RI_toInt _
def CT (d : Mem) (S : TS) : Prop := TV d 7 (tn S) (tc S) (tH S) (tO S) (sbt (tS S) (tn S)) ∧ SV d (tk S) (tri S) (tsp S) (two S)
section NIGHT
variable {h h' g m d : Mem} {tx : Nat} {by' : Nat → Fin 256} {S : TS} {p i : Nat}
theorem run_9r {f : Nat} (hp : ¬ tx ≤ p) (c : chr tx by' p = 82) (h9 : (run tx by' (f + 1) S p).1 = -9) : tn S < 5 ∧ rflt tx by' S p = -9 ∧ run tx by' (f + 1) S p = run tx by' f (addR tx by' S p) (p + 5) := by
  simp only [run] at h9 ⊢
  rw [if_neg hp] at h9 ⊢
  by_cases n : tn S < 5
  · rw [if_pos ⟨c, n⟩] at h9 ⊢
    by_cases z : rflt tx by' S p = -9
    · rw [if_pos z] at h9 ⊢
      exact ⟨n, z, rfl⟩
    · rw [if_neg z] at h9
      exact absurd h9 z
  · rw [if_neg (fun y => n y.2), if_neg (fun y => by omega)] at h9
    have h9 : (p : Int) = -9 := h9
    omega
theorem run_9s {f : Nat} (hp : ¬ tx ≤ p) (c : ¬ chr tx by' p = 82) (h9 : (run tx by' (f + 1) S p).1 = -9) : tk S < 4 ∧ sflt tx by' p = -9 ∧ run tx by' (f + 1) S p = run tx by' f (addS tx by' S p) (p + 4) := by
  simp only [run] at h9 ⊢
  rw [if_neg hp, if_neg (fun y => c y.1)] at h9 ⊢
  by_cases n : chr tx by' p = 83 ∧ tk S < 4
  · rw [if_pos n] at h9 ⊢
    by_cases z : sflt tx by' p = -9
    · rw [if_pos z] at h9 ⊢
      exact ⟨n.2, z, rfl⟩
    · rw [if_neg z] at h9
      exact absurd h9 z
  · rw [if_neg n] at h9
    have h9 : (p : Int) = -9 := h9
    omega
theorem rflt_9 (z : rflt tx by' S p = -9) : Dg tx by' (p + 1) 0 9 ∧ Dg tx by' (p + 2) 0 9 ∧ Dg tx by' (p + 3) 0 1 ∧ Dg tx by' (p + 4) 0 3 := by
  by_cases ok : OkR tx by' S p
  · have ro : rflt tx by' S p = (if Dg tx by' (p + 2) 0 9 then if Dg tx by' (p + 3) 0 1 then if Dg tx by' (p + 4) 0 3 then -9 else ((p + 4 : Nat) : Int) else ((p + 3 : Nat) : Int) else ((p + 2 : Nat) : Int)) := if_pos ok
    rw [ro] at z
    by_cases q1 : Dg tx by' (p + 2) 0 9
    · rw [if_pos q1] at z
      by_cases q2 : Dg tx by' (p + 3) 0 1
      · rw [if_pos q2] at z
        by_cases q3 : Dg tx by' (p + 4) 0 3
        · exact ⟨ok.1, q1, q2, q3⟩
        · rw [if_neg q3] at z; omega
      · rw [if_neg q2] at z; omega
    · rw [if_neg q1] at z; omega
  · have ro : rflt tx by' S p = ((p + 1 : Nat) : Int) := if_neg ok
    omega
theorem sflt_9 (z : sflt tx by' p = -9) : Dg tx by' (p + 1) 0 9 ∧ Dg tx by' (p + 2) 0 3 ∧ Dg tx by' (p + 3) 1 9 := by
  unfold sflt at z
  by_cases q1 : Dg tx by' (p + 1) 0 9
  · rw [if_pos q1] at z
    by_cases q2 : Dg tx by' (p + 2) 0 3
    · rw [if_pos q2] at z
      by_cases q3 : Dg tx by' (p + 3) 1 9
      · exact ⟨q1, q2, q3⟩
      · rw [if_neg q3] at z; omega
    · rw [if_neg q2] at z; omega
  · rw [if_neg q1] at z; omega
/-- a roof more -/
theorem x_addRoof (v : CT d S) (n5 : tn S < 5) (z : rflt tx by' S p = -9) : ∃ e, p_X6_addRoof d 7 ((dv tx by' (p + 1) : Nat) : Int) ((dv tx by' (p + 2) : Nat) : Int) ((dv tx by' (p + 3) : Nat) : Int) ((dv tx by' (p + 4) : Nat) : Int) = some e ∧ CT e (addR tx by' S p) ∧ (∀ i, i < 7 ∨ 10 < i → e i = d i) ∧ ∀ z : Int, z ≠ 4 → z ≠ 5 → e 7 z = d 7 z := by
  obtain ⟨⟨hn, h4, h5, hc, hH, hO⟩, sv⟩ := v
  obtain ⟨q1, q2, q3, q4⟩ := rflt_9 z
  have d1 : dv tx by' (p + 1) < 10 := by have := dv_of q1; omega
  have d2 : dv tx by' (p + 2) < 10 := by have := dv_of q2; omega
  have d3 : dv tx by' (p + 3) < 2 := by have := dv_of q3; omega
  have d4 : dv tx by' (p + 4) < 4 := by have := dv_of q4; omega
  unfold p_X6_addRoof p_X6_addRoof_39
  simp only [up_c _ _ _ _ (show (7 : Nat) ≠ 7 + 1 by decide), up_c _ _ _ _ (show (7 : Nat) ≠ 7 + 2 by decide), up_c _ _ _ _ (show (7 : Nat) ≠ 7 + 3 by decide), up_k _ _ _ _ (show (4 : Int) ≠ 5 by decide), h4, h5]
  rw [if_neg (by omega), gd_w (by omega), gd_w (by omega), gd_w (by omega), wr_1 (by omega)]
  refine ⟨_, rfl, ⟨⟨?_, ?_, ?_, fun r hr => ?_, fun r hr => ?_, fun r hr => ?_⟩, ?_⟩, fun i hi => ?_, fun z z4 z5 => ?_⟩
  · show tn S + 1 ≤ 5; omega
  · rw [up_eq]; show _ = ((tn S + 1 : Nat) : Int); omega
  · rw [up_k _ _ _ _ (by decide), up_eq]
    show _ = bor (sbt (setA (tS S) (tn S) (f2 (dv tx by' (p + 3)))) (tn S)) (bshl ((setA (tS S) (tn S) (f2 (dv tx by' (p + 3))) (tn S)).val : Int) (tn S : Int))
    rw [setA_e, f2_v d3, sbt_c (s := setA (tS S) (tn S) (f2 (dv tx by' (p + 3)))) (s' := tS S) (tn S) (fun r hr => setA_n _ _ (by omega))]
  · have hr : r < tn S + 1 := hr
    show _ = ((setA (tc S) (tn S) (fd (dv tx by' (p + 1))) r).val : Int)
    rw [up_c _ _ _ _ (by decide), up_c _ _ _ _ (by decide), up_c _ _ _ _ (by decide), up_c _ _ _ _ (by decide)]
    by_cases e : r = tn S
    · subst e; rw [up_eq, setA_e, fd_v d1]
    · rw [up_k _ _ _ _ (by omega), setA_n _ _ e]; exact hc r (by omega)
  · have hr : r < tn S + 1 := hr
    show _ = ((setA (tH S) (tn S) (fd (dv tx by' (p + 2))) r).val : Int)
    rw [up_c _ _ _ _ (by decide), up_c _ _ _ _ (by decide), up_c _ _ _ _ (by decide)]
    by_cases e : r = tn S
    · subst e; rw [up_eq, setA_e, fd_v d2]
    · rw [up_k _ _ _ _ (by omega), setA_n _ _ e, up_c _ _ _ _ (by decide)]; exact hH r (by omega)
  · have hr : r < tn S + 1 := hr
    show _ = ((setA (tO S) (tn S) (fo (dv tx by' (p + 4))) r).val : Int)
    rw [up_c _ _ _ _ (by decide), up_c _ _ _ _ (by decide)]
    by_cases e : r = tn S
    · subst e; rw [up_eq, setA_e, fo_v d4]
    · rw [up_k _ _ _ _ (by omega), setA_n _ _ e, up_c _ _ _ _ (by decide), up_c _ _ _ _ (by decide)]; exact hO r (by omega)
  · refine sv.same ?_ ?_ ?_ ?_
    all_goals funext z; rw [up_c _ _ _ _ (by decide), up_c _ _ _ _ (by decide), up_c _ _ _ _ (by decide), up_c _ _ _ _ (by decide), up_c _ _ _ _ (by decide)]
  · funext z
    rw [up_c _ _ _ _ (by omega), up_c _ _ _ _ (by omega), up_c _ _ _ _ (by omega), up_c _ _ _ _ (by omega), up_c _ _ _ _ (by omega)]
  · rw [up_k _ _ _ _ z4, up_k _ _ _ _ z5, up_c _ _ _ _ (by decide), up_c _ _ _ _ (by decide), up_c _ _ _ _ (by decide)]
theorem x_addStar (v : CT d S) (k4 : tk S < 4) (z : sflt tx by' p = -9) : ∃ e, p_X4_addStar d ((dv tx by' (p + 1) : Nat) : Int) ((dv tx by' (p + 2) : Nat) : Int) ((dv tx by' (p + 3) : Nat) : Int) = some e ∧ CT e (addS tx by' S p) ∧ (∀ i, i < 3 ∨ 6 < i → e i = d i) := by
  obtain ⟨tv, hk, v3, v4, v5, v6⟩ := v
  obtain ⟨q1, q2, q3⟩ := sflt_9 z
  have d1 : dv tx by' (p + 1) < 10 := by have := dv_of q1; omega
  have d2 : dv tx by' (p + 2) < 4 := by have := dv_of q2; omega
  have d3 : dv tx by' (p + 3) < 10 := by have := q3; unfold dv; omega
  unfold p_X4_addStar p_X4_addStar_48
  simp only [up_c _ _ _ _ (show (3 : Nat) ≠ 4 by decide), up_c _ _ _ _ (show (3 : Nat) ≠ 5 by decide), up_c _ _ _ _ (show (3 : Nat) ≠ 6 by decide), v3]
  rw [if_neg (by omega), gd_w (by omega), gd_w (by omega), gd_w (by omega), wr_1 (by omega)]
  refine ⟨_, rfl, ⟨tv.same ?_ ?_ ?_ ?_, ?_, ?_, fun r hr => ?_, fun r hr => ?_, fun r hr => ?_⟩, fun i hi => ?_⟩
  · funext z; rw [up_c _ _ _ _ (by decide), up_c _ _ _ _ (by decide), up_c _ _ _ _ (by decide), up_c _ _ _ _ (by decide)]
  · funext z; rw [up_c _ _ _ _ (by decide), up_c _ _ _ _ (by decide), up_c _ _ _ _ (by decide), up_c _ _ _ _ (by decide)]
  · funext z; rw [up_c _ _ _ _ (by decide), up_c _ _ _ _ (by decide), up_c _ _ _ _ (by decide), up_c _ _ _ _ (by decide)]
  · funext z; rw [up_c _ _ _ _ (by decide), up_c _ _ _ _ (by decide), up_c _ _ _ _ (by decide), up_c _ _ _ _ (by decide)]
  · show tk S + 1 ≤ 4; omega
  · rw [up_eq]; show _ = ((tk S + 1 : Nat) : Int); omega
  · have hr : r < tk S + 1 := hr
    show _ = ((setA (tri S) (tk S) (fd (dv tx by' (p + 1))) r).val : Int)
    rw [up_c _ _ _ _ (by decide), up_c _ _ _ _ (by decide), up_c _ _ _ _ (by decide)]
    by_cases e : r = tk S
    · subst e; rw [up_eq, setA_e, fd_v d1]
    · rw [up_k _ _ _ _ (by omega), setA_n _ _ e]; exact v4 r (by omega)
  · have hr : r < tk S + 1 := hr
    show _ = ((setA (tsp S) (tk S) (fo (dv tx by' (p + 2))) r).val : Int)
    rw [up_c _ _ _ _ (by decide), up_c _ _ _ _ (by decide)]
    by_cases e : r = tk S
    · subst e; rw [up_eq, setA_e, fo_v d2]
    · rw [up_k _ _ _ _ (by omega), setA_n _ _ e, up_c _ _ _ _ (by decide)]; exact v5 r (by omega)
  · have hr : r < tk S + 1 := hr
    show _ = ((setA (two S) (tk S) (fd (dv tx by' (p + 3))) r).val : Int)
    rw [up_c _ _ _ _ (by decide)]
    by_cases e : r = tk S
    · subst e; rw [up_eq, setA_e, fd_v d3]
    · rw [up_k _ _ _ _ (by omega), setA_n _ _ e, up_c _ _ _ _ (by decide), up_c _ _ _ _ (by decide)]; exact v6 r (by omega)
  · funext z
    rw [up_c _ _ _ _ (by omega), up_c _ _ _ _ (by omega), up_c _ _ _ _ (by omega), up_c _ _ _ _ (by omega)]
def Kc (d e : Mem) : Prop := (∀ i, i < 3 ∨ 10 < i → e i = d i) ∧ ∀ z : Int, z ≠ 4 → z ≠ 5 → e 7 z = d 7 z
theorem tlS (f : Nat) (d : Mem) (p : Int) : p_X5_tellParts_L2 7 (f + 1) d p = p_X5_tellParts_2 (fun h l3 => p_X5_tellParts_L2 7 f h l3) d 7 p := rfl
theorem x_tell : ∀ (f : Nat) (S : TS) (p : Nat) (d : Mem), TX d tx by' → CT d S → (run tx by' f S p).1 = -9 → p ≤ tx + 4 → tx + 6 < f + p → ∃ e, p_X5_tellParts_L2 7 f d (p : Int) = some e ∧ CT e (run tx by' f S p).2 ∧ Kc d e := by
  intro f
  induction f with
  | zero => intro S p d v _ _ h1 h2; have := v.1; omega
  | succ f ih =>
    intro S p d v ct h9 h1 h2
    have htx := v.1
    rw [tlS]
    unfold p_X5_tellParts_2
    rw [v.2.1]
    by_cases q : tx ≤ p
    · rw [if_pos (by omega)]
      have : run tx by' (f + 1) S p = (-9, S) := by simp only [run]; rw [if_pos q]
      rw [this]
      exact ⟨d, rfl, ct, fun _ _ => rfl, fun _ _ _ => rfl⟩
    · rw [if_neg (by omega), t_byte v, bd_n, show wr ((p : Int) + 1) = ((p + 1 : Nat) : Int) from wr_k (by omega) 1 (by decide), show wr ((p : Int) + 2) = ((p + 2 : Nat) : Int) from wr_k (by omega) 2 (by decide), show wr ((p : Int) + 3) = ((p + 3 : Nat) : Int) from wr_k (by omega) 3 (by decide), show wr ((p : Int) + 4) = ((p + 4 : Nat) : Int) from wr_k (by omega) 4 (by decide), show wr ((p : Int) + 5) = ((p + 5 : Nat) : Int) from wr_k (by omega) 5 (by decide), t_digit v, t_digit v, t_digit v, t_digit v, bd_n, bd_n, bd_n, bd_n, bd_n, bd_n, bd_n]
      by_cases c : chr tx by' p = 82
      · obtain ⟨n5, z, er⟩ := run_9r q c h9
        obtain ⟨g1, g2, g3, g4⟩ := rflt_9 z
        obtain ⟨e, ee, ce, k1, k2⟩ := x_addRoof ct n5 z
        rw [if_pos c, ← dv_of g1, ← dv_of g2, ← dv_of g3, ← dv_of g4, ee, bd_n]
        rw [er] at h9 ⊢
        obtain ⟨e', ee', ce', k1', k2'⟩ := ih (addR tx by' S p) (p + 5) e (v.same (fun i a b => k1 i (by omega))) ce h9 (by omega) (by omega)
        exact ⟨e', ee', ce', fun i hi => by rw [k1' i hi, k1 i (by omega)], fun z z4 z5 => by rw [k2' z z4 z5, k2 z z4 z5]⟩
      · obtain ⟨k4, z, er⟩ := run_9s q c h9
        obtain ⟨g1, g2, g3⟩ := sflt_9 z
        have e3 : ((dv tx by' (p + 3) : Nat) : Int) = chr tx by' (p + 3) - 48 := by have := g3.1; unfold dv; omega
        obtain ⟨e, ee, ce, k1⟩ := x_addStar ct k4 z
        rw [if_neg c, ← dv_of g1, ← dv_of g2, ← e3, ee, bd_n]
        rw [er] at h9 ⊢
        obtain ⟨e', ee', ce', k1', k2'⟩ := ih (addS tx by' S p) (p + 4) e (v.same (fun i a b => k1 i (by omega))) ce h9 (by omega) (by omega)
        exact ⟨e', ee', ce', fun i hi => by rw [k1' i hi, k1 i (by omega)], fun z z4 z5 => by rw [k2' z z4 z5, k1 7 (by decide)]⟩
end NIGHT
