/-! ===== seed, nights, shine, unshine, write, wipe ===== -/
def setA {α : Type} (f : Nat → α) (k : Nat) (x : α) : Nat → α := fun j => if j = k then x else f j
theorem setA_e {α : Type} (f : Nat → α) (k : Nat) (x : α) : setA f k x k = x := if_pos rfl
theorem setA_n {α : Type} (f : Nat → α) {k j : Nat} (x : α) (h : j ≠ k) : setA f k x j = f j := if_neg h
section SMALL
variable {h h' g : Mem} {n : Nat} {c : Nat → Fin 10} {k : Nat} {ri : Nat → Fin 10} {sp : Nat → Fin 4} {wo : Nat → Fin 10} {law a : Nat} {pg : Nat → Pg} {f0 : Nat} {q0 : Pg} {f1 : Nat} {q1 : Pg} {w : Nat} {ce ho : Nat → Fin 10} {sh : Nat → Fin 2} {tx : Nat} {by' : Nat → Fin 256} {sd : Int} {p : Pg} {t s f : Nat}
theorem IC.seed (v : IC h n c k ri sp wo law a pg f0 q0 f1 q1 w ce ho sh tx by' sd) (x : Int) : IC (up h 0 12 x) n c k ri sp wo law a pg f0 q0 f1 q1 w ce ho sh tx by' x := by
  obtain ⟨v1, v2, v3, v4, v5, v6, v7, v8⟩ := v
  have e : ∀ i, i ≠ 0 → up h 0 12 x i = h i := fun i hi => by funext z; exact up_c _ _ _ _ hi
  exact ⟨v1.same (fun i a b => e i (by omega)), v2.same (fun i a b => e i (by omega)) (up_k _ _ _ _ (by decide)), v3.same (fun i a b => e i (by omega)), v4.same (fun i a b => e i (by omega)), v5.same (fun i a b => e i (by omega)), v6.same (fun i a b => e i (by omega)), v7.same (fun i a b => e i (by omega)), up_eq _ _ _ _⟩
theorem IM.seed (v : IM h n c k ri sp wo law a pg f0 q0 f1 q1 w ce ho sh tx by' sd) (x : Int) : IM (up h 45 26 x) n c k ri sp wo law a pg f0 q0 f1 q1 w ce ho sh tx by' x := by
  obtain ⟨v1, v2, v3, v4, v5, v6, v7, v8⟩ := v
  have e : ∀ i, i ≠ 45 → up h 45 26 x i = h i := fun i hi => by funext z; exact up_c _ _ _ _ hi
  have f : ∀ f : Int, f ≠ 26 → up h 45 26 x 45 f = h 45 f := fun f hf => up_k _ _ _ _ hf
  exact ⟨by rw [e 53 (by decide)]; exact v1, v2.same (fun i a b => e i (by omega)) (f 4 (by decide)) (f 5 (by decide)) (f 6 (by decide)), v3.same (e 55 (by decide)) (f 19 (by decide)), v4.same (e 56 (by decide)) (e 57 (by decide)), v5.same (e 56 (by decide)) (e 57 (by decide)), v6.same (fun i a b => e i (by omega)) (f 22 (by decide)), v7.same (e 46 (by decide)) (f 2 (by decide)), up_eq _ _ _ _⟩
theorem pr_seed (B : Nat) (x : Int) : Pair B B (fun h => p_X8_seed h x) (fun h => p_X9_seed h x) := by
  intro h i
  obtain ⟨n, c, k, ri, sp, wo, law, a, pg, f0, q0, f1, q1, w, ce, ho, sh, tx, by', sd, i1, i2, i3⟩ := i
  have j1 := i1.seed x
  have j2 := i2.lo (Lo.up h (show 0 < 45 by decide) 12 x)
  have s := Sm.up0 (up h 0 12 x)
  have k2 := j2.md s
  have k1 := j1.hi s.hi
  refine ⟨h 0 12, up h 0 12 x, up (up (up h 0 12 x) 45 0 0) 45 26 x, rfl, ?_, n, c, k, ri, sp, wo, law, a, pg, f0, q0, f1, q1, w, ce, ho, sh, tx, by', x, k1.hi (Hi.up _ (by decide) _ _), k2.seed x, i3⟩
  show some (up (up h 0 12 x) 45 0 0 45 26, _) = _
  rw [k2.2.2.2.2.2.2.2, i1.2.2.2.2.2.2.2]
theorem pr_nights (B : Nat) (m : Int) : Pair B B (fun h => p_X8_nights h m) (fun h => p_X9_nights h m) := by
  intro h i
  obtain ⟨n, c, k, ri, sp, wo, law, a, pg, f0, q0, f1, q1, w, ce, ho, sh, tx, by', sd, i1, i2, i3⟩ := i
  obtain ⟨h1, e1, s1⟩ := x_nights (i1.cv i3) m
  have j1 := (i1.seed (s_seed (h 0 12) m)).sc s1
  have j2 := i2.lo ((Lo.up h (show 0 < 45 by decide) 12 (s_seed (h 0 12) m)).tr s1.lo)
  obtain ⟨h2, e2, s2⟩ := y_nights (j2.mv i3) m
  have k2 := (j2.seed (s_seed (h1 45 26) m)).md s2
  have k1 := j1.hi ((Hi.up h1 (show 45 ≤ 45 by decide) 26 (s_seed (h1 45 26) m)).tr s2.hi)
  have es : h1 45 26 = h 0 12 := by rw [j2.2.2.2.2.2.2.2, i1.2.2.2.2.2.2.2]
  rw [es] at e2 k2
  exact ⟨_, h1, h2, e1, e2, n, c, k, ri, sp, wo, law, a, pg, f0, q0, f1, q1, w, ce, ho, sh, tx, by', _, k1, k2, i3⟩
theorem pr_shine (B : Nat) (x y z : Int) (hz : z = 0 ∨ z = 1) : Pair B B (fun h => p_X8_shine h x y z) (fun h => p_X9_shine h x y z) := by
  intro h i
  obtain ⟨n, c, k, ri, sp, wo, law, a, pg, f0, q0, f1, q1, w, ce, ho, sh, tx, by', sd, i1, i2, i3⟩ := i
  have s := Sm.up0 h
  have idle : ∀ v : Int, ∃ (u : Int) (h1 h2 : Mem), some (v, h) = some (u, h1) ∧ some (v, up h1 45 0 0) = some (u, h2) ∧ INV B h2 := fun v => ⟨v, h, up h 45 0 0, rfl, rfl, n, c, k, ri, sp, wo, law, a, pg, f0, q0, f1, q1, w, ce, ho, sh, tx, by', sd, i1.hi s.hi, i2.md s, i3⟩
  show ∃ (u : Int) (h1 h2 : Mem), p_X8_shine h x y z = some (u, h1) ∧ p_X9_shine h1 x y z = some (u, h2) ∧ INV B h2
  unfold p_X8_shine p_X9_shine
  simp only [m_in]
  have w1 := i1.2.2.2.2.2.1
  have w2 := i2.2.2.2.2.2.1
  obtain ⟨hw, w11, w12, w13, w14⟩ := id w1
  obtain ⟨-, w21, w22, w23, w24⟩ := id w2
  by_cases x0 : x < 0
  · rw [if_pos x0]
    obtain ⟨u, h1, h2, a1, a2, a3⟩ := idle (-2)
    refine ⟨u, h1, h2, a1, ?_, a3⟩
    rw [bd_n, if01_f (by omega)]; exact a2
  · rw [if_neg x0]
    by_cases x1 : 10 ≤ x
    · rw [if_pos x1]
      obtain ⟨u, h1, h2, a1, a2, a3⟩ := idle (-2)
      refine ⟨u, h1, h2, a1, ?_, a3⟩
      rw [bd_n, if01_f (by omega)]; exact a2
    · rw [if_neg x1]
      by_cases y0 : y < 0
      · rw [if_pos y0]
        obtain ⟨u, h1, h2, a1, a2, a3⟩ := idle (-2)
        refine ⟨u, h1, h2, a1, ?_, a3⟩
        rw [bd_n, if01_t (by omega), bd_n, if01_f (by omega)]; exact a2
      · rw [if_neg y0]
        by_cases y1 : y < 10
        · rw [if_pos y1]
          unfold p_X7_isFull
          rw [w11]
          by_cases full : w < 6
          · rw [if_pos (show (w : Int) < 6 by omega), bd_n, if_pos rfl]
            unfold p_X7_add p_X7_isFull p_X7_add_47
            obtain ⟨x', rfl⟩ := toN (show 0 ≤ x by omega)
            obtain ⟨y', rfl⟩ := toN (show 0 ≤ y by omega)
            obtain ⟨z', hz'⟩ : ∃ z' : Fin 2, ((z'.val : Nat) : Int) = z := by
              rcases hz with rfl | rfl
              · exact ⟨0, rfl⟩
              · exact ⟨1, rfl⟩
            subst hz'
            simp only [up_c _ _ _ _ (show (37 : Nat) ≠ 38 by decide), up_c _ _ _ _ (show (37 : Nat) ≠ 39 by decide), up_c _ _ _ _ (show (37 : Nat) ≠ 40 by decide), w11]
            rw [if_pos (show (w : Int) < 6 by omega), bd_n, if_pos rfl, gd_w (by omega), gd_w (by omega), gd_w (by omega), gd_w (by omega), wr_1 (by omega), bd_n, up_eq]
            have j1 : IC (up (up (up (up h 38 (w : Int) (x' : Int)) 39 (w : Int) (y' : Int)) 40 (w : Int) ((z'.val : Nat) : Int)) 37 3 ((w : Int) + 1)) n c k ri sp wo law a pg f0 q0 f1 q1 (w + 1) (setA ce w (fd x')) (setA ho w (fd y')) (setA sh w z') tx by' sd := by
              obtain ⟨v1, v2, v3, v4, v5, v6, v7, v8⟩ := i1
              have e : ∀ i, i < 37 ∨ 40 < i → up (up (up (up h 38 (w : Int) (x' : Int)) 39 (w : Int) (y' : Int)) 40 (w : Int) ((z'.val : Nat) : Int)) 37 3 ((w : Int) + 1) i = h i := fun i hi => by funext q; rw [up_c _ _ _ _ (by omega), up_c _ _ _ _ (by omega), up_c _ _ _ _ (by omega), up_c _ _ _ _ (by omega)]
              refine ⟨v1.same (fun i a b => e i (by omega)), v2.same (fun i a b => e i (by omega)) (by rw [e 0 (by decide)]), v3.same (fun i a b => e i (by omega)), v4.same (fun i a b => e i (by omega)), v5.same (fun i a b => e i (by omega)), ⟨by omega, ?_, fun j hj => ?_, fun j hj => ?_, fun j hj => ?_⟩, v7.same (fun i a b => e i (by omega)), by rw [e 0 (by decide)]; exact v8⟩
              · rw [up_eq]; omega
              · rw [up_c _ _ _ _ (by decide), up_c _ _ _ _ (by decide), up_c _ _ _ _ (by decide)]
                by_cases ej : j = w
                · subst ej; rw [up_eq, setA_e, fd_v (by omega)]
                · rw [up_k _ _ _ _ (by omega), setA_n _ _ ej]; exact w12 j (by omega)
              · rw [up_c _ _ _ _ (by decide), up_c _ _ _ _ (by decide)]
                by_cases ej : j = w
                · subst ej; rw [up_eq, setA_e, fd_v (by omega)]
                · rw [up_k _ _ _ _ (by omega), setA_n _ _ ej, up_c _ _ _ _ (by decide)]; exact w13 j (by omega)
              · rw [up_c _ _ _ _ (by decide)]
                by_cases ej : j = w
                · subst ej; rw [up_eq, setA_e]
                · rw [up_k _ _ _ _ (by omega), setA_n _ _ ej, up_c _ _ _ _ (by decide), up_c _ _ _ _ (by decide)]; exact w14 j (by omega)
            have lo : Lo h (up (up (up (up h 38 (w : Int) (x' : Int)) 39 (w : Int) (y' : Int)) 40 (w : Int) ((z'.val : Nat) : Int)) 37 3 ((w : Int) + 1)) := (((Lo.up h (by decide) _ _).tr (Lo.up _ (by decide) _ _)).tr (Lo.up _ (by decide) _ _)).tr (Lo.up _ (by decide) _ _)
            have j2 := i2.lo lo
            refine ⟨(w : Int) + 1, up (up (up (up h 38 (w : Int) (x' : Int)) 39 (w : Int) (y' : Int)) 40 (w : Int) ((z'.val : Nat) : Int)) 37 3 ((w : Int) + 1), ?_⟩
            generalize up (up (up (up h 38 (w : Int) (x' : Int)) 39 (w : Int) (y' : Int)) 40 (w : Int) ((z'.val : Nat) : Int)) 37 3 ((w : Int) + 1) = b at *
            have sb := Sm.up0 b
            have k1 := j1.hi sb.hi
            have k2 := j2.md sb
            generalize up b 45 0 0 = d at *
            obtain ⟨-, w21, w22, w23, w24⟩ := k2.2.2.2.2.2.1
            rw [bd_n, if01_t (by omega), bd_n, if01_t (by omega)]
            unfold p_X9_shine_74
            simp only [up_c _ _ _ _ (show (45 : Nat) ≠ 58 by decide), up_c _ _ _ _ (show (45 : Nat) ≠ 59 by decide), up_c _ _ _ _ (show (45 : Nat) ≠ 60 by decide), w21]
            rw [if_neg (by omega), gd_w (by omega), gd_w (by omega), gd_w (by omega), gd_w hz, wr_1 (by omega), up_eq]
            refine ⟨_, trivial, rfl, n, c, k, ri, sp, wo, law, a, pg, f0, q0, f1, q1, w + 1, setA ce w (fd x'), setA ho w (fd y'), setA sh w z', tx, by', sd, ?_, ?_, i3⟩
            · exact k1.hi ((((Hi.up d (by decide) _ _).tr (Hi.up _ (by decide) _ _)).tr (Hi.up _ (by decide) _ _)).tr (Hi.up _ (by decide) _ _))
            · obtain ⟨v1, v2, v3, v4, v5, v6, v7, v8⟩ := k2
              have e : ∀ i, i ≠ 45 → i < 58 ∨ 60 < i → up (up (up (up d 58 (w : Int) (x' : Int)) 59 (w : Int) (y' : Int)) 60 (w : Int) ((z'.val : Nat) : Int)) 45 22 ((w : Int) + 1) i = d i := fun i h0 hi => by funext q; rw [up_c _ _ _ _ (by omega), up_c _ _ _ _ (by omega), up_c _ _ _ _ (by omega), up_c _ _ _ _ (by omega)]
              have f : ∀ f : Int, f ≠ 22 → up (up (up (up d 58 (w : Int) (x' : Int)) 59 (w : Int) (y' : Int)) 60 (w : Int) ((z'.val : Nat) : Int)) 45 22 ((w : Int) + 1) 45 f = d 45 f := fun f hf => by rw [up_k _ _ _ _ hf, up_c _ _ _ _ (by decide), up_c _ _ _ _ (by decide), up_c _ _ _ _ (by decide)]
              refine ⟨by rw [e 53 (by decide) (by decide)]; exact v1, v2.same (fun i a b => e i (by omega) (by omega)) (f 4 (by decide)) (f 5 (by decide)) (f 6 (by decide)), v3.same (e 55 (by decide) (by decide)) (f 19 (by decide)), v4.same (e 56 (by decide) (by decide)) (e 57 (by decide) (by decide)), v5.same (e 56 (by decide) (by decide)) (e 57 (by decide) (by decide)), ⟨by omega, ?_, fun j hj => ?_, fun j hj => ?_, fun j hj => ?_⟩, v7.same (e 46 (by decide) (by decide)) (f 2 (by decide)), by rw [f 26 (by decide)]; exact v8⟩
              · rw [up_eq]; omega
              · rw [up_c _ _ _ _ (by decide), up_c _ _ _ _ (by decide), up_c _ _ _ _ (by decide)]
                by_cases ej : j = w
                · subst ej; rw [up_eq, setA_e, fd_v (by omega)]
                · rw [up_k _ _ _ _ (by omega), setA_n _ _ ej]; exact w22 j (by omega)
              · rw [up_c _ _ _ _ (by decide), up_c _ _ _ _ (by decide)]
                by_cases ej : j = w
                · subst ej; rw [up_eq, setA_e, fd_v (by omega)]
                · rw [up_k _ _ _ _ (by omega), setA_n _ _ ej, up_c _ _ _ _ (by decide)]; exact w23 j (by omega)
              · rw [up_c _ _ _ _ (by decide)]
                by_cases ej : j = w
                · subst ej; rw [up_eq, setA_e]
                · rw [up_k _ _ _ _ (by omega), setA_n _ _ ej, up_c _ _ _ _ (by decide), up_c _ _ _ _ (by decide)]; exact w24 j (by omega)
          · rw [if_neg (show ¬ (w : Int) < 6 by omega), bd_n, if_neg (by decide)]
            obtain ⟨u, h1, h2, a1, a2, a3⟩ := idle (-4)
            refine ⟨u, h1, h2, a1, ?_, a3⟩
            have eh : h1 = h := by have := Option.some.inj a1; exact (congrArg Prod.snd this).symm
            subst eh
            rw [bd_n, if01_t (by omega), bd_n, if01_t (by omega), up_k _ _ _ _ (by decide), w21, if_pos (by omega)]; exact a2
        · rw [if_neg y1]
          obtain ⟨u, h1, h2, a1, a2, a3⟩ := idle (-2)
          refine ⟨u, h1, h2, a1, ?_, a3⟩
          rw [bd_n, if01_t (by omega), bd_n, if01_f (by omega)]; exact a2
theorem pr_unshine (B : Nat) : Pair B B (fun h => p_X8_unshine h) (fun h => p_X9_unshine h) := by
  intro h i
  obtain ⟨n, c, k, ri, sp, wo, law, a, pg, f0, q0, f1, q1, w, ce, ho, sh, tx, by', sd, i1, i2, i3⟩ := i
  have j2 := (i2.lo (Lo.up h (show 37 < 45 by decide) 3 0)).md (Sm.up0 _)
  refine ⟨(w : Int), up h 37 3 0, up (up (up h 37 3 0) 45 0 0) 45 22 0, ?_, ?_, n, c, k, ri, sp, wo, law, a, pg, f0, q0, f1, q1, 0, ce, ho, sh, tx, by', sd, ?_, ?_, i3⟩
  · show p_X8_unshine h = _
    unfold p_X8_unshine p_X7_clear
    rw [bd_n, i1.2.2.2.2.2.1.2.1]
  · show p_X9_unshine _ = _
    unfold p_X9_unshine
    rw [j2.2.2.2.2.2.1.2.1]
  · obtain ⟨v1, v2, v3, v4, v5, v6, v7, v8⟩ := i1
    have e : ∀ i, i ≠ 37 → i < 45 → up (up (up h 37 3 0) 45 0 0) 45 22 0 i = h i := fun i hi h2 => by funext z; rw [up_c _ _ _ _ (by omega), up_c _ _ _ _ (by omega), up_c _ _ _ _ hi]
    refine ⟨v1.same (fun i a b => e i (by omega) (by omega)), v2.same (fun i a b => e i (by omega) (by omega)) (by rw [e 0 (by decide) (by decide)]), v3.same (fun i a b => e i (by omega) (by omega)), v4.same (fun i a b => e i (by omega) (by omega)), v5.same (fun i a b => e i (by omega) (by omega)), ⟨by decide, ?_, fun j hj => by omega, fun j hj => by omega, fun j hj => by omega⟩, v7.same (fun i a b => e i (by omega) (by omega)), by rw [e 0 (by decide) (by decide)]; exact v8⟩
    rw [up_c _ _ _ _ (by decide), up_c _ _ _ _ (by decide), up_eq]; rfl
  · obtain ⟨v1, v2, v3, v4, v5, v6, v7, v8⟩ := j2
    generalize up (up h 37 3 0) 45 0 0 = b at *
    have e : ∀ i, i ≠ 45 → up b 45 22 0 i = b i := fun i hi => by funext z; exact up_c _ _ _ _ hi
    have f : ∀ f : Int, f ≠ 22 → up b 45 22 0 45 f = b 45 f := fun f hf => up_k _ _ _ _ hf
    exact ⟨by rw [e 53 (by decide)]; exact v1, v2.same (fun i a b => e i (by omega)) (f 4 (by decide)) (f 5 (by decide)) (f 6 (by decide)), v3.same (e 55 (by decide)) (f 19 (by decide)), v4.same (e 56 (by decide)) (e 57 (by decide)), v5.same (e 56 (by decide)) (e 57 (by decide)), ⟨by decide, up_eq _ _ _ _, fun j hj => by omega, fun j hj => by omega, fun j hj => by omega⟩, v7.same (e 46 (by decide)) (f 2 (by decide)), by rw [f 26 (by decide)]; exact v8⟩
theorem pr_wipe (B : Nat) : Pair B B (fun h => p_X8_wipe h) (fun h => p_X9_wipe h) := by
  intro h i
  obtain ⟨n, c, k, ri, sp, wo, law, a, pg, f0, q0, f1, q1, w, ce, ho, sh, tx, by', sd, i1, i2, i3⟩ := i
  have j2 := (i2.lo (Lo.up h (show 1 < 45 by decide) 1 0)).md (Sm.up0 _)
  refine ⟨(tx : Int), up h 1 1 0, up (up (up h 1 1 0) 45 0 0) 45 2 0, ?_, ?_, n, c, k, ri, sp, wo, law, a, pg, f0, q0, f1, q1, w, ce, ho, sh, 0, by', sd, ?_, ?_, i3⟩
  · show p_X8_wipe h = _
    unfold p_X8_wipe p_X5_clear
    rw [bd_n, i1.2.2.2.2.2.2.1.2.1]
  · show p_X9_wipe _ = _
    unfold p_X9_wipe
    rw [j2.2.2.2.2.2.2.1.1]
  · obtain ⟨v1, v2, v3, v4, v5, v6, v7, v8⟩ := i1
    have e : ∀ i, i ≠ 1 → i < 45 → up (up (up h 1 1 0) 45 0 0) 45 2 0 i = h i := fun i hi h2 => by funext z; rw [up_c _ _ _ _ (by omega), up_c _ _ _ _ (by omega), up_c _ _ _ _ hi]
    refine ⟨v1.same (fun i a b => e i (by omega) (by omega)), v2.same (fun i a b => e i (by omega) (by omega)) (by rw [e 0 (by decide) (by decide)]), v3.same (fun i a b => e i (by omega) (by omega)), v4.same (fun i a b => e i (by omega) (by omega)), v5.same (fun i a b => e i (by omega) (by omega)), v6.same (fun i a b => e i (by omega) (by omega)), ⟨by decide, ?_, fun j hj => by omega⟩, by rw [e 0 (by decide) (by decide)]; exact v8⟩
    rw [up_c _ _ _ _ (by decide), up_c _ _ _ _ (by decide), up_eq]; rfl
  · obtain ⟨v1, v2, v3, v4, v5, v6, v7, v8⟩ := j2
    generalize up (up h 1 1 0) 45 0 0 = b at *
    have e : ∀ i, i ≠ 45 → up b 45 2 0 i = b i := fun i hi => by funext z; exact up_c _ _ _ _ hi
    have f : ∀ f : Int, f ≠ 2 → up b 45 2 0 45 f = b 45 f := fun f hf => up_k _ _ _ _ hf
    exact ⟨by rw [e 53 (by decide)]; exact v1, v2.same (fun i a b => e i (by omega)) (f 4 (by decide)) (f 5 (by decide)) (f 6 (by decide)), v3.same (e 55 (by decide)) (f 19 (by decide)), v4.same (e 56 (by decide)) (e 57 (by decide)), v5.same (e 56 (by decide)) (e 57 (by decide)), v6.same (fun i a b => e i (by omega)) (f 22 (by decide)), ⟨up_eq _ _ _ _, fun j hj => by omega⟩, by rw [f 26 (by decide)]; exact v8⟩
def fb (z : Nat) : Fin 256 := ⟨z % 256, Nat.mod_lt _ (by decide)⟩
theorem pr_write (B : Nat) (x : Int) : Pair B B (fun h => p_X8_write h x) (fun h => p_X9_write h x) := by
  intro h i
  obtain ⟨n, c, k, ri, sp, wo, law, a, pg, f0, q0, f1, q1, w, ce, ho, sh, tx, by', sd, i1, i2, i3⟩ := i
  have s := Sm.up0 h
  have idle : ∀ v : Int, ∃ (u : Int) (h1 h2 : Mem), some (v, h) = some (u, h1) ∧ some (v, up h1 45 0 0) = some (u, h2) ∧ INV B h2 := fun v => ⟨v, h, up h 45 0 0, rfl, rfl, n, c, k, ri, sp, wo, law, a, pg, f0, q0, f1, q1, w, ce, ho, sh, tx, by', sd, i1.hi s.hi, i2.md s, i3⟩
  show ∃ (u : Int) (h1 h2 : Mem), p_X8_write h x = some (u, h1) ∧ p_X9_write h1 x = some (u, h2) ∧ INV B h2
  unfold p_X8_write p_X9_write
  simp only [m_in]
  obtain ⟨hw, t1, t2⟩ := id i1.2.2.2.2.2.2.1
  obtain ⟨u1, u2⟩ := id i2.2.2.2.2.2.2.1
  by_cases x0 : x < 0
  · rw [if_pos x0]
    obtain ⟨u, h1, h2, a1, a2, a3⟩ := idle (-2)
    refine ⟨u, h1, h2, a1, ?_, a3⟩
    rw [bd_n, if01_f (by omega)]; exact a2
  · rw [if_neg x0]
    by_cases x1 : x ≤ 255
    · rw [if_pos x1]
      unfold p_X5_isFull
      rw [t1]
      by_cases full : tx < 48
      · rw [if_pos (show (tx : Int) < 48 by omega), bd_n, if_pos rfl]
        unfold p_X5_add p_X5_isFull p_X5_add_27
        obtain ⟨x', rfl⟩ := toN (show 0 ≤ x by omega)
        have fv : (fb x').val = x' := Nat.mod_eq_of_lt (by omega)
        simp only [up_c _ _ _ _ (show (1 : Nat) ≠ 2 by decide), t1]
        rw [if_pos (show (tx : Int) < 48 by omega), bd_n, if_pos rfl, gd_w (by omega), wr_1 (by omega), bd_n, up_eq]
        have j1 : IC (up (up h 2 (tx : Int) (x' : Int)) 1 1 ((tx : Int) + 1)) n c k ri sp wo law a pg f0 q0 f1 q1 w ce ho sh (tx + 1) (setA by' tx (fb x')) sd := by
          obtain ⟨v1, v2, v3, v4, v5, v6, v7, v8⟩ := i1
          have e : ∀ i, i ≠ 1 → i ≠ 2 → up (up h 2 (tx : Int) (x' : Int)) 1 1 ((tx : Int) + 1) i = h i := fun i h1 h2 => by funext q; rw [up_c _ _ _ _ h1, up_c _ _ _ _ h2]
          refine ⟨v1.same (fun i a b => e i (by omega) (by omega)), v2.same (fun i a b => e i (by omega) (by omega)) (by rw [e 0 (by decide) (by decide)]), v3.same (fun i a b => e i (by omega) (by omega)), v4.same (fun i a b => e i (by omega) (by omega)), v5.same (fun i a b => e i (by omega) (by omega)), v6.same (fun i a b => e i (by omega) (by omega)), ⟨by omega, by rw [up_eq]; omega, fun j hj => ?_⟩, by rw [e 0 (by decide) (by decide)]; exact v8⟩
          rw [up_c _ _ _ _ (by decide)]
          by_cases ej : j = tx
          · subst ej; rw [up_eq, setA_e, fv]
          · rw [up_k _ _ _ _ (by omega), setA_n _ _ ej]; exact t2 j (by omega)
        have j2 := i2.lo ((Lo.up h (show 2 < 45 by decide) (tx : Int) (x' : Int)).tr (Lo.up _ (show 1 < 45 by decide) 1 ((tx : Int) + 1)))
        refine ⟨(tx : Int) + 1, up (up h 2 (tx : Int) (x' : Int)) 1 1 ((tx : Int) + 1), ?_⟩
        generalize up (up h 2 (tx : Int) (x' : Int)) 1 1 ((tx : Int) + 1) = b at *
        have sb := Sm.up0 b
        have k1 := j1.hi sb.hi
        have k2 := j2.md sb
        generalize up b 45 0 0 = d at *
        obtain ⟨u1, u2⟩ := id k2.2.2.2.2.2.2.1
        rw [bd_n, if01_t (by omega)]
        simp only [up_c _ _ _ _ (show (45 : Nat) ≠ 46 by decide), u1]
        rw [if_neg (by omega), gd_w (by omega), wr_1 (by omega), up_eq]
        refine ⟨_, trivial, rfl, n, c, k, ri, sp, wo, law, a, pg, f0, q0, f1, q1, w, ce, ho, sh, tx + 1, setA by' tx (fb x'), sd, k1.hi ((Hi.up d (by decide) _ _).tr (Hi.up _ (by decide) _ _)), ?_, i3⟩
        obtain ⟨v1, v2, v3, v4, v5, v6, v7, v8⟩ := k2
        have e : ∀ i, i ≠ 45 → i ≠ 46 → up (up d 46 (tx : Int) (x' : Int)) 45 2 ((tx : Int) + 1) i = d i := fun i h1 h2 => by funext q; rw [up_c _ _ _ _ h1, up_c _ _ _ _ h2]
        have f : ∀ f : Int, f ≠ 2 → up (up d 46 (tx : Int) (x' : Int)) 45 2 ((tx : Int) + 1) 45 f = d 45 f := fun f hf => by rw [up_k _ _ _ _ hf, up_c _ _ _ _ (by decide)]
        refine ⟨by rw [e 53 (by decide) (by decide)]; exact v1, v2.same (fun i a b => e i (by omega) (by omega)) (f 4 (by decide)) (f 5 (by decide)) (f 6 (by decide)), v3.same (e 55 (by decide) (by decide)) (f 19 (by decide)), v4.same (e 56 (by decide) (by decide)) (e 57 (by decide) (by decide)), v5.same (e 56 (by decide) (by decide)) (e 57 (by decide) (by decide)), v6.same (fun i a b => e i (by omega) (by omega)) (f 22 (by decide)), ⟨by rw [up_eq]; omega, fun j hj => ?_⟩, by rw [f 26 (by decide)]; exact v8⟩
        rw [up_c _ _ _ _ (by decide)]
        by_cases ej : j = tx
        · subst ej; rw [up_eq, setA_e, fv]
        · rw [up_k _ _ _ _ (by omega), setA_n _ _ ej]; exact u2 j (by omega)
      · rw [if_neg (show ¬ (tx : Int) < 48 by omega), bd_n, if_neg (by decide)]
        obtain ⟨u, h1, h2, a1, a2, a3⟩ := idle (-4)
        refine ⟨u, h1, h2, a1, ?_, a3⟩
        have eh : h1 = h := by have := Option.some.inj a1; exact (congrArg Prod.snd this).symm
        subst eh
        rw [bd_n, if01_t (by omega), up_k _ _ _ _ (by decide), u1, if_pos (by omega)]; exact a2
    · rw [if_neg x1]
      obtain ⟨u, h1, h2, a1, a2, a3⟩ := idle (-2)
      refine ⟨u, h1, h2, a1, ?_, a3⟩
      rw [bd_n, if01_f (by omega)]; exact a2
end SMALL
