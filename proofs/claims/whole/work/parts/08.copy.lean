theorem RM_cp {h : Mem} {x y n0 n1 : Nat} {sp dp n : Int} (hM : RM h) (hx : kd[x]? = some (.inr (n0, false))) (hy : kd[y]? = some (.inr (n1, false))) (h1 : 0 ≤ sp) (h4 : sp + n ≤ n0) : RM (cp h x sp y dp n) := by
  intro i q hq
  by_cases hi : i = y
  · subst hi
    rw [hy] at hq
    cases hq
    intro k k1 k2
    have h0 := hM i _ hy k k1 k2
    simp only [Bool.false_eq_true, if_false] at h0 ⊢
    unfold cp
    split
    · have := hM x _ hx (sp + (k - dp)) (by omega) (by omega)
      simpa using this
    · exact h0
  · have e : cp h x sp y dp n i = h i := by
      funext k
      simp [cp, hi]
    rw [e]
    exact hM i q hq
theorem wW_cp {h : Mem} {cI cB : ClassId} {ad : Nat → Nat} {x y n0 n1 : Nat} {sp dp n : Int} (hy : kd[y]? = some (.inr (n1, false))) (h1 : 0 ≤ sp ∧ RI sp) (h2 : 0 ≤ dp ∧ RI dp) (h3 : 0 ≤ n ∧ RI n) :
    (wW cI cB ad h).set y (ad y, .inl (cI, n1, .inl (va_cpy (fun j => I3 (h x (j : Int))) (fun j => I3 (h y (j : Int))) (I3 sp).toNatClampNeg (I3 dp).toNatClampNeg (I3 n).toNatClampNeg))) = wW cI cB ad (cp h x sp y dp n) := by
  have e : cp h x sp y dp n = fun c => if c = y then (fun k => if dp ≤ k ∧ k < dp + n then h x (sp + (k - dp)) else h y k) else h c := by
    funext c k
    by_cases hc : c = y
    · subst hc; simp [cp]
    · simp [cp, hc]
  rw [e, ← wW_set hy]
  congr 1
  show (_, Sum.inl (_, n1, Sum.inl _)) = (_, Sum.inl (_, n1, Sum.inl _))
  congr 4
  congr 1
  funext j
  rw [I3_clamp h1.1 h1.2, I3_clamp h2.1 h2.2, I3_clamp h3.1 h3.2]
  unfold va_cpy
  dsimp only
  by_cases c : dp.toNat ≤ j ∧ j < dp.toNat + n.toNat
  · rw [if_pos c, if_pos (by omega)]
    congr 2
    omega
  · rw [if_neg c, if_neg (by omega)]
section EA
variable {M M' : MI} {SX : Option (Nat × (Nat → Int32))} {Q : Option MV → Mem → Prop} {pc : Nat} {ls : List (Option MV)} {st : List MV} {h : Mem}
theorem e_acopy {own : String} {idx x y n0 n1 : Nat} {sp dp n : Int} (hd : decode (mC M) pc = .ok (.invokestatic idx, 3)) (ho' : (mY M).cls = own) (hw : Cond.methodLink own idx arraycopyName ∈ TB) (hw2 : Cond.native arraycopyName ∈ TB ∧ Cond.static arraycopyName ∈ TB ∧ Cond.initialized "java/lang/System" ∈ TB)
    (hx : kd[x]? = some (.inr (n0, false))) (hy : kd[y]? = some (.inr (n1, false))) (h1 : 0 ≤ sp) (h2 : 0 ≤ dp) (h3 : 0 ≤ n) (h4 : sp + n ≤ n0) (h5 : dp + n ≤ n1) (hfr : 1 ≤ (mR M).frames) (hlo : (st.map catv).sum + 18 ≤ (mR M).locals)
    (kk : E M SX Q (pc + 3) ls st (cp h x sp y dp n)) : E M SX Q pc ls (vi n :: vi dp :: vr y :: vi sp :: vr x :: st) h := by
  intro p l e s m args below meth c dC dI cI cB ad A cells slots Qf C F H locs la w hl ho
  subst ho'
  have rn : RI n := ok_head ho
  have rd : RI dp := ok_head (ok_tail ho)
  have rs : RI sp := ok_head (ok_tail (ok_tail (ok_tail ho)))
  have nn : ∀ {z : Int}, 0 ≤ z → RI z → ¬ I3 z < 0 := fun h0 hz q => absurd ((z_lt hz).mp q) (by omega)
  refine va_copyi C.1 C.2.1 (by rw [C.2.2.1]; exact hl.1.symm) C.2.2.2.1 (C.2.2.2.2.1 _ hw) (C.2.2.2.2.1 _ hw2.1) (C.2.2.2.2.1 _ hw2.2.1) (C.2.2.2.2.1 _ hw2.2.2) C.2.2.2.2.2.1 w.1 w.2.1 w.2.2.1 x y 0 0 (wW_get hx) (wW_get hy) rfl rfl rfl (nn h1 rs) (nn h2 rd) (nn h3 rn) (by rw [I3_clamp h1 rs, I3_clamp h3 rn]; omega) (by rw [I3_clamp h2 rd, I3_clamp h3 rn]; omega) (fun i _ => rfl) hfr ?_ hd (fun H1 locs1 p1 d1 s1 => ?_)
  · rw [cat_sum]
    have : nativeFrameWords "java/lang/System" "arraycopy" 5 = 7 := by decide
    rw [this]
    exact hlo
  · have e1 := wW_cp (h := h) (cI := cI) (cB := cB) (ad := ad) (x := x) (n0 := n0) hy ⟨h1, rs⟩ ⟨h2, rd⟩ ⟨h3, rn⟩
    simp only [Bool.false_eq_true, if_false] at p1 d1
    rw [e1] at p1 d1
    exact kk p l e s m args below meth c dC dI cI cB ad A cells slots Qf C F H1 locs1 la ⟨p1, d1, s1, RM_cp w.2.2.2 hx hy h1 h4⟩ hl (ok_tail (ok_tail (ok_tail (ok_tail (ok_tail ho)))))
end EA
/-! ===== words of the printed functions ===== -/
/-- a guard: what comes, if it holds -/
def gd {α : Type} (c : Prop) [Decidable c] (k : Option α) : Option α := if c then k else none
theorem gd_some {α : Type} {c : Prop} [Decidable c] {k : Option α} {r : α} (h : gd c k = some r) : c ∧ k = some r := by
  unfold gd at h
  split at h
  · exact ⟨by assumption, h⟩
  · cases h
theorem gd_t {α : Type} {c : Prop} [Decidable c] (k : Option α) (h : c) : gd c k = k := if_pos h
def bd {α β : Type} (x : Option α) (k : α → Option β) : Option β := match x with
  | none => none
  | some a => k a
theorem bd_some {α β : Type} {x : Option α} {k : α → Option β} {r : β} (h : bd x k = some r) : ∃ a, x = some a ∧ k a = some r := by
  cases x with
  | none => cases h
  | some a => exact ⟨a, rfl, h⟩
theorem bd_t {α β : Type} {x : Option α} {a : α} (k : α → Option β) (h : x = some a) : bd x k = k a := by rw [h]; rfl
/-! ===== Math.abs, Math.max ===== -/
def babs (a : Int) : Int := if 0 ≤ a then a else wr (-a)
def bmax (a b : Int) : Int := if a < b then b else a
theorem tw_mabs : Cond.code Lib.Math.abs.name Lib.Math.abs.code 1 (some .int) ∈ TB := tw_338
theorem tw_mmax : Cond.code Lib.Math.max.name Lib.Math.max.code 2 (some .int) ∈ TB := tw_410
section EB
variable {M M' : MI} {SX : Option (Nat × (Nat → Int32))} {Q : Option MV → Mem → Prop} {pc : Nat} {ls : List (Option MV)} {st : List MV} {h : Mem}
theorem e_mabs {own : String} {idx : Nat} {a : Int} (hd : decode (mC M) pc = .ok (.invokestatic idx, 3)) (ho' : (mY M).cls = own) (hw : Cond.methodLink own idx Lib.Math.abs.name ∈ TB) (hw2 : Cond.static Lib.Math.abs.name ∈ TB ∧ Cond.initialized "java/lang/Math" ∈ TB) (hfr : 1 ≤ (mR M).frames) (hlo : (st.map catv).sum + 13 ≤ (mR M).locals)
    (kk : E M SX Q (pc + 3) ls (vi (babs a) :: st) h) : E M SX Q pc ls (vi a :: st) h := by
  intro p l e s m args below meth c dC dI cI cB ad A cells slots Qf C F H locs la w hl ho
  subst ho'
  have ra : RI a := ok_head ho
  have e1 : I3 (babs a) = if 0 ≤ I3 a then I3 a else 0 - I3 a := by
    unfold babs
    by_cases c : 0 ≤ a
    · rw [if_pos c, if_pos ((z_ge ra).mpr c)]
    · rw [if_neg c, if_neg (fun q => c ((z_ge ra).mp q)), I3_wr]
      exact (Int32.ofInt_neg a).trans (Int32.zero_sub _).symm
  have rb : RI (babs a) := by
    unfold babs
    split
    · exact ra
    · exact RI_wr _
  refine va_mabs C.1 C.2.1 (by rw [C.2.2.1]; exact hl.1.symm) C.2.2.2.1 (C.2.2.2.2.1 _ hw) (C.2.2.2.2.1 _ hw2.1) (C.2.2.2.2.1 _ hw2.2) (C.2.2.2.2.1 _ tw_mabs) hfr (by rw [cat_sum]; exact hlo) C.2.2.2.2.2.2.2.2.2.1.1 C.2.2.2.2.2.2.2.2.2.1.2 hd ?_
  rw [← e1]
  exact kk p l e s m args below meth c dC dI cI cB ad A cells slots Qf C F H locs la w hl (ok_cons (show okv (vi _) from rb) (ok_tail ho))
theorem e_mmax {own : String} {idx : Nat} {a b : Int} (hd : decode (mC M) pc = .ok (.invokestatic idx, 3)) (ho' : (mY M).cls = own) (hw : Cond.methodLink own idx Lib.Math.max.name ∈ TB) (hw2 : Cond.static Lib.Math.max.name ∈ TB ∧ Cond.initialized "java/lang/Math" ∈ TB) (hfr : 1 ≤ (mR M).frames) (hlo : (st.map catv).sum + 13 ≤ (mR M).locals)
    (kk : E M SX Q (pc + 3) ls (vi (bmax a b) :: st) h) : E M SX Q pc ls (vi b :: vi a :: st) h := by
  intro p l e s m args below meth c dC dI cI cB ad A cells slots Qf C F H locs la w hl ho
  subst ho'
  have rb : RI b := ok_head ho
  have ra : RI a := ok_head (ok_tail ho)
  have e1 : I3 (bmax a b) = if I3 a < I3 b then I3 b else I3 a := by
    unfold bmax
    by_cases c : a < b
    · rw [if_pos c, if_pos ((I3_lt ra rb).mpr c)]
    · rw [if_neg c, if_neg (fun q => c ((I3_lt ra rb).mp q))]
  have rc : RI (bmax a b) := by
    unfold bmax
    split
    · exact rb
    · exact ra
  refine va_mmax C.1 C.2.1 (by rw [C.2.2.1]; exact hl.1.symm) C.2.2.2.1 (C.2.2.2.2.1 _ hw) (C.2.2.2.2.1 _ hw2.1) (C.2.2.2.2.1 _ hw2.2) (C.2.2.2.2.1 _ tw_mmax) hfr (by rw [cat_sum]; exact hlo) C.2.2.2.2.2.2.2.2.2.1.1 C.2.2.2.2.2.2.2.2.2.1.2 hd ?_
  rw [← e1]
  exact kk p l e s m args below meth c dC dI cI cB ad A cells slots Qf C F H locs la w hl (ok_cons (show okv (vi _) from rc) (ok_tail (ok_tail ho)))
end EB
