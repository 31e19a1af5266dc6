section ER2
variable {M : MI} {SX : Option (Nat × (Nat → Int32))} {Q : Option MV → Mem → Prop} {pc : Nat} {ls : List (Option MV)} {st : List MV} {h : Mem}
theorem e_iadd {a b : Int} (hd : decode (mC M) pc = .ok (.iadd, 1)) (k : E M SX Q (pc + 1) ls (vi (wr (a + b)) :: st) h) : E M SX Q pc ls (vi b :: vi a :: st) h := by
  intro p l e s m args below meth c dC dI cI cB ad A cells slots Qf C F H locs la w hl ho
  have e1 : I3 (wr (a + b)) = I3 a + I3 b := (I3_wr _).trans (Int32.ofInt_add a b)
  have k' := k p l e s m args below meth c dC dI cI cB ad A cells slots Qf C F H locs la w hl (ok_cons (show RI _ from RI_wr _) (ok_tail (ok_tail ho)))
  refine lv_iadd C.1 C.2.1 hd ?_
  rw [← e1]
  exact k'
theorem e_isub {a b : Int} (hd : decode (mC M) pc = .ok (.isub, 1)) (k : E M SX Q (pc + 1) ls (vi (wr (a - b)) :: st) h) : E M SX Q pc ls (vi b :: vi a :: st) h := by
  intro p l e s m args below meth c dC dI cI cB ad A cells slots Qf C F H locs la w hl ho
  have e1 : I3 (wr (a - b)) = I3 a - I3 b := (I3_wr _).trans (Int32.ofInt_sub a b)
  have k' := k p l e s m args below meth c dC dI cI cB ad A cells slots Qf C F H locs la w hl (ok_cons (show RI _ from RI_wr _) (ok_tail (ok_tail ho)))
  refine lv_isub C.1 C.2.1 hd ?_
  rw [← e1]
  exact k'
theorem e_imul {a b : Int} (hd : decode (mC M) pc = .ok (.imul, 1)) (k : E M SX Q (pc + 1) ls (vi (wr (a * b)) :: st) h) : E M SX Q pc ls (vi b :: vi a :: st) h := by
  intro p l e s m args below meth c dC dI cI cB ad A cells slots Qf C F H locs la w hl ho
  have e1 : I3 (wr (a * b)) = I3 a * I3 b := (I3_wr _).trans (Int32.ofInt_mul a b)
  have k' := k p l e s m args below meth c dC dI cI cB ad A cells slots Qf C F H locs la w hl (ok_cons (show RI _ from RI_wr _) (ok_tail (ok_tail ho)))
  refine lv_imul C.1 C.2.1 hd ?_
  rw [← e1]
  exact k'
theorem e_iand {a b : Int} (hd : decode (mC M) pc = .ok (.iand, 1)) (k : E M SX Q (pc + 1) ls (vi (band a b) :: st) h) : E M SX Q pc ls (vi b :: vi a :: st) h := by
  intro p l e s m args below meth c dC dI cI cB ad A cells slots Qf C F H locs la w hl ho
  have e1 : I3 (band a b) = I3 a &&& I3 b := I3_toInt _
  have k' := k p l e s m args below meth c dC dI cI cB ad A cells slots Qf C F H locs la w hl (ok_cons (show RI _ from RI_toInt _) (ok_tail (ok_tail ho)))
  refine lv_iand C.1 C.2.1 hd ?_
  rw [← e1]
  exact k'
theorem e_ior {a b : Int} (hd : decode (mC M) pc = .ok (.ior, 1)) (k : E M SX Q (pc + 1) ls (vi (bor a b) :: st) h) : E M SX Q pc ls (vi b :: vi a :: st) h := by
  intro p l e s m args below meth c dC dI cI cB ad A cells slots Qf C F H locs la w hl ho
  have e1 : I3 (bor a b) = I3 a ||| I3 b := I3_toInt _
  have k' := k p l e s m args below meth c dC dI cI cB ad A cells slots Qf C F H locs la w hl (ok_cons (show RI _ from RI_toInt _) (ok_tail (ok_tail ho)))
  refine lv_ior C.1 C.2.1 hd ?_
  rw [← e1]
  exact k'
theorem e_ixor {a b : Int} (hd : decode (mC M) pc = .ok (.ixor, 1)) (k : E M SX Q (pc + 1) ls (vi (bxor a b) :: st) h) : E M SX Q pc ls (vi b :: vi a :: st) h := by
  intro p l e s m args below meth c dC dI cI cB ad A cells slots Qf C F H locs la w hl ho
  have e1 : I3 (bxor a b) = I3 a ^^^ I3 b := I3_toInt _
  have k' := k p l e s m args below meth c dC dI cI cB ad A cells slots Qf C F H locs la w hl (ok_cons (show RI _ from RI_toInt _) (ok_tail (ok_tail ho)))
  refine lv_ixor C.1 C.2.1 hd ?_
  rw [← e1]
  exact k'
theorem e_ishl {a b : Int} (hd : decode (mC M) pc = .ok (.ishl, 1)) (k : E M SX Q (pc + 1) ls (vi (bshl a b) :: st) h) : E M SX Q pc ls (vi b :: vi a :: st) h := by
  intro p l e s m args below meth c dC dI cI cB ad A cells slots Qf C F H locs la w hl ho
  have e1 : I3 (bshl a b) = I3 a <<< (I3 b &&& 31) := I3_toInt _
  have k' := k p l e s m args below meth c dC dI cI cB ad A cells slots Qf C F H locs la w hl (ok_cons (show RI _ from RI_toInt _) (ok_tail (ok_tail ho)))
  refine lv_ishl C.1 C.2.1 hd ?_
  rw [← e1]
  exact k'
theorem e_ishr {a b : Int} (hd : decode (mC M) pc = .ok (.ishr, 1)) (k : E M SX Q (pc + 1) ls (vi (bshr a b) :: st) h) : E M SX Q pc ls (vi b :: vi a :: st) h := by
  intro p l e s m args below meth c dC dI cI cB ad A cells slots Qf C F H locs la w hl ho
  have e1 : I3 (bshr a b) = I3 a >>> (I3 b &&& 31) := I3_toInt _
  have k' := k p l e s m args below meth c dC dI cI cB ad A cells slots Qf C F H locs la w hl (ok_cons (show RI _ from RI_toInt _) (ok_tail (ok_tail ho)))
  refine lv_ishr C.1 C.2.1 hd ?_
  rw [← e1]
  exact k'
theorem e_idiv {a b : Int} (hd : decode (mC M) pc = .ok (.idiv, 1)) (hne : ¬ b = 0) (k : E M SX Q (pc + 1) ls (vi (qdiv a b) :: st) h) : E M SX Q pc ls (vi b :: vi a :: st) h := by
  intro p l e s m args below meth c dC dI cI cB ad A cells slots Qf C F H locs la w hl ho
  have e1 : I3 (qdiv a b) = I3 a / I3 b := I3_toInt _
  have k' := k p l e s m args below meth c dC dI cI cB ad A cells slots Qf C F H locs la w hl (ok_cons (show RI _ from RI_toInt _) (ok_tail (ok_tail ho)))
  have hb0 : ¬ I3 b = 0 := fun q => hne ((I3_inj (ok_head ho) ⟨by decide, by decide⟩).mp q)
  refine lv_idiv C.1 C.2.1 hd hb0 ?_
  rw [← e1]
  exact k'
theorem e_irem {a b : Int} (hd : decode (mC M) pc = .ok (.irem, 1)) (hne : ¬ b = 0) (k : E M SX Q (pc + 1) ls (vi (qrem a b) :: st) h) : E M SX Q pc ls (vi b :: vi a :: st) h := by
  intro p l e s m args below meth c dC dI cI cB ad A cells slots Qf C F H locs la w hl ho
  have e1 : I3 (qrem a b) = I3 a - I3 a / I3 b * I3 b := I3_toInt _
  have k' := k p l e s m args below meth c dC dI cI cB ad A cells slots Qf C F H locs la w hl (ok_cons (show RI _ from RI_toInt _) (ok_tail (ok_tail ho)))
  have hb0 : ¬ I3 b = 0 := fun q => hne ((I3_inj (ok_head ho) ⟨by decide, by decide⟩).mp q)
  refine lv_irem C.1 C.2.1 hd hb0 ?_
  rw [← e1]
  exact k'
theorem e_ineg {a : Int} (hd : decode (mC M) pc = .ok (.ineg, 1)) (k : E M SX Q (pc + 1) ls (vi (wr (-a)) :: st) h) : E M SX Q pc ls (vi a :: st) h := by
  intro p l e s m args below meth c dC dI cI cB ad A cells slots Qf C F H locs la w hl ho
  have e1 : I3 (wr (-a)) = -I3 a := (I3_wr _).trans (Int32.ofInt_neg a)
  have k' := k p l e s m args below meth c dC dI cI cB ad A cells slots Qf C F H locs la w hl (ok_cons (show RI _ from RI_wr _) (ok_tail ho))
  refine lv_ineg C.1 C.2.1 hd ?_
  rw [← e1]
  exact k'
theorem e_ladd {a b : Int} (hd : decode (mC M) pc = .ok (.ladd, 1)) (k : E M SX Q (pc + 1) ls (vl (wl (a + b)) :: st) h) : E M SX Q pc ls (vl b :: vl a :: st) h := by
  intro p l e s m args below meth c dC dI cI cB ad A cells slots Qf C F H locs la w hl ho
  have e1 : I6 (wl (a + b)) = I6 a + I6 b := (I6_wl _).trans (Int64.ofInt_add a b)
  have k' := k p l e s m args below meth c dC dI cI cB ad A cells slots Qf C F H locs la w hl (ok_cons (show RL64 _ from RL_wl _) (ok_tail (ok_tail ho)))
  refine lv_ladd C.1 C.2.1 hd ?_
  rw [← e1]
  exact k'
theorem e_lsub {a b : Int} (hd : decode (mC M) pc = .ok (.lsub, 1)) (k : E M SX Q (pc + 1) ls (vl (wl (a - b)) :: st) h) : E M SX Q pc ls (vl b :: vl a :: st) h := by
  intro p l e s m args below meth c dC dI cI cB ad A cells slots Qf C F H locs la w hl ho
  have e1 : I6 (wl (a - b)) = I6 a - I6 b := (I6_wl _).trans (Int64.ofInt_sub a b)
  have k' := k p l e s m args below meth c dC dI cI cB ad A cells slots Qf C F H locs la w hl (ok_cons (show RL64 _ from RL_wl _) (ok_tail (ok_tail ho)))
  refine lv_lsub C.1 C.2.1 hd ?_
  rw [← e1]
  exact k'
theorem e_lmul {a b : Int} (hd : decode (mC M) pc = .ok (.lmul, 1)) (k : E M SX Q (pc + 1) ls (vl (wl (a * b)) :: st) h) : E M SX Q pc ls (vl b :: vl a :: st) h := by
  intro p l e s m args below meth c dC dI cI cB ad A cells slots Qf C F H locs la w hl ho
  have e1 : I6 (wl (a * b)) = I6 a * I6 b := (I6_wl _).trans (Int64.ofInt_mul a b)
  have k' := k p l e s m args below meth c dC dI cI cB ad A cells slots Qf C F H locs la w hl (ok_cons (show RL64 _ from RL_wl _) (ok_tail (ok_tail ho)))
  refine lv_lmul C.1 C.2.1 hd ?_
  rw [← e1]
  exact k'
theorem e_land {a b : Int} (hd : decode (mC M) pc = .ok (.land, 1)) (k : E M SX Q (pc + 1) ls (vl (land64 a b) :: st) h) : E M SX Q pc ls (vl b :: vl a :: st) h := by
  intro p l e s m args below meth c dC dI cI cB ad A cells slots Qf C F H locs la w hl ho
  have e1 : I6 (land64 a b) = I6 a &&& I6 b := I6_toInt _
  have k' := k p l e s m args below meth c dC dI cI cB ad A cells slots Qf C F H locs la w hl (ok_cons (show RL64 _ from RL_toInt _) (ok_tail (ok_tail ho)))
  refine lv_land C.1 C.2.1 hd ?_
  rw [← e1]
  exact k'
theorem e_lor {a b : Int} (hd : decode (mC M) pc = .ok (.lor, 1)) (k : E M SX Q (pc + 1) ls (vl (lor64 a b) :: st) h) : E M SX Q pc ls (vl b :: vl a :: st) h := by
  intro p l e s m args below meth c dC dI cI cB ad A cells slots Qf C F H locs la w hl ho
  have e1 : I6 (lor64 a b) = I6 a ||| I6 b := I6_toInt _
  have k' := k p l e s m args below meth c dC dI cI cB ad A cells slots Qf C F H locs la w hl (ok_cons (show RL64 _ from RL_toInt _) (ok_tail (ok_tail ho)))
  refine lv_lor C.1 C.2.1 hd ?_
  rw [← e1]
  exact k'
theorem e_lrem {a b : Int} (hd : decode (mC M) pc = .ok (.lrem, 1)) (hne : ¬ b = 0) (k : E M SX Q (pc + 1) ls (vl (lrem64 a b) :: st) h) : E M SX Q pc ls (vl b :: vl a :: st) h := by
  intro p l e s m args below meth c dC dI cI cB ad A cells slots Qf C F H locs la w hl ho
  have e1 : I6 (lrem64 a b) = I6 a - I6 a / I6 b * I6 b := I6_toInt _
  have k' := k p l e s m args below meth c dC dI cI cB ad A cells slots Qf C F H locs la w hl (ok_cons (show RL64 _ from RL_toInt _) (ok_tail (ok_tail ho)))
  have hb0 : ¬ I6 b = 0 := fun q => hne ((I6_inj (ok_head ho) ⟨by decide, by decide⟩).mp q)
  refine lv_lrem C.1 C.2.1 hd hb0 ?_
  rw [← e1]
  exact k'
theorem e_lshl {a b : Int} (hd : decode (mC M) pc = .ok (.lshl, 1)) (k : E M SX Q (pc + 1) ls (vl (lshl64 a b) :: st) h) : E M SX Q pc ls (vi b :: vl a :: st) h := by
  intro p l e s m args below meth c dC dI cI cB ad A cells slots Qf C F H locs la w hl ho
  have k' := k p l e s m args below meth c dC dI cI cB ad A cells slots Qf C F H locs la w hl (ok_cons (show RL64 _ from RL_toInt _) (ok_tail (ok_tail ho)))
  exact lv_lshl C.1 C.2.1 hd (I6_toInt _).symm k'
theorem e_lshr {a b : Int} (hd : decode (mC M) pc = .ok (.lshr, 1)) (k : E M SX Q (pc + 1) ls (vl (lshr64 a b) :: st) h) : E M SX Q pc ls (vi b :: vl a :: st) h := by
  intro p l e s m args below meth c dC dI cI cB ad A cells slots Qf C F H locs la w hl ho
  have k' := k p l e s m args below meth c dC dI cI cB ad A cells slots Qf C F H locs la w hl (ok_cons (show RL64 _ from RL_toInt _) (ok_tail (ok_tail ho)))
  exact lv_lshr C.1 C.2.1 hd (I6_toInt _).symm k'
theorem e_lushr {a b : Int} (hd : decode (mC M) pc = .ok (.lushr, 1)) (k : E M SX Q (pc + 1) ls (vl (lushr64 a b) :: st) h) : E M SX Q pc ls (vi b :: vl a :: st) h := by
  intro p l e s m args below meth c dC dI cI cB ad A cells slots Qf C F H locs la w hl ho
  have k' := k p l e s m args below meth c dC dI cI cB ad A cells slots Qf C F H locs la w hl (ok_cons (show RL64 _ from RL_toInt _) (ok_tail (ok_tail ho)))
  exact lv_lushr C.1 C.2.1 hd (I6_toInt _).symm k'
theorem e_i2l {a : Int} (hd : decode (mC M) pc = .ok (.i2l, 1)) (k : E M SX Q (pc + 1) ls (vl a :: st) h) : E M SX Q pc ls (vi a :: st) h := by
  intro p l e s m args below meth c dC dI cI cB ad A cells slots Qf C F H locs la w hl ho
  have hr : RI a := ok_head ho
  have k' := k p l e s m args below meth c dC dI cI cB ad A cells slots Qf C F H locs la w hl (ok_cons (show RL64 a from ⟨by have := hr.1; omega, by have := hr.2; omega⟩) (ok_tail ho))
  refine lv_i2l C.1 C.2.1 hd (v := I6 a) ?_ k'
  apply Int64.toInt_inj.mp
  rw [Int32.toInt_toInt64, toInt_I3 hr, toInt_I6 ⟨by have := hr.1; omega, by have := hr.2; omega⟩]
theorem e_l2i {a : Int} (hd : decode (mC M) pc = .ok (.l2i, 1)) (k : E M SX Q (pc + 1) ls (vi (I6 a).toInt32.toInt :: st) h) : E M SX Q pc ls (vl a :: st) h := by
  intro p l e s m args below meth c dC dI cI cB ad A cells slots Qf C F H locs la w hl ho
  have k2 := k p l e s m args below meth c dC dI cI cB ad A cells slots Qf C F H locs la w hl (ok_cons (show RI _ from RI_toInt _) (ok_tail ho))
  exact lv_l2i C.1 C.2.1 hd (I3_toInt _).symm k2
def biushr (a b : Int) : Int := ((I3 a).toUInt32 >>> ((I3 b).toUInt32 &&& Int32.toUInt32 31)).toInt32.toInt
theorem e_iushr {a b : Int} (hd : decode (mC M) pc = .ok (.iushr, 1)) (k : E M SX Q (pc + 1) ls (vi (biushr a b) :: st) h) : E M SX Q pc ls (vi b :: vi a :: st) h := by
  intro p l e s m args below meth c dC dI cI cB ad A cells slots Qf C F H locs la w hl ho
  have k2 := k p l e s m args below meth c dC dI cI cB ad A cells slots Qf C F H locs la w hl (ok_cons (show RI _ from RI_toInt _) (ok_tail (ok_tail ho)))
  exact lv_iushr C.1 C.2.1 hd (I3_toInt _).symm k2
theorem e_lcmp {a b : Int} (hd : decode (mC M) pc = .ok (.lcmp, 1)) (k : E M SX Q (pc + 1) ls (vi (lcmp64 a b) :: st) h) : E M SX Q pc ls (vl b :: vl a :: st) h := by
  intro p l e s m args below meth c dC dI cI cB ad A cells slots Qf C F H locs la w hl ho
  have hb : RL64 b := ok_head ho
  have ha : RL64 a := ok_head (ok_tail ho)
  have e1 : I3 (lcmp64 a b) = lg_cmp (I6 a) (I6 b) := by
    unfold lcmp64 lg_cmp
    have h1 : (I6 a > I6 b) ↔ b < a := I6_lt hb ha
    have h2 := I6_inj ha hb
    by_cases c1 : b < a
    · rw [if_pos (h1.mpr c1), if_neg (by omega), if_neg (by omega)]; rfl
    · rw [if_neg (fun q => c1 (h1.mp q))]
      by_cases c2 : a = b
      · rw [if_pos (h2.mpr c2), if_neg (by omega), if_pos c2]; rfl
      · rw [if_neg (fun q => c2 (h2.mp q)), if_pos (by omega)]; rfl
  have k' := k p l e s m args below meth c dC dI cI cB ad A cells slots Qf C F H locs la w hl (ok_cons (show RI _ by unfold lcmp64; split <;> (try split) <;> exact ⟨by decide, by decide⟩) (ok_tail (ok_tail ho)))
  refine W.lcmp C.1 C.2.1 hd ?_
  rw [← e1]
  exact k'
theorem e_ldc2 {own : String} {idx : Nat} {a : Int} (hd : decode (mC M) pc = .ok (.ldc2_w idx, 3)) (ho' : (mY M).cls = own) (hw : Cond.constantLong own idx (I6 a) ∈ TB) (ha : RL64 a) (k : E M SX Q (pc + 3) ls (vl a :: st) h) : E M SX Q pc ls st h := by
  intro p l e s m args below meth c dC dI cI cB ad A cells slots Qf C F H locs la w hl ho
  subst ho'
  exact lv_ldc2 C.1 C.2.1 C.2.2.2.1 (C.2.2.2.2.1 _ hw) hd (k p l e s m args below meth c dC dI cI cB ad A cells slots Qf C F H locs la w hl (ok_cons ha ho))
theorem e_ldcw {own : String} {idx : Nat} {a : Int} (hd : decode (mC M) pc = .ok (.ldc_w idx, 3)) (ho' : (mY M).cls = own) (hw : Cond.constant own idx (I3 a) ∈ TB) (ha : RI a) (k : E M SX Q (pc + 3) ls (vi a :: st) h) : E M SX Q pc ls st h := by
  intro p l e s m args below meth c dC dI cI cB ad A cells slots Qf C F H locs la w hl ho
  subst ho'
  exact lv_ldcw C.1 C.2.1 C.2.2.2.1 (C.2.2.2.2.1 _ hw) hd (k p l e s m args below meth c dC dI cI cB ad A cells slots Qf C F H locs la w hl (ok_cons ha ho))
theorem e_iload_n {q : Fin 4} {a : Int} (hd : decode (mC M) pc = .ok (.iload_n q, 1)) (hk : ls[(q : Nat)]? = some (some (vi a))) (k : E M SX Q (pc + 1) ls (vi a :: st) h) : E M SX Q pc ls st h := by
  intro p l e s m args below meth c dC dI cI cB ad A cells slots Qf C F H locs la w hl ho
  have hv := hl.2.2 _ _ hk
  exact lv_iload_n C.1 C.2.1 hd rfl hv.1 (k p l e s m args below meth c dC dI cI cB ad A cells slots Qf C F H locs la w hl (ok_cons hv.2 ho))
theorem e_iload {i : Nat} {a : Int} (hd : decode (mC M) pc = .ok (.iload i, 2)) (hk : ls[i]? = some (some (vi a))) (k : E M SX Q (pc + 2) ls (vi a :: st) h) : E M SX Q pc ls st h := by
  intro p l e s m args below meth c dC dI cI cB ad A cells slots Qf C F H locs la w hl ho
  have hv := hl.2.2 _ _ hk
  exact lv_iload C.1 C.2.1 hd hv.1 (k p l e s m args below meth c dC dI cI cB ad A cells slots Qf C F H locs la w hl (ok_cons hv.2 ho))
theorem e_lload_n {q : Fin 4} {a : Int} (hd : decode (mC M) pc = .ok (.lload_n q, 1)) (hk : ls[(q : Nat)]? = some (some (vl a))) (k : E M SX Q (pc + 1) ls (vl a :: st) h) : E M SX Q pc ls st h := by
  intro p l e s m args below meth c dC dI cI cB ad A cells slots Qf C F H locs la w hl ho
  have hv := hl.2.2 _ _ hk
  exact lv_lload_n C.1 C.2.1 hd rfl hv.1 (k p l e s m args below meth c dC dI cI cB ad A cells slots Qf C F H locs la w hl (ok_cons hv.2 ho))
theorem e_lload {i : Nat} {a : Int} (hd : decode (mC M) pc = .ok (.lload i, 2)) (hk : ls[i]? = some (some (vl a))) (k : E M SX Q (pc + 2) ls (vl a :: st) h) : E M SX Q pc ls st h := by
  intro p l e s m args below meth c dC dI cI cB ad A cells slots Qf C F H locs la w hl ho
  have hv := hl.2.2 _ _ hk
  exact lv_lload C.1 C.2.1 hd hv.1 (k p l e s m args below meth c dC dI cI cB ad A cells slots Qf C F H locs la w hl (ok_cons hv.2 ho))
theorem e_aload_n {q : Fin 4} {x : Nat} (hd : decode (mC M) pc = .ok (.aload_n q, 1)) (hk : ls[(q : Nat)]? = some (some (vr x))) (k : E M SX Q (pc + 1) ls (vr x :: st) h) : E M SX Q pc ls st h := by
  intro p l e s m args below meth c dC dI cI cB ad A cells slots Qf C F H locs la w hl ho
  have hv := hl.2.2 _ _ hk
  exact lv_aload_n C.1 C.2.1 hd rfl hv.1 (k p l e s m args below meth c dC dI cI cB ad A cells slots Qf C F H locs la w hl (ok_cons hv.2 ho))
theorem e_aload {i : Nat} {x : Nat} (hd : decode (mC M) pc = .ok (.aload i, 2)) (hk : ls[i]? = some (some (vr x))) (k : E M SX Q (pc + 2) ls (vr x :: st) h) : E M SX Q pc ls st h := by
  intro p l e s m args below meth c dC dI cI cB ad A cells slots Qf C F H locs la w hl ho
  have hv := hl.2.2 _ _ hk
  exact lv_aload C.1 C.2.1 hd hv.1 (k p l e s m args below meth c dC dI cI cB ad A cells slots Qf C F H locs la w hl (ok_cons hv.2 ho))
theorem e_aload_nN {q : Fin 4}  (hd : decode (mC M) pc = .ok (.aload_n q, 1)) (hk : ls[(q : Nat)]? = some (some (vn))) (k : E M SX Q (pc + 1) ls (vn :: st) h) : E M SX Q pc ls st h := by
  intro p l e s m args below meth c dC dI cI cB ad A cells slots Qf C F H locs la w hl ho
  have hv := hl.2.2 _ _ hk
  exact lv_aload_nN C.1 C.2.1 hd rfl hv.1 (k p l e s m args below meth c dC dI cI cB ad A cells slots Qf C F H locs la w hl (ok_cons hv.2 ho))
def lrl (ad : Nat → Nat) : Nat → List (Option MV) → List (Nat × Value)
  | _, [] => []
  | i, none :: r => lrl ad (i + 1) r
  | i, some v :: r => (i, tv ad v) :: lrl ad (i + 1) r
theorem lrl_in {ad : Nat → Nat} : ∀ {ls : List (Option MV)} {i : Nat} {q : Nat × Value}, q ∈ lrl ad i ls → ∃ (j : Nat) (v : MV), ls[j]? = some (some v) ∧ q = (i + j, tv ad v)
  | [], i, q, h => by simp [lrl] at h
  | none :: r, i, q, h => by
    obtain ⟨j, v, h1, h2⟩ := lrl_in (ls := r) (i := i + 1) h
    exact ⟨j + 1, v, by simpa using h1, by rw [h2, show i + 1 + j = i + (j + 1) by omega]⟩
  | some v :: r, i, q, h => by
    rcases List.mem_cons.mp h with rfl | h
    · exact ⟨0, v, by simp, by simp⟩
    · obtain ⟨j, v, h1, h2⟩ := lrl_in (ls := r) (i := i + 1) h
      exact ⟨j + 1, v, by simpa using h1, by rw [h2, show i + 1 + j = i + (j + 1) by omega]⟩
theorem lrl_mem {ad : Nat → Nat} : ∀ {ls : List (Option MV)} {i j : Nat} {v : MV}, ls[j]? = some (some v) → (i + j, tv ad v) ∈ lrl ad i ls
  | [], i, j, v, h => by simp at h
  | none :: r, i, 0, v, h => by simp at h
  | none :: r, i, j + 1, v, h => by
    have := lrl_mem (ad := ad) (ls := r) (i := i + 1) (j := j) (v := v) (by simpa using h)
    rw [show i + 1 + j = i + (j + 1) by omega] at this
    exact this
  | some x :: r, i, 0, v, h => by
    simp at h; subst h
    exact List.mem_cons_self
  | some x :: r, i, j + 1, v, h => by
    have := lrl_mem (ad := ad) (ls := r) (i := i + 1) (j := j) (v := v) (by simpa using h)
    rw [show i + 1 + j = i + (j + 1) by omega] at this
    exact List.mem_cons_of_mem _ this
theorem Lr.has {ad : Nat → Nat} {nL : Nat} {la : Array Slot} (hl : Lr ad nL ls la) : lv_has la nL (lrl ad 0 ls) := by
  refine ⟨hl.1, hl.2.1, fun q hq => ?_⟩
  obtain ⟨j, v, h1, rfl⟩ := lrl_in hq
  rw [Nat.zero_add]
  exact (hl.2.2 j v h1).1
/-- a long that a store into its second half undoes -/
def isLo : Option (Option MV) → Bool
  | some (some (.inr (.inl _))) => true
  | _ => false
def kil (i : Nat) (ls : List (Option MV)) : List (Option MV) := if i = 0 then ls else if isLo ls[i - 1]? then ls.set (i - 1) none else ls
def stL1 (i : Nat) (v : MV) (ls : List (Option MV)) : List (Option MV) := (kil i ls).set i (some v)
def stL2 (i : Nat) (v : MV) (ls : List (Option MV)) : List (Option MV) := ((kil i ls).set i (some v)).set (i + 1) none
theorem kil_get {i j : Nat} {v : MV} (h1 : (kil i ls)[j]? = some (some v)) : ls[j]? = some (some v) ∧ ¬ (j + 1 = i ∧ ∃ a, v = vl a) := by
  unfold kil at h1
  by_cases hi : i = 0
  · rw [if_pos hi] at h1
    exact ⟨h1, by omega⟩
  rw [if_neg hi] at h1
  by_cases hL : isLo ls[i - 1]? = true
  · rw [if_pos hL] at h1
    by_cases hj : j = i - 1
    · subst hj
      rw [List.getElem?_set] at h1
      split at h1
      · split at h1 <;> simp at h1
      · omega
    · rw [List.getElem?_set_ne (by omega)] at h1
      exact ⟨h1, by omega⟩
  · rw [if_neg hL] at h1
    refine ⟨h1, fun q => ?_⟩
    obtain ⟨q1, a, rfl⟩ := q
    have hj : i - 1 = j := by omega
    rw [hj, h1] at hL
    exact hL rfl
theorem cat_tv {ad : Nat → Nat} {v : MV} (hc : (tv ad v).category = 2) : ∃ a, v = vl a := by
  match v with
  | .inl a => simp [tv, Value.category] at hc
  | .inr (.inl a) => exact ⟨a, rfl⟩
  | .inr (.inr none) => simp [tv, Value.category] at hc
  | .inr (.inr (some k)) => simp [tv, Value.category] at hc
theorem Lr.st1 {ad : Nat → Nat} {nL i : Nat} {v : MV} {ls' : List (Option MV)} {la la' : Array Slot} (hl : Lr ad nL ls la) (hv : okv v) (he : stL1 i v ls = ls') (h1 : lv_has la' nL ((i, tv ad v) :: (lrl ad 0 ls).filter (fun q => !(q.1 == i) && !(q.1 + 1 == i && q.2.category == 2)))) : Lr ad nL ls' la' := by
  subst he
  refine ⟨h1.1, h1.2.1, fun j x hj => ?_⟩
  unfold stL1 at hj
  by_cases hji : j = i
  · subst hji
    rw [List.getElem?_set] at hj
    simp only [if_pos] at hj
    split at hj
    · have hx : v = x := by simpa using hj
      subst hx
      exact ⟨h1.2.2 _ List.mem_cons_self, hv⟩
    · simp at hj
  · rw [List.getElem?_set_ne (fun q => hji q.symm)] at hj
    obtain ⟨h2, h3⟩ := kil_get hj
    have h4 := hl.2.2 j x h2
    refine ⟨?_, h4.2⟩
    have h5 : (j, tv ad x) ∈ lrl ad 0 ls := by
      have := lrl_mem (ad := ad) (i := 0) h2
      rwa [Nat.zero_add] at this
    refine h1.2.2 (j, tv ad x) (List.mem_cons_of_mem _ (List.mem_filter.mpr ⟨h5, ?_⟩))
    simp only [Bool.and_eq_true, Bool.not_eq_true', beq_eq_false_iff_ne, ne_eq, Bool.and_eq_false_iff]
    refine ⟨hji, ?_⟩
    by_cases c1 : j + 1 = i
    · right
      intro c2
      exact h3 ⟨c1, cat_tv c2⟩
    · left
      exact c1
theorem Lr.st2 {ad : Nat → Nat} {nL i : Nat} {v : MV} {ls' : List (Option MV)} {la la' : Array Slot} (hl : Lr ad nL ls la) (hv : okv v) (he : stL2 i v ls = ls') (h1 : lv_has la' nL ((i, tv ad v) :: (lrl ad 0 ls).filter (fun q => !(q.1 == i) && (!(q.1 == i + 1) && !(q.1 + 1 == i && q.2.category == 2))))) : Lr ad nL ls' la' := by
  subst he
  refine ⟨h1.1, h1.2.1, fun j x hj => ?_⟩
  unfold stL2 at hj
  by_cases hj1 : j = i + 1
  · subst hj1
    rw [List.getElem?_set] at hj
    simp only [if_pos] at hj
    split at hj <;> simp at hj
  rw [List.getElem?_set_ne (fun q => hj1 q.symm)] at hj
  by_cases hji : j = i
  · subst hji
    rw [List.getElem?_set] at hj
    simp only [if_pos] at hj
    split at hj
    · have hx : v = x := by simpa using hj
      subst hx
      exact ⟨h1.2.2 _ List.mem_cons_self, hv⟩
    · simp at hj
  · rw [List.getElem?_set_ne (fun q => hji q.symm)] at hj
    obtain ⟨h2, h3⟩ := kil_get hj
    have h4 := hl.2.2 j x h2
    refine ⟨?_, h4.2⟩
    have h5 : (j, tv ad x) ∈ lrl ad 0 ls := by
      have := lrl_mem (ad := ad) (i := 0) h2
      rwa [Nat.zero_add] at this
    refine h1.2.2 (j, tv ad x) (List.mem_cons_of_mem _ (List.mem_filter.mpr ⟨h5, ?_⟩))
    simp only [Bool.and_eq_true, Bool.not_eq_true', beq_eq_false_iff_ne, ne_eq, Bool.and_eq_false_iff]
    refine ⟨hji, hj1, ?_⟩
    by_cases c1 : j + 1 = i
    · right
      intro c2
      exact h3 ⟨c1, cat_tv c2⟩
    · left
      exact c1
theorem e_istore_n {q : Fin 4} {a : Int} {ls' : List (Option MV)} (hd : decode (mC M) pc = .ok (.istore_n q, 1)) (hi : (q : Nat) < mL M) (he : stL1 (q : Nat) (vi a) ls = ls') (k : E M SX Q (pc + 1) ls' st h) : E M SX Q pc ls (vi a :: st) h := by
  intro p l e s m args below meth c dC dI cI cB ad A cells slots Qf C F H locs la w hl ho
  exact lv_istore_n C.1 C.2.1 hd rfl hl.has hi rfl (fun la' h1 => k p l e s m args below meth c dC dI cI cB ad A cells slots Qf C F H locs la' w (hl.st1 (ok_head ho) he h1) (ok_tail ho))
theorem e_istore {i : Nat} {a : Int} {ls' : List (Option MV)} (hd : decode (mC M) pc = .ok (.istore i, 2)) (hi : i < mL M) (he : stL1 i (vi a) ls = ls') (k : E M SX Q (pc + 2) ls' st h) : E M SX Q pc ls (vi a :: st) h := by
  intro p l e s m args below meth c dC dI cI cB ad A cells slots Qf C F H locs la w hl ho
  exact lv_istore C.1 C.2.1 hd hl.has hi rfl (fun la' h1 => k p l e s m args below meth c dC dI cI cB ad A cells slots Qf C F H locs la' w (hl.st1 (ok_head ho) he h1) (ok_tail ho))
theorem e_lstore_n {q : Fin 4} {a : Int} {ls' : List (Option MV)} (hd : decode (mC M) pc = .ok (.lstore_n q, 1)) (hi : (q : Nat) + 1 < mL M) (he : stL2 (q : Nat) (vl a) ls = ls') (k : E M SX Q (pc + 1) ls' st h) : E M SX Q pc ls (vl a :: st) h := by
  intro p l e s m args below meth c dC dI cI cB ad A cells slots Qf C F H locs la w hl ho
  exact lv_lstore_n C.1 C.2.1 hd rfl hl.has hi rfl (fun la' h1 => k p l e s m args below meth c dC dI cI cB ad A cells slots Qf C F H locs la' w (hl.st2 (ok_head ho) he h1) (ok_tail ho))
theorem e_lstore {i : Nat} {a : Int} {ls' : List (Option MV)} (hd : decode (mC M) pc = .ok (.lstore i, 2)) (hi : i + 1 < mL M) (he : stL2 i (vl a) ls = ls') (k : E M SX Q (pc + 2) ls' st h) : E M SX Q pc ls (vl a :: st) h := by
  intro p l e s m args below meth c dC dI cI cB ad A cells slots Qf C F H locs la w hl ho
  exact lv_lstore C.1 C.2.1 hd hl.has hi rfl (fun la' h1 => k p l e s m args below meth c dC dI cI cB ad A cells slots Qf C F H locs la' w (hl.st2 (ok_head ho) he h1) (ok_tail ho))
theorem e_astore_n {q : Fin 4} {x : Nat} {ls' : List (Option MV)} (hd : decode (mC M) pc = .ok (.astore_n q, 1)) (hi : (q : Nat) < mL M) (he : stL1 (q : Nat) (vr x) ls = ls') (k : E M SX Q (pc + 1) ls' st h) : E M SX Q pc ls (vr x :: st) h := by
  intro p l e s m args below meth c dC dI cI cB ad A cells slots Qf C F H locs la w hl ho
  exact lv_astore_n C.1 C.2.1 hd rfl hl.has hi rfl (fun la' h1 => k p l e s m args below meth c dC dI cI cB ad A cells slots Qf C F H locs la' w (hl.st1 (ok_head ho) he h1) (ok_tail ho))
theorem e_astore {i : Nat} {x : Nat} {ls' : List (Option MV)} (hd : decode (mC M) pc = .ok (.astore i, 2)) (hi : i < mL M) (he : stL1 i (vr x) ls = ls') (k : E M SX Q (pc + 2) ls' st h) : E M SX Q pc ls (vr x :: st) h := by
  intro p l e s m args below meth c dC dI cI cB ad A cells slots Qf C F H locs la w hl ho
  exact lv_astore C.1 C.2.1 hd hl.has hi rfl (fun la' h1 => k p l e s m args below meth c dC dI cI cB ad A cells slots Qf C F H locs la' w (hl.st1 (ok_head ho) he h1) (ok_tail ho))
theorem e_astore_nN {q : Fin 4}  {ls' : List (Option MV)} (hd : decode (mC M) pc = .ok (.astore_n q, 1)) (hi : (q : Nat) < mL M) (he : stL1 (q : Nat) (vn) ls = ls') (k : E M SX Q (pc + 1) ls' st h) : E M SX Q pc ls (vn :: st) h := by
  intro p l e s m args below meth c dC dI cI cB ad A cells slots Qf C F H locs la w hl ho
  exact lv_astore_nN C.1 C.2.1 hd rfl hl.has hi rfl (fun la' h1 => k p l e s m args below meth c dC dI cI cB ad A cells slots Qf C F H locs la' w (hl.st1 (ok_head ho) he h1) (ok_tail ho))
theorem e_iinc {i : Nat} {n a : Int} {ls' : List (Option MV)} (hd : decode (mC M) pc = .ok (.iinc i n, 3)) (hk : ls[i]? = some (some (vi a))) (hi : i < mL M) (he : stL1 i (vi (wr (a + n))) ls = ls') (k : E M SX Q (pc + 3) ls' st h) : E M SX Q pc ls st h := by
  intro p l e s m args below meth c dC dI cI cB ad A cells slots Qf C F H locs la w hl ho
  have h5 : (i, Value.int (I3 a)) ∈ lrl ad 0 ls := by
    have := lrl_mem (ad := ad) (i := 0) hk
    rwa [Nat.zero_add] at this
  obtain ⟨j, hj⟩ := List.getElem?_of_mem h5
  have e1 : I3 a + Int32.ofInt n = I3 (wr (a + n)) := ((I3_wr _).trans (Int32.ofInt_add a n)).symm
  exact lv_iinc C.1 C.2.1 hd hl.has hj e1 hi rfl (fun la' h1 => k p l e s m args below meth c dC dI cI cB ad A cells slots Qf C F H locs la' w (hl.st1 (show okv (vi _) from RI_wr _) he h1) ho)
theorem e_weak (ls' : List (Option MV)) (hs : ∀ (i : Nat) (v : MV), ls'[i]? = some (some v) → ls[i]? = some (some v)) (k : E M SX Q pc ls' st h) : E M SX Q pc ls st h := by
  intro p l e s m args below meth c dC dI cI cB ad A cells slots Qf C F H locs la w hl ho
  exact k p l e s m args below meth c dC dI cI cB ad A cells slots Qf C F H locs la w ⟨hl.1, hl.2.1, fun i v q => hl.2.2 i v (hs i v q)⟩ ho
theorem cat_int {ad : Nat → Nat} (a : Int) : (tv ad (vi a)).category = 1 := rfl
theorem e_dup {v : MV} (hd : decode (mC M) pc = .ok (.dup, 1)) (hc : ∀ ad, (tv ad v).category = 1) (k : E M SX Q (pc + 1) ls (v :: v :: st) h) : E M SX Q pc ls (v :: st) h := by
  intro p l e s m args below meth c dC dI cI cB ad A cells slots Qf C F H locs la w hl ho
  exact lv_dup C.1 C.2.1 hd (hc ad) (k p l e s m args below meth c dC dI cI cB ad A cells slots Qf C F H locs la w hl (ok_cons (ok_head ho) ho))
theorem e_pop {v : MV} (hd : decode (mC M) pc = .ok (.pop, 1)) (hc : ∀ ad, (tv ad v).category = 1) (k : E M SX Q (pc + 1) ls st h) : E M SX Q pc ls (v :: st) h := by
  intro p l e s m args below meth c dC dI cI cB ad A cells slots Qf C F H locs la w hl ho
  exact lv_pop C.1 C.2.1 hd (hc ad) (k p l e s m args below meth c dC dI cI cB ad A cells slots Qf C F H locs la w hl (ok_tail ho))
theorem e_dup2 {v u : MV} (hd : decode (mC M) pc = .ok (.dup2, 1)) (hc : ∀ ad, (tv ad v).category = 1) (hc2 : ∀ ad, (tv ad u).category = 1) (k : E M SX Q (pc + 1) ls (v :: u :: v :: u :: st) h) : E M SX Q pc ls (v :: u :: st) h := by
  intro p l e s m args below meth c dC dI cI cB ad A cells slots Qf C F H locs la w hl ho
  exact lv_dup2_11 C.1 C.2.1 hd (hc ad) (hc2 ad) (k p l e s m args below meth c dC dI cI cB ad A cells slots Qf C F H locs la w hl (ok_cons (ok_head ho) (ok_cons (ok_head (ok_tail ho)) ho)))
theorem e_goto {off : Int} {tgt : Nat} (hd : decode (mC M) pc = .ok (.goto off, 3)) (ht : (pc : Int) + off = (tgt : Int)) (k : E M SX Q tgt ls st h) : E M SX Q pc ls st h := by
  intro p l e s m args below meth c dC dI cI cB ad A cells slots Qf C F H locs la w hl ho
  exact lv_goto C.1 C.2.1 hd ht (k p l e s m args below meth c dC dI cI cB ad A cells slots Qf C F H locs la w hl ho)
theorem e_null (hd : decode (mC M) pc = .ok (.aconst_null, 1)) (k : E M SX Q (pc + 1) ls (vn :: st) h) : E M SX Q pc ls st h := by
  intro p l e s m args below meth c dC dI cI cB ad A cells slots Qf C F H locs la w hl ho
  exact lv_null C.1 C.2.1 hd (k p l e s m args below meth c dC dI cI cB ad A cells slots Qf C F H locs la w hl (ok_cons (show okv vn from trivial) ho))
theorem e_ifnonnull {x : Nat} {off : Int} {tgt : Nat} (hd : decode (mC M) pc = .ok (.ifnonnull off, 3)) (ht : (pc : Int) + off = (tgt : Int)) (k : E M SX Q tgt ls st h) : E M SX Q pc ls (vr x :: st) h := by
  intro p l e s m args below meth c dC dI cI cB ad A cells slots Qf C F H locs la w hl ho
  exact lv_ifnonnull C.1 C.2.1 hd ht (k p l e s m args below meth c dC dI cI cB ad A cells slots Qf C F H locs la w hl (ok_tail ho))
theorem e_ifnonnullN {off : Int} (hd : decode (mC M) pc = .ok (.ifnonnull off, 3)) (k : E M SX Q (pc + 3) ls st h) : E M SX Q pc ls (vn :: st) h := by
  intro p l e s m args below meth c dC dI cI cB ad A cells slots Qf C F H locs la w hl ho
  exact lv_ifnonnullN C.1 C.2.1 hd (k p l e s m args below meth c dC dI cI cB ad A cells slots Qf C F H locs la w hl (ok_tail ho))
theorem e_if_eq {a : Int} {off : Int} {tgt : Nat} (hd : decode (mC M) pc = .ok (.ifCond .eq off, 3)) (ht : (pc : Int) + off = (tgt : Int)) (kt : a = 0 → E M SX Q tgt ls st h) (kf : ¬ a = 0 → E M SX Q (pc + 3) ls st h) : E M SX Q pc ls (vi a :: st) h := by
  intro p l e s m args below meth c dC dI cI cB ad A cells slots Qf C F H locs la w hl ho
  have E0 := z_eq (ok_head ho)
  exact lv_if_eq C.1 C.2.1 hd ht (fun q => kt (E0.mp q) p l e s m args below meth c dC dI cI cB ad A cells slots Qf C F H locs la w hl (ok_tail ho)) (fun q => kf (fun z => q (E0.mpr z)) p l e s m args below meth c dC dI cI cB ad A cells slots Qf C F H locs la w hl (ok_tail ho))
theorem e_icmp_eq {a b : Int} {off : Int} {tgt : Nat} (hd : decode (mC M) pc = .ok (.if_icmp .eq off, 3)) (ht : (pc : Int) + off = (tgt : Int)) (kt : a = b → E M SX Q tgt ls st h) (kf : ¬ a = b → E M SX Q (pc + 3) ls st h) : E M SX Q pc ls (vi b :: vi a :: st) h := by
  intro p l e s m args below meth c dC dI cI cB ad A cells slots Qf C F H locs la w hl ho
  have E0 := I3_inj (ok_head (ok_tail ho)) (ok_head ho)
  exact lv_icmp_eq C.1 C.2.1 hd ht (fun q => kt (E0.mp q) p l e s m args below meth c dC dI cI cB ad A cells slots Qf C F H locs la w hl (ok_tail (ok_tail ho))) (fun q => kf (fun z => q (E0.mpr z)) p l e s m args below meth c dC dI cI cB ad A cells slots Qf C F H locs la w hl (ok_tail (ok_tail ho)))
theorem e_if_ne {a : Int} {off : Int} {tgt : Nat} (hd : decode (mC M) pc = .ok (.ifCond .ne off, 3)) (ht : (pc : Int) + off = (tgt : Int)) (kt : ¬ a = 0 → E M SX Q tgt ls st h) (kf : a = 0 → E M SX Q (pc + 3) ls st h) : E M SX Q pc ls (vi a :: st) h := by
  intro p l e s m args below meth c dC dI cI cB ad A cells slots Qf C F H locs la w hl ho
  have E0 := not_congr (z_eq (ok_head ho))
  exact lv_if_ne C.1 C.2.1 hd ht (fun q => kt (E0.mp q) p l e s m args below meth c dC dI cI cB ad A cells slots Qf C F H locs la w hl (ok_tail ho)) (fun q => kf ((z_eq (ok_head ho)).mp q) p l e s m args below meth c dC dI cI cB ad A cells slots Qf C F H locs la w hl (ok_tail ho))
theorem e_icmp_ne {a b : Int} {off : Int} {tgt : Nat} (hd : decode (mC M) pc = .ok (.if_icmp .ne off, 3)) (ht : (pc : Int) + off = (tgt : Int)) (kt : ¬ a = b → E M SX Q tgt ls st h) (kf : a = b → E M SX Q (pc + 3) ls st h) : E M SX Q pc ls (vi b :: vi a :: st) h := by
  intro p l e s m args below meth c dC dI cI cB ad A cells slots Qf C F H locs la w hl ho
  have E0 := not_congr (I3_inj (ok_head (ok_tail ho)) (ok_head ho))
  exact lv_icmp_ne C.1 C.2.1 hd ht (fun q => kt (E0.mp q) p l e s m args below meth c dC dI cI cB ad A cells slots Qf C F H locs la w hl (ok_tail (ok_tail ho))) (fun q => kf ((I3_inj (ok_head (ok_tail ho)) (ok_head ho)).mp q) p l e s m args below meth c dC dI cI cB ad A cells slots Qf C F H locs la w hl (ok_tail (ok_tail ho)))
theorem e_if_lt {a : Int} {off : Int} {tgt : Nat} (hd : decode (mC M) pc = .ok (.ifCond .lt off, 3)) (ht : (pc : Int) + off = (tgt : Int)) (kt : a < 0 → E M SX Q tgt ls st h) (kf : ¬ a < 0 → E M SX Q (pc + 3) ls st h) : E M SX Q pc ls (vi a :: st) h := by
  intro p l e s m args below meth c dC dI cI cB ad A cells slots Qf C F H locs la w hl ho
  have E0 := z_lt (ok_head ho)
  exact lv_if_lt C.1 C.2.1 hd ht (fun q => kt (E0.mp q) p l e s m args below meth c dC dI cI cB ad A cells slots Qf C F H locs la w hl (ok_tail ho)) (fun q => kf (fun z => q (E0.mpr z)) p l e s m args below meth c dC dI cI cB ad A cells slots Qf C F H locs la w hl (ok_tail ho))
theorem e_icmp_lt {a b : Int} {off : Int} {tgt : Nat} (hd : decode (mC M) pc = .ok (.if_icmp .lt off, 3)) (ht : (pc : Int) + off = (tgt : Int)) (kt : a < b → E M SX Q tgt ls st h) (kf : ¬ a < b → E M SX Q (pc + 3) ls st h) : E M SX Q pc ls (vi b :: vi a :: st) h := by
  intro p l e s m args below meth c dC dI cI cB ad A cells slots Qf C F H locs la w hl ho
  have E0 := I3_lt (ok_head (ok_tail ho)) (ok_head ho)
  exact lv_icmp_lt C.1 C.2.1 hd ht (fun q => kt (E0.mp q) p l e s m args below meth c dC dI cI cB ad A cells slots Qf C F H locs la w hl (ok_tail (ok_tail ho))) (fun q => kf (fun z => q (E0.mpr z)) p l e s m args below meth c dC dI cI cB ad A cells slots Qf C F H locs la w hl (ok_tail (ok_tail ho)))
theorem e_if_ge {a : Int} {off : Int} {tgt : Nat} (hd : decode (mC M) pc = .ok (.ifCond .ge off, 3)) (ht : (pc : Int) + off = (tgt : Int)) (kt : 0 ≤ a → E M SX Q tgt ls st h) (kf : ¬ 0 ≤ a → E M SX Q (pc + 3) ls st h) : E M SX Q pc ls (vi a :: st) h := by
  intro p l e s m args below meth c dC dI cI cB ad A cells slots Qf C F H locs la w hl ho
  have E0 := z_ge (ok_head ho)
  exact lv_if_ge C.1 C.2.1 hd ht (fun q => kt (E0.mp q) p l e s m args below meth c dC dI cI cB ad A cells slots Qf C F H locs la w hl (ok_tail ho)) (fun q => kf (fun z => q (E0.mpr z)) p l e s m args below meth c dC dI cI cB ad A cells slots Qf C F H locs la w hl (ok_tail ho))
theorem e_icmp_ge {a b : Int} {off : Int} {tgt : Nat} (hd : decode (mC M) pc = .ok (.if_icmp .ge off, 3)) (ht : (pc : Int) + off = (tgt : Int)) (kt : b ≤ a → E M SX Q tgt ls st h) (kf : ¬ b ≤ a → E M SX Q (pc + 3) ls st h) : E M SX Q pc ls (vi b :: vi a :: st) h := by
  intro p l e s m args below meth c dC dI cI cB ad A cells slots Qf C F H locs la w hl ho
  have E0 := I3_le (ok_head ho) (ok_head (ok_tail ho))
  exact lv_icmp_ge C.1 C.2.1 hd ht (fun q => kt (E0.mp q) p l e s m args below meth c dC dI cI cB ad A cells slots Qf C F H locs la w hl (ok_tail (ok_tail ho))) (fun q => kf (fun z => q (E0.mpr z)) p l e s m args below meth c dC dI cI cB ad A cells slots Qf C F H locs la w hl (ok_tail (ok_tail ho)))
theorem e_if_gt {a : Int} {off : Int} {tgt : Nat} (hd : decode (mC M) pc = .ok (.ifCond .gt off, 3)) (ht : (pc : Int) + off = (tgt : Int)) (kt : 0 < a → E M SX Q tgt ls st h) (kf : ¬ 0 < a → E M SX Q (pc + 3) ls st h) : E M SX Q pc ls (vi a :: st) h := by
  intro p l e s m args below meth c dC dI cI cB ad A cells slots Qf C F H locs la w hl ho
  have E0 := z_gt (ok_head ho)
  exact lv_if_gt C.1 C.2.1 hd ht (fun q => kt (E0.mp q) p l e s m args below meth c dC dI cI cB ad A cells slots Qf C F H locs la w hl (ok_tail ho)) (fun q => kf (fun z => q (E0.mpr z)) p l e s m args below meth c dC dI cI cB ad A cells slots Qf C F H locs la w hl (ok_tail ho))
theorem e_icmp_gt {a b : Int} {off : Int} {tgt : Nat} (hd : decode (mC M) pc = .ok (.if_icmp .gt off, 3)) (ht : (pc : Int) + off = (tgt : Int)) (kt : b < a → E M SX Q tgt ls st h) (kf : ¬ b < a → E M SX Q (pc + 3) ls st h) : E M SX Q pc ls (vi b :: vi a :: st) h := by
  intro p l e s m args below meth c dC dI cI cB ad A cells slots Qf C F H locs la w hl ho
  have E0 := I3_lt (ok_head ho) (ok_head (ok_tail ho))
  exact lv_icmp_gt C.1 C.2.1 hd ht (fun q => kt (E0.mp q) p l e s m args below meth c dC dI cI cB ad A cells slots Qf C F H locs la w hl (ok_tail (ok_tail ho))) (fun q => kf (fun z => q (E0.mpr z)) p l e s m args below meth c dC dI cI cB ad A cells slots Qf C F H locs la w hl (ok_tail (ok_tail ho)))
theorem e_if_le {a : Int} {off : Int} {tgt : Nat} (hd : decode (mC M) pc = .ok (.ifCond .le off, 3)) (ht : (pc : Int) + off = (tgt : Int)) (kt : a ≤ 0 → E M SX Q tgt ls st h) (kf : ¬ a ≤ 0 → E M SX Q (pc + 3) ls st h) : E M SX Q pc ls (vi a :: st) h := by
  intro p l e s m args below meth c dC dI cI cB ad A cells slots Qf C F H locs la w hl ho
  have E0 := z_le (ok_head ho)
  exact lv_if_le C.1 C.2.1 hd ht (fun q => kt (E0.mp q) p l e s m args below meth c dC dI cI cB ad A cells slots Qf C F H locs la w hl (ok_tail ho)) (fun q => kf (fun z => q (E0.mpr z)) p l e s m args below meth c dC dI cI cB ad A cells slots Qf C F H locs la w hl (ok_tail ho))
theorem e_icmp_le {a b : Int} {off : Int} {tgt : Nat} (hd : decode (mC M) pc = .ok (.if_icmp .le off, 3)) (ht : (pc : Int) + off = (tgt : Int)) (kt : a ≤ b → E M SX Q tgt ls st h) (kf : ¬ a ≤ b → E M SX Q (pc + 3) ls st h) : E M SX Q pc ls (vi b :: vi a :: st) h := by
  intro p l e s m args below meth c dC dI cI cB ad A cells slots Qf C F H locs la w hl ho
  have E0 := I3_le (ok_head (ok_tail ho)) (ok_head ho)
  exact lv_icmp_le C.1 C.2.1 hd ht (fun q => kt (E0.mp q) p l e s m args below meth c dC dI cI cB ad A cells slots Qf C F H locs la w hl (ok_tail (ok_tail ho))) (fun q => kf (fun z => q (E0.mpr z)) p l e s m args below meth c dC dI cI cB ad A cells slots Qf C F H locs la w hl (ok_tail (ok_tail ho)))
theorem e_tswOut {a dflt lo hi : Int} {offs : Array Int} {len tgt : Nat} (hd : decode (mC M) pc = .ok (.tableswitch dflt lo hi offs, len)) (hc : a < lo ∨ hi < a) (ht : (pc : Int) + dflt = (tgt : Int)) (k : E M SX Q tgt ls st h) : E M SX Q pc ls (vi a :: st) h := by
  intro p l e s m args below meth c dC dI cI cB ad A cells slots Qf C F H locs la w hl ho
  exact lv_tableOut C.1 C.2.1 hd (by rw [toInt_I3 (ok_head ho)]; exact hc) ht (k p l e s m args below meth c dC dI cI cB ad A cells slots Qf C F H locs la w hl (ok_tail ho))
theorem e_tswIn {a dflt lo hi off : Int} {offs : Array Int} {len tgt : Nat} (hd : decode (mC M) pc = .ok (.tableswitch dflt lo hi offs, len)) (h1 : ¬ a < lo) (h2 : ¬ hi < a) (hoff : offs[(a - lo).toNat]? = some off) (ht : (pc : Int) + off = (tgt : Int)) (k : E M SX Q tgt ls st h) : E M SX Q pc ls (vi a :: st) h := by
  intro p l e s m args below meth c dC dI cI cB ad A cells slots Qf C F H locs la w hl ho
  exact lv_tableIn C.1 C.2.1 hd (by rw [toInt_I3 (ok_head ho)]; exact h1) (by rw [toInt_I3 (ok_head ho)]; exact h2) (by rw [toInt_I3 (ok_head ho)]; exact hoff) ht (k p l e s m args below meth c dC dI cI cB ad A cells slots Qf C F H locs la w hl (ok_tail ho))
theorem e_lsw {a dflt off : Int} {ps : Array (Int × Int)} {len tgt : Nat} (hd : decode (mC M) pc = .ok (.lookupswitch dflt ps, len)) (hp : (ps.toList.zip (ps.toList.drop 1)).all (fun (a, next) => a.1 < next.1) = true) (hoff : Op.lookupswitch.offset ps.toList dflt a = off) (ht : (pc : Int) + off = (tgt : Int)) (k : E M SX Q tgt ls st h) : E M SX Q pc ls (vi a :: st) h := by
  intro p l e s m args below meth c dC dI cI cB ad A cells slots Qf C F H locs la w hl ho
  exact lv_lookup C.1 C.2.1 hd hp (by rw [toInt_I3 (ok_head ho)]; exact hoff) ht (k p l e s m args below meth c dC dI cI cB ad A cells slots Qf C F H locs la w hl (ok_tail ho))
end ER2
