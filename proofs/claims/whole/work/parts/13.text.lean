abbrev m_X5_isFull : MI := (yX5_isFull, cX5_isFull, 1, some .boolean, { frames := 0, cells := 0, slots := 0, locals := 0 })
def p_X5_isFull (h : Mem)   : Option (Int) :=
  if h 1 1 < 48 then (some 0) else (some 1)
set_option maxRecDepth 20000 in
theorem q_X5_isFull (h : Mem)    {X : Int} (hf : p_X5_isFull h   = some X) : Cn m_X5_isFull [vr 1] h (fun r h' => r = some (vi X) ∧ h' = h) := by
  unfold p_X5_isFull at hf
  have key : E m_X5_isFull none (fun r h' => r = some (vi X) ∧ h' = h) 0 [some (vr 1)] [] h := by
    refine e_aload_n dX5_isFull_0 rfl ?_
    refine e_getI (kz := 1) rfl dX5_isFull_1 rfl fl_30 rfl rfl (Or.inl rfl) ?_
    refine e_bipush dX5_isFull_4 ⟨by decide, by decide, by decide⟩ ?_
    refine e_icmp_lt (tgt := 13) dX5_isFull_6 (by decide) (fun c6 => ?_) (fun c6 => ?_)
    · replace hf := ifp hf c6
      refine e_iconst dX5_isFull_13 ⟨by decide, by decide⟩ ?_
      obtain rfl := Option.some.inj hf
      exact e_zreturn dX5_isFull_14 rfl (by decide) ⟨rfl, rfl⟩
    · replace hf := ifn hf c6
      refine e_iconst dX5_isFull_9 ⟨by decide, by decide⟩ ?_
      refine e_goto (tgt := 14) dX5_isFull_10 (by decide) ?_
      obtain rfl := Option.some.inj hf
      exact e_zreturn dX5_isFull_14 rfl (by decide) ⟨rfl, rfl⟩
  exact Cn_of rfl (fun _ => Nat.le_of_ble_eq_true rfl) ⟨rfl, rfl⟩ (e_pad 0 key)
theorem lk_243 : VLk "StarRight$Text" 19 m_X5_isFull 0 := ⟨tw_243, tw_236, tw_237, tw_2, tw_238, by decide +kernel⟩
abbrev m_X5_add : MI := (yX5_add, cX5_add, 2, some .int, { frames := 1, cells := 0, slots := 0, locals := 20 })
def p_X5_add_27  (h : Mem)    : Option (Int × Mem) :=
  some (h 1 1, h)
set_option maxRecDepth 20000 in
theorem q_X5_add_27  (h : Mem)      {X : Int × Mem}  (hf : p_X5_add_27  h    = some X) : E m_X5_add none (fun r h' => r = some (vi X.1) ∧ h' = X.2) 27 [some (vr 1), none] [] h := by
  unfold p_X5_add_27 at hf
  refine e_aload_n dX5_add_27 rfl ?_
  refine e_getI (kz := 1) rfl dX5_add_28 rfl fl_30 rfl rfl (Or.inl rfl) ?_
  obtain rfl := Option.some.inj hf
  exact e_ireturn dX5_add_31 rfl ⟨rfl, rfl⟩
def p_X5_add (h : Mem)  (l1 : Int) : Option (Int × Mem) :=
  bd (p_X5_isFull h ) (fun r1 => if r1 = 0 then (gd (0 ≤ h 1 1 ∧ h 1 1 < 48) (p_X5_add_27  (up (up h 2 (h 1 1) l1) 1 1 (wr (((up h 2 (h 1 1) l1) 1 1) + 1)))   )) else (p_X5_add_27  h   ))
set_option maxRecDepth 20000 in
theorem q_X5_add (h : Mem)   (l1 : Int) {X : Int × Mem} (hf : p_X5_add h  l1 = some X) : Cn m_X5_add [vr 1, vi l1] h (fun r h' => r = some (vi X.1) ∧ h' = X.2) := by
  unfold p_X5_add at hf
  have key : E m_X5_add none (fun r h' => r = some (vi X.1) ∧ h' = X.2) 0 [some (vr 1), some (vi l1)] [] h := by
    refine e_aload_n dX5_add_0 rfl ?_
    obtain ⟨r1, e1, hf⟩ := bd_some hf
    refine e_callV0i dX5_add_1 rfl lk_243 ⟨rfl, rfl, Nat.le_of_ble_eq_true rfl, Nat.le_of_ble_eq_true rfl⟩ rfl rfl (Nat.le_of_ble_eq_true rfl) (q_X5_isFull h    e1) ?_
    refine e_if_ne (tgt := 27) dX5_add_4 (by decide) (fun c4 => ?_) (fun c4 => ?_)
    · replace hf := ifn hf c4
      exact e_mask [true, false] (q_X5_add_27  h       hf)
    · replace hf := ifp hf c4
      refine e_aload_n dX5_add_7 rfl ?_
      refine e_getR dX5_add_8 rfl fl_29 rfl rfl ?_
      refine e_aload_n dX5_add_11 rfl ?_
      refine e_getI (kz := 1) rfl dX5_add_12 rfl fl_30 rfl rfl (Or.inl rfl) ?_
      refine e_iload_n dX5_add_15 rfl ?_
      obtain ⟨g16, hf⟩ := gd_some hf
      refine e_iast dX5_add_16 rfl g16 ?_
      refine e_aload_n dX5_add_17 rfl ?_
      refine e_dup dX5_add_18 (fun _ => rfl) ?_
      refine e_getI (kz := 1) rfl dX5_add_19 rfl fl_30 rfl rfl (Or.inl rfl) ?_
      refine e_iconst dX5_add_22 ⟨by decide, by decide⟩ ?_
      refine e_iadd dX5_add_23 ?_
      refine e_putI (t := 0) (kz := 1) rfl dX5_add_24 rfl fp_30 rfl rfl (Or.inl rfl) ?_
      exact e_mask [true, false] (q_X5_add_27  (up (up h 2 (h 1 1) l1) 1 1 (wr (((up h 2 (h 1 1) l1) 1 1) + 1)))       hf)
  exact Cn_of rfl (fun _ => Nat.le_of_ble_eq_true rfl) ⟨rfl, rfl⟩ (e_pad 0 key)
abbrev m_X5_clear : MI := (yX5_clear, cX5_clear, 2, some .int, { frames := 0, cells := 0, slots := 0, locals := 0 })
def p_X5_clear (h : Mem)   : Option (Int × Mem) :=
  some (h 1 1, (up h 1 1 0))
set_option maxRecDepth 20000 in
theorem q_X5_clear (h : Mem)    {X : Int × Mem} (hf : p_X5_clear h   = some X) : Cn m_X5_clear [vr 1] h (fun r h' => r = some (vi X.1) ∧ h' = X.2) := by
  unfold p_X5_clear at hf
  have key : E m_X5_clear none (fun r h' => r = some (vi X.1) ∧ h' = X.2) 0 [some (vr 1), none] [] h := by
    refine e_aload_n dX5_clear_0 rfl ?_
    refine e_getI (kz := 1) rfl dX5_clear_1 rfl fl_30 rfl rfl (Or.inl rfl) ?_
    refine e_istore_n (ls' := [some (vr 1), some (vi (h 1 1))]) dX5_clear_4 (Nat.le_of_ble_eq_true rfl) rfl ?_
    refine e_aload_n dX5_clear_5 rfl ?_
    refine e_iconst dX5_clear_6 ⟨by decide, by decide⟩ ?_
    refine e_putI (t := 0) (kz := 1) rfl dX5_clear_7 rfl fp_30 rfl rfl (Or.inl rfl) ?_
    refine e_iload_n dX5_clear_10 rfl ?_
    obtain rfl := Option.some.inj hf
    exact e_ireturn dX5_clear_11 rfl ⟨rfl, rfl⟩
  exact Cn_of rfl (fun _ => Nat.le_of_ble_eq_true rfl) ⟨rfl, rfl⟩ (e_pad 1 key)
abbrev m_X5_byteAt : MI := (yX5_byteAt, cX5_byteAt, 2, some .int, { frames := 0, cells := 0, slots := 0, locals := 0 })
def p_X5_byteAt (h : Mem)  (l1 : Int) : Option (Int) :=
  if l1 < 0 then (some (-1)) else (if h 1 1 ≤ l1 then (some (-1)) else (if 48 ≤ l1 then (some (-1)) else (gd (0 ≤ l1 ∧ l1 < 48) (some (h 2 l1)))))
set_option maxRecDepth 20000 in
theorem q_X5_byteAt (h : Mem)   (l1 : Int) {X : Int} (hf : p_X5_byteAt h  l1 = some X) : Cn m_X5_byteAt [vr 1, vi l1] h (fun r h' => r = some (vi X) ∧ h' = h) := by
  unfold p_X5_byteAt at hf
  have key : E m_X5_byteAt none (fun r h' => r = some (vi X) ∧ h' = h) 0 [some (vr 1), some (vi l1)] [] h := by
    refine e_iload_n dX5_byteAt_0 rfl ?_
    refine e_if_lt (tgt := 27) dX5_byteAt_1 (by decide) (fun c1 => ?_) (fun c1 => ?_)
    · replace hf := ifp hf c1
      refine e_iconst dX5_byteAt_27 ⟨by decide, by decide⟩ ?_
      obtain rfl := Option.some.inj hf
      exact e_ireturn dX5_byteAt_28 rfl ⟨rfl, rfl⟩
    · replace hf := ifn hf c1
      refine e_iload_n dX5_byteAt_4 rfl ?_
      refine e_aload_n dX5_byteAt_5 rfl ?_
      refine e_getI (kz := 1) rfl dX5_byteAt_6 rfl fl_30 rfl rfl (Or.inl rfl) ?_
      refine e_icmp_ge (tgt := 27) dX5_byteAt_9 (by decide) (fun c9 => ?_) (fun c9 => ?_)
      · replace hf := ifp hf c9
        refine e_iconst dX5_byteAt_27 ⟨by decide, by decide⟩ ?_
        obtain rfl := Option.some.inj hf
        exact e_ireturn dX5_byteAt_28 rfl ⟨rfl, rfl⟩
      · replace hf := ifn hf c9
        refine e_iload_n dX5_byteAt_12 rfl ?_
        refine e_bipush dX5_byteAt_13 ⟨by decide, by decide, by decide⟩ ?_
        refine e_icmp_ge (tgt := 27) dX5_byteAt_15 (by decide) (fun c15 => ?_) (fun c15 => ?_)
        · replace hf := ifp hf c15
          refine e_iconst dX5_byteAt_27 ⟨by decide, by decide⟩ ?_
          obtain rfl := Option.some.inj hf
          exact e_ireturn dX5_byteAt_28 rfl ⟨rfl, rfl⟩
        · replace hf := ifn hf c15
          refine e_aload_n dX5_byteAt_18 rfl ?_
          refine e_getR dX5_byteAt_19 rfl fl_29 rfl rfl ?_
          refine e_iload_n dX5_byteAt_22 rfl ?_
          obtain ⟨g23, hf⟩ := gd_some hf
          refine e_iald dX5_byteAt_23 rfl g23 ?_
          refine e_goto (tgt := 28) dX5_byteAt_24 (by decide) ?_
          obtain rfl := Option.some.inj hf
          exact e_ireturn dX5_byteAt_28 rfl ⟨rfl, rfl⟩
  exact Cn_of rfl (fun _ => Nat.le_of_ble_eq_true rfl) ⟨rfl, rfl⟩ (e_pad 0 key)
theorem lk_260 : VLk "StarRight$Text" 23 m_X5_byteAt 1 := ⟨tw_260, tw_262, twp_0, tw_2, tw_263, by decide +kernel⟩
abbrev m_X5_digitAt : MI := (yX5_digitAt, cX5_digitAt, 2, some .int, { frames := 1, cells := 0, slots := 0, locals := 21 })
def p_X5_digitAt (h : Mem)  (l1 : Int) : Option (Int) :=
  bd (p_X5_byteAt h l1) (fun r2 => some (wr (r2 - 48)))
set_option maxRecDepth 20000 in
theorem q_X5_digitAt (h : Mem)   (l1 : Int) {X : Int} (hf : p_X5_digitAt h  l1 = some X) : Cn m_X5_digitAt [vr 1, vi l1] h (fun r h' => r = some (vi X) ∧ h' = h) := by
  unfold p_X5_digitAt at hf
  have key : E m_X5_digitAt none (fun r h' => r = some (vi X) ∧ h' = h) 0 [some (vr 1), some (vi l1)] [] h := by
    refine e_aload_n dX5_digitAt_0 rfl ?_
    refine e_iload_n dX5_digitAt_1 rfl ?_
    obtain ⟨r2, e2, hf⟩ := bd_some hf
    refine e_callV1i dX5_digitAt_2 rfl lk_260 ⟨rfl, rfl, Nat.le_of_ble_eq_true rfl, Nat.le_of_ble_eq_true rfl⟩ rfl rfl (Nat.le_of_ble_eq_true rfl) (q_X5_byteAt h   l1 e2) ?_
    refine e_bipush dX5_digitAt_5 ⟨by decide, by decide, by decide⟩ ?_
    refine e_isub dX5_digitAt_7 ?_
    obtain rfl := Option.some.inj hf
    exact e_ireturn dX5_digitAt_8 rfl ⟨rfl, rfl⟩
  exact Cn_of rfl (fun _ => Nat.le_of_ble_eq_true rfl) ⟨rfl, rfl⟩ (e_pad 0 key)
theorem lk_268 : VLk "StarRight$Text" 27 m_X5_digitAt 1 := ⟨tw_268, tw_270, twp_2, tw_2, tw_271, by decide +kernel⟩
abbrev m_X5_hasDigit : MI := (yX5_hasDigit, cX5_hasDigit, 4, some .boolean, { frames := 2, cells := 0, slots := 0, locals := 42 })
def p_X5_hasDigit (h : Mem)  (l1 l2 l3 : Int) : Option (Int) :=
  bd (p_X5_digitAt h l1) (fun r2 => if r2 < l2 then (some 0) else (bd (p_X5_digitAt h l1) (fun r11 => if l3 < r11 then (some 0) else (some 1))))
set_option maxRecDepth 20000 in
theorem q_X5_hasDigit (h : Mem)   (l1 l2 l3 : Int) {X : Int} (hf : p_X5_hasDigit h  l1 l2 l3 = some X) : Cn m_X5_hasDigit [vr 1, vi l1, vi l2, vi l3] h (fun r h' => r = some (vi X) ∧ h' = h) := by
  unfold p_X5_hasDigit at hf
  have key : E m_X5_hasDigit none (fun r h' => r = some (vi X) ∧ h' = h) 0 [some (vr 1), some (vi l1), some (vi l2), some (vi l3)] [] h := by
    refine e_aload_n dX5_hasDigit_0 rfl ?_
    refine e_iload_n dX5_hasDigit_1 rfl ?_
    obtain ⟨r2, e2, hf⟩ := bd_some hf
    refine e_callV1i dX5_hasDigit_2 rfl lk_268 ⟨rfl, rfl, Nat.le_of_ble_eq_true rfl, Nat.le_of_ble_eq_true rfl⟩ rfl rfl (Nat.le_of_ble_eq_true rfl) (q_X5_digitAt h   l1 e2) ?_
    refine e_iload_n dX5_hasDigit_5 rfl ?_
    refine e_icmp_lt (tgt := 22) dX5_hasDigit_6 (by decide) (fun c6 => ?_) (fun c6 => ?_)
    · replace hf := ifp hf c6
      refine e_iconst dX5_hasDigit_22 ⟨by decide, by decide⟩ ?_
      obtain rfl := Option.some.inj hf
      exact e_zreturn dX5_hasDigit_23 rfl (by decide) ⟨rfl, rfl⟩
    · replace hf := ifn hf c6
      refine e_aload_n dX5_hasDigit_9 rfl ?_
      refine e_iload_n dX5_hasDigit_10 rfl ?_
      obtain ⟨r11, e11, hf⟩ := bd_some hf
      refine e_callV1i dX5_hasDigit_11 rfl lk_268 ⟨rfl, rfl, Nat.le_of_ble_eq_true rfl, Nat.le_of_ble_eq_true rfl⟩ rfl rfl (Nat.le_of_ble_eq_true rfl) (q_X5_digitAt h   l1 e11) ?_
      refine e_iload_n dX5_hasDigit_14 rfl ?_
      refine e_icmp_gt (tgt := 22) dX5_hasDigit_15 (by decide) (fun c15 => ?_) (fun c15 => ?_)
      · replace hf := ifp hf c15
        refine e_iconst dX5_hasDigit_22 ⟨by decide, by decide⟩ ?_
        obtain rfl := Option.some.inj hf
        exact e_zreturn dX5_hasDigit_23 rfl (by decide) ⟨rfl, rfl⟩
      · replace hf := ifn hf c15
        refine e_iconst dX5_hasDigit_18 ⟨by decide, by decide⟩ ?_
        refine e_goto (tgt := 23) dX5_hasDigit_19 (by decide) ?_
        obtain rfl := Option.some.inj hf
        exact e_zreturn dX5_hasDigit_23 rfl (by decide) ⟨rfl, rfl⟩
  exact Cn_of rfl (fun _ => Nat.le_of_ble_eq_true rfl) ⟨rfl, rfl⟩ (e_pad 0 key)
theorem lk_264 : VLk "StarRight$Text" 30 m_X5_hasDigit 3 := ⟨tw_264, tw_266, twp_1, tw_2, tw_267, by decide +kernel⟩
abbrev m_X5_faultInRoof : MI := (yX5_faultInRoof, cX5_faultInRoof, 3, some .int, { frames := 3, cells := 0, slots := 0, locals := 65 })
def p_X5_faultInRoof_27  (h : Mem)   (l1 : Int) : Option (Int) :=
  some (wr (l1 + 1))
set_option maxRecDepth 20000 in
theorem q_X5_faultInRoof_27  (h : Mem)     (l1 : Int) {X : Int}  (hf : p_X5_faultInRoof_27  h   l1 = some X) : E m_X5_faultInRoof none (fun r h' => r = some (vi X) ∧ h' = h) 27 [some (vr 1), some (vi l1), none] [] h := by
  unfold p_X5_faultInRoof_27 at hf
  refine e_iload_n dX5_faultInRoof_27 rfl ?_
  refine e_iconst dX5_faultInRoof_28 ⟨by decide, by decide⟩ ?_
  refine e_iadd dX5_faultInRoof_29 ?_
  obtain rfl := Option.some.inj hf
  exact e_ireturn dX5_faultInRoof_30 rfl ⟨rfl, rfl⟩
def p_X5_faultInRoof (h : Mem)  (l1 l2 : Int) : Option (Int) :=
  bd (p_X5_hasDigit h (wr (l1 + 1)) 0 9) (fun r7 => if r7 = 0 then (p_X5_faultInRoof_27  h   l1) else (bd (p_X5_digitAt h (wr (l1 + 1))) (fun r18 => if band (bshr l2 r18) 1 = 0 then (bd (p_X5_hasDigit h (wr (l1 + 2)) 0 9) (fun r38 => if r38 = 0 then (some (wr (l1 + 2))) else (bd (p_X5_hasDigit h (wr (l1 + 3)) 0 1) (fun r54 => if r54 = 0 then (some (wr (l1 + 3))) else (bd (p_X5_hasDigit h (wr (l1 + 4)) 0 3) (fun r70 => if r70 = 0 then (some (wr (l1 + 4))) else (some (-9)))))))) else (p_X5_faultInRoof_27  h   l1))))
set_option maxRecDepth 20000 in
theorem q_X5_faultInRoof (h : Mem)   (l1 l2 : Int) {X : Int} (hf : p_X5_faultInRoof h  l1 l2 = some X) : Cn m_X5_faultInRoof [vr 1, vi l1, vi l2] h (fun r h' => r = some (vi X) ∧ h' = h) := by
  unfold p_X5_faultInRoof at hf
  have key : E m_X5_faultInRoof none (fun r h' => r = some (vi X) ∧ h' = h) 0 [some (vr 1), some (vi l1), some (vi l2)] [] h := by
    refine e_aload_n dX5_faultInRoof_0 rfl ?_
    refine e_iload_n dX5_faultInRoof_1 rfl ?_
    refine e_iconst dX5_faultInRoof_2 ⟨by decide, by decide⟩ ?_
    refine e_iadd dX5_faultInRoof_3 ?_
    refine e_iconst dX5_faultInRoof_4 ⟨by decide, by decide⟩ ?_
    refine e_bipush dX5_faultInRoof_5 ⟨by decide, by decide, by decide⟩ ?_
    obtain ⟨r7, e7, hf⟩ := bd_some hf
    refine e_callV3i dX5_faultInRoof_7 rfl lk_264 ⟨rfl, rfl, Nat.le_of_ble_eq_true rfl, Nat.le_of_ble_eq_true rfl⟩ rfl rfl (Nat.le_of_ble_eq_true rfl) (q_X5_hasDigit h   (wr (l1 + 1)) 0 9 e7) ?_
    refine e_if_eq (tgt := 27) dX5_faultInRoof_10 (by decide) (fun c10 => ?_) (fun c10 => ?_)
    · replace hf := ifp hf c10
      exact e_mask [true, true, false] (q_X5_faultInRoof_27  h     l1  hf)
    · replace hf := ifn hf c10
      refine e_iload_n dX5_faultInRoof_13 rfl ?_
      refine e_aload_n dX5_faultInRoof_14 rfl ?_
      refine e_iload_n dX5_faultInRoof_15 rfl ?_
      refine e_iconst dX5_faultInRoof_16 ⟨by decide, by decide⟩ ?_
      refine e_iadd dX5_faultInRoof_17 ?_
      obtain ⟨r18, e18, hf⟩ := bd_some hf
      refine e_callV1i dX5_faultInRoof_18 rfl lk_268 ⟨rfl, rfl, Nat.le_of_ble_eq_true rfl, Nat.le_of_ble_eq_true rfl⟩ rfl rfl (Nat.le_of_ble_eq_true rfl) (q_X5_digitAt h   (wr (l1 + 1)) e18) ?_
      refine e_ishr dX5_faultInRoof_21 ?_
      refine e_iconst dX5_faultInRoof_22 ⟨by decide, by decide⟩ ?_
      refine e_iand dX5_faultInRoof_23 ?_
      refine e_if_eq (tgt := 31) dX5_faultInRoof_24 (by decide) (fun c24 => ?_) (fun c24 => ?_)
      · replace hf := ifp hf c24
        refine e_aload_n dX5_faultInRoof_31 rfl ?_
        refine e_iload_n dX5_faultInRoof_32 rfl ?_
        refine e_iconst dX5_faultInRoof_33 ⟨by decide, by decide⟩ ?_
        refine e_iadd dX5_faultInRoof_34 ?_
        refine e_iconst dX5_faultInRoof_35 ⟨by decide, by decide⟩ ?_
        refine e_bipush dX5_faultInRoof_36 ⟨by decide, by decide, by decide⟩ ?_
        obtain ⟨r38, e38, hf⟩ := bd_some hf
        refine e_callV3i dX5_faultInRoof_38 rfl lk_264 ⟨rfl, rfl, Nat.le_of_ble_eq_true rfl, Nat.le_of_ble_eq_true rfl⟩ rfl rfl (Nat.le_of_ble_eq_true rfl) (q_X5_hasDigit h   (wr (l1 + 2)) 0 9 e38) ?_
        refine e_if_ne (tgt := 48) dX5_faultInRoof_41 (by decide) (fun c41 => ?_) (fun c41 => ?_)
        · replace hf := ifn hf c41
          refine e_aload_n dX5_faultInRoof_48 rfl ?_
          refine e_iload_n dX5_faultInRoof_49 rfl ?_
          refine e_iconst dX5_faultInRoof_50 ⟨by decide, by decide⟩ ?_
          refine e_iadd dX5_faultInRoof_51 ?_
          refine e_iconst dX5_faultInRoof_52 ⟨by decide, by decide⟩ ?_
          refine e_iconst dX5_faultInRoof_53 ⟨by decide, by decide⟩ ?_
          obtain ⟨r54, e54, hf⟩ := bd_some hf
          refine e_callV3i dX5_faultInRoof_54 rfl lk_264 ⟨rfl, rfl, Nat.le_of_ble_eq_true rfl, Nat.le_of_ble_eq_true rfl⟩ rfl rfl (Nat.le_of_ble_eq_true rfl) (q_X5_hasDigit h   (wr (l1 + 3)) 0 1 e54) ?_
          refine e_if_ne (tgt := 64) dX5_faultInRoof_57 (by decide) (fun c57 => ?_) (fun c57 => ?_)
          · replace hf := ifn hf c57
            refine e_aload_n dX5_faultInRoof_64 rfl ?_
            refine e_iload_n dX5_faultInRoof_65 rfl ?_
            refine e_iconst dX5_faultInRoof_66 ⟨by decide, by decide⟩ ?_
            refine e_iadd dX5_faultInRoof_67 ?_
            refine e_iconst dX5_faultInRoof_68 ⟨by decide, by decide⟩ ?_
            refine e_iconst dX5_faultInRoof_69 ⟨by decide, by decide⟩ ?_
            obtain ⟨r70, e70, hf⟩ := bd_some hf
            refine e_callV3i dX5_faultInRoof_70 rfl lk_264 ⟨rfl, rfl, Nat.le_of_ble_eq_true rfl, Nat.le_of_ble_eq_true rfl⟩ rfl rfl (Nat.le_of_ble_eq_true rfl) (q_X5_hasDigit h   (wr (l1 + 4)) 0 3 e70) ?_
            refine e_if_eq (tgt := 81) dX5_faultInRoof_73 (by decide) (fun c73 => ?_) (fun c73 => ?_)
            · replace hf := ifp hf c73
              refine e_iload_n dX5_faultInRoof_81 rfl ?_
              refine e_iconst dX5_faultInRoof_82 ⟨by decide, by decide⟩ ?_
              refine e_iadd dX5_faultInRoof_83 ?_
              obtain rfl := Option.some.inj hf
              exact e_ireturn dX5_faultInRoof_84 rfl ⟨rfl, rfl⟩
            · replace hf := ifn hf c73
              refine e_bipush dX5_faultInRoof_76 ⟨by decide, by decide, by decide⟩ ?_
              refine e_goto (tgt := 84) dX5_faultInRoof_78 (by decide) ?_
              obtain rfl := Option.some.inj hf
              exact e_ireturn dX5_faultInRoof_84 rfl ⟨rfl, rfl⟩
          · replace hf := ifp hf c57
            refine e_iload_n dX5_faultInRoof_60 rfl ?_
            refine e_iconst dX5_faultInRoof_61 ⟨by decide, by decide⟩ ?_
            refine e_iadd dX5_faultInRoof_62 ?_
            obtain rfl := Option.some.inj hf
            exact e_ireturn dX5_faultInRoof_63 rfl ⟨rfl, rfl⟩
        · replace hf := ifp hf c41
          refine e_iload_n dX5_faultInRoof_44 rfl ?_
          refine e_iconst dX5_faultInRoof_45 ⟨by decide, by decide⟩ ?_
          refine e_iadd dX5_faultInRoof_46 ?_
          obtain rfl := Option.some.inj hf
          exact e_ireturn dX5_faultInRoof_47 rfl ⟨rfl, rfl⟩
      · replace hf := ifn hf c24
        exact e_mask [true, true, false] (q_X5_faultInRoof_27  h     l1  hf)
  exact Cn_of rfl (fun _ => Nat.le_of_ble_eq_true rfl) ⟨rfl, rfl⟩ (e_pad 0 key)
abbrev m_X5_faultInStar : MI := (yX5_faultInStar, cX5_faultInStar, 2, some .int, { frames := 3, cells := 0, slots := 0, locals := 65 })
def p_X5_faultInStar (h : Mem)  (l1 : Int) : Option (Int) :=
  bd (p_X5_hasDigit h (wr (l1 + 1)) 0 9) (fun r7 => if r7 = 0 then (some (wr (l1 + 1))) else (bd (p_X5_hasDigit h (wr (l1 + 2)) 0 3) (fun r23 => if r23 = 0 then (some (wr (l1 + 2))) else (bd (p_X5_hasDigit h (wr (l1 + 3)) 1 9) (fun r40 => if r40 = 0 then (some (wr (l1 + 3))) else (some (-9)))))))
set_option maxRecDepth 20000 in
theorem q_X5_faultInStar (h : Mem)   (l1 : Int) {X : Int} (hf : p_X5_faultInStar h  l1 = some X) : Cn m_X5_faultInStar [vr 1, vi l1] h (fun r h' => r = some (vi X) ∧ h' = h) := by
  unfold p_X5_faultInStar at hf
  have key : E m_X5_faultInStar none (fun r h' => r = some (vi X) ∧ h' = h) 0 [some (vr 1), some (vi l1)] [] h := by
    refine e_aload_n dX5_faultInStar_0 rfl ?_
    refine e_iload_n dX5_faultInStar_1 rfl ?_
    refine e_iconst dX5_faultInStar_2 ⟨by decide, by decide⟩ ?_
    refine e_iadd dX5_faultInStar_3 ?_
    refine e_iconst dX5_faultInStar_4 ⟨by decide, by decide⟩ ?_
    refine e_bipush dX5_faultInStar_5 ⟨by decide, by decide, by decide⟩ ?_
    obtain ⟨r7, e7, hf⟩ := bd_some hf
    refine e_callV3i dX5_faultInStar_7 rfl lk_264 ⟨rfl, rfl, Nat.le_of_ble_eq_true rfl, Nat.le_of_ble_eq_true rfl⟩ rfl rfl (Nat.le_of_ble_eq_true rfl) (q_X5_hasDigit h   (wr (l1 + 1)) 0 9 e7) ?_
    refine e_if_ne (tgt := 17) dX5_faultInStar_10 (by decide) (fun c10 => ?_) (fun c10 => ?_)
    · replace hf := ifn hf c10
      refine e_aload_n dX5_faultInStar_17 rfl ?_
      refine e_iload_n dX5_faultInStar_18 rfl ?_
      refine e_iconst dX5_faultInStar_19 ⟨by decide, by decide⟩ ?_
      refine e_iadd dX5_faultInStar_20 ?_
      refine e_iconst dX5_faultInStar_21 ⟨by decide, by decide⟩ ?_
      refine e_iconst dX5_faultInStar_22 ⟨by decide, by decide⟩ ?_
      obtain ⟨r23, e23, hf⟩ := bd_some hf
      refine e_callV3i dX5_faultInStar_23 rfl lk_264 ⟨rfl, rfl, Nat.le_of_ble_eq_true rfl, Nat.le_of_ble_eq_true rfl⟩ rfl rfl (Nat.le_of_ble_eq_true rfl) (q_X5_hasDigit h   (wr (l1 + 2)) 0 3 e23) ?_
      refine e_if_ne (tgt := 33) dX5_faultInStar_26 (by decide) (fun c26 => ?_) (fun c26 => ?_)
      · replace hf := ifn hf c26
        refine e_aload_n dX5_faultInStar_33 rfl ?_
        refine e_iload_n dX5_faultInStar_34 rfl ?_
        refine e_iconst dX5_faultInStar_35 ⟨by decide, by decide⟩ ?_
        refine e_iadd dX5_faultInStar_36 ?_
        refine e_iconst dX5_faultInStar_37 ⟨by decide, by decide⟩ ?_
        refine e_bipush dX5_faultInStar_38 ⟨by decide, by decide, by decide⟩ ?_
        obtain ⟨r40, e40, hf⟩ := bd_some hf
        refine e_callV3i dX5_faultInStar_40 rfl lk_264 ⟨rfl, rfl, Nat.le_of_ble_eq_true rfl, Nat.le_of_ble_eq_true rfl⟩ rfl rfl (Nat.le_of_ble_eq_true rfl) (q_X5_hasDigit h   (wr (l1 + 3)) 1 9 e40) ?_
        refine e_if_eq (tgt := 51) dX5_faultInStar_43 (by decide) (fun c43 => ?_) (fun c43 => ?_)
        · replace hf := ifp hf c43
          refine e_iload_n dX5_faultInStar_51 rfl ?_
          refine e_iconst dX5_faultInStar_52 ⟨by decide, by decide⟩ ?_
          refine e_iadd dX5_faultInStar_53 ?_
          obtain rfl := Option.some.inj hf
          exact e_ireturn dX5_faultInStar_54 rfl ⟨rfl, rfl⟩
        · replace hf := ifn hf c43
          refine e_bipush dX5_faultInStar_46 ⟨by decide, by decide, by decide⟩ ?_
          refine e_goto (tgt := 54) dX5_faultInStar_48 (by decide) ?_
          obtain rfl := Option.some.inj hf
          exact e_ireturn dX5_faultInStar_54 rfl ⟨rfl, rfl⟩
      · replace hf := ifp hf c26
        refine e_iload_n dX5_faultInStar_29 rfl ?_
        refine e_iconst dX5_faultInStar_30 ⟨by decide, by decide⟩ ?_
        refine e_iadd dX5_faultInStar_31 ?_
        obtain rfl := Option.some.inj hf
        exact e_ireturn dX5_faultInStar_32 rfl ⟨rfl, rfl⟩
    · replace hf := ifp hf c10
      refine e_iload_n dX5_faultInStar_13 rfl ?_
      refine e_iconst dX5_faultInStar_14 ⟨by decide, by decide⟩ ?_
      refine e_iadd dX5_faultInStar_15 ?_
      obtain rfl := Option.some.inj hf
      exact e_ireturn dX5_faultInStar_16 rfl ⟨rfl, rfl⟩
  exact Cn_of rfl (fun _ => Nat.le_of_ble_eq_true rfl) ⟨rfl, rfl⟩ (e_pad 0 key)
theorem lk_272 : VLk "StarRight$Text" 34 m_X5_faultInRoof 2 := ⟨tw_272, tw_274, twp_3, tw_2, tw_275, by decide +kernel⟩
theorem lk_276 : VLk "StarRight$Text" 38 m_X5_faultInStar 1 := ⟨tw_276, tw_278, twp_4, tw_2, tw_279, by decide +kernel⟩
abbrev m_X5_firstFault : MI := (yX5_firstFault, cX5_firstFault, 6, some .int, { frames := 4, cells := 0, slots := 0, locals := 87 })
def p_X5_firstFault_100 (K37 : Int → Int → Int → Int → Int → Option (Int)) (h : Mem)   (l1 l2 l3 l4 : Int) : Option (Int) :=
  bd (p_X5_byteAt h l4) (fun r103 => if r103 = 83 then (if 4 ≤ l2 then (some l4) else (bd (p_X5_faultInStar h l4) (fun r119 => K37 l1 (wr (l2 + 1)) l3 (wr (l4 + 4)) r119))) else (some l4))
set_option maxRecDepth 20000 in
theorem q_X5_firstFault_100 (K37 : Int → Int → Int → Int → Int → Option (Int)) (h : Mem)     (l1 l2 l3 l4 : Int) {X : Int} (hK37 : ∀ (l1 l2 l3 l4 l5 : Int), K37 l1 l2 l3 l4 l5 = some X → E m_X5_firstFault none (fun r h' => r = some (vi X) ∧ h' = h) 37 [some (vr 1), some (vi l1), some (vi l2), some (vi l3), some (vi l4), some (vi l5)] [] h) (hf : p_X5_firstFault_100 K37 h   l1 l2 l3 l4 = some X) : E m_X5_firstFault none (fun r h' => r = some (vi X) ∧ h' = h) 100 [some (vr 1), some (vi l1), some (vi l2), some (vi l3), some (vi l4), none] [] h := by
  unfold p_X5_firstFault_100 at hf
  refine e_aload_n dX5_firstFault_100 rfl ?_
  refine e_iload dX5_firstFault_101 rfl ?_
  obtain ⟨r103, e103, hf⟩ := bd_some hf
  refine e_callV1i dX5_firstFault_103 rfl lk_260 ⟨rfl, rfl, Nat.le_of_ble_eq_true rfl, Nat.le_of_ble_eq_true rfl⟩ rfl rfl (Nat.le_of_ble_eq_true rfl) (q_X5_byteAt h   l4 e103) ?_
  refine e_bipush dX5_firstFault_106 ⟨by decide, by decide, by decide⟩ ?_
  refine e_icmp_ne (tgt := 133) dX5_firstFault_108 (by decide) (fun c108 => ?_) (fun c108 => ?_)
  · replace hf := ifn hf c108
    refine e_iload dX5_firstFault_133 rfl ?_
    obtain rfl := Option.some.inj hf
    exact e_ireturn dX5_firstFault_135 rfl ⟨rfl, rfl⟩
  · replace hf := ifp hf c108
    refine e_iload_n dX5_firstFault_111 rfl ?_
    refine e_iconst dX5_firstFault_112 ⟨by decide, by decide⟩ ?_
    refine e_icmp_ge (tgt := 133) dX5_firstFault_113 (by decide) (fun c113 => ?_) (fun c113 => ?_)
    · replace hf := ifp hf c113
      refine e_iload dX5_firstFault_133 rfl ?_
      obtain rfl := Option.some.inj hf
      exact e_ireturn dX5_firstFault_135 rfl ⟨rfl, rfl⟩
    · replace hf := ifn hf c113
      refine e_aload_n dX5_firstFault_116 rfl ?_
      refine e_iload dX5_firstFault_117 rfl ?_
      obtain ⟨r119, e119, hf⟩ := bd_some hf
      refine e_callV1i dX5_firstFault_119 rfl lk_276 ⟨rfl, rfl, Nat.le_of_ble_eq_true rfl, Nat.le_of_ble_eq_true rfl⟩ rfl rfl (Nat.le_of_ble_eq_true rfl) (q_X5_faultInStar h   l4 e119) ?_
      refine e_istore (ls' := [some (vr 1), some (vi l1), some (vi l2), some (vi l3), some (vi l4), some (vi r119)]) dX5_firstFault_122 (Nat.le_of_ble_eq_true rfl) rfl ?_
      refine e_iinc (ls' := [some (vr 1), some (vi l1), some (vi (wr (l2 + 1))), some (vi l3), some (vi l4), some (vi r119)]) dX5_firstFault_124 rfl (Nat.le_of_ble_eq_true rfl) rfl ?_
      refine e_iinc (ls' := [some (vr 1), some (vi l1), some (vi (wr (l2 + 1))), some (vi l3), some (vi (wr (l4 + 4))), some (vi r119)]) dX5_firstFault_127 rfl (Nat.le_of_ble_eq_true rfl) rfl ?_
      refine e_goto (tgt := 37) dX5_firstFault_130 (by decide) ?_
      exact e_mask [true, true, true, true, true, true] (hK37 l1 (wr (l2 + 1)) l3 (wr (l4 + 4)) r119 hf)
def p_X5_firstFault_37 (K37 : Int → Int → Int → Int → Int → Option (Int)) (h : Mem)   (l1 l2 l3 l4 l5 : Int) : Option (Int) :=
  if h 1 1 ≤ l4 then (some l5) else (if l5 = (-9) then (bd (p_X5_byteAt h l4) (fun r56 => if r56 = 82 then (if 5 ≤ l1 then (p_X5_firstFault_100 K37 h   l1 l2 l3 l4) else (bd (p_X5_faultInRoof h l4 l3) (fun r73 => bd (p_X5_digitAt h (wr (l4 + 1))) (fun r85 => K37 (wr (l1 + 1)) l2 (bor l3 (bshl 1 r85)) (wr (l4 + 5)) r73)))) else (p_X5_firstFault_100 K37 h   l1 l2 l3 l4))) else (some l5))
set_option maxRecDepth 20000 in
theorem q_X5_firstFault_37 (K37 : Int → Int → Int → Int → Int → Option (Int)) (h : Mem)     (l1 l2 l3 l4 l5 : Int) {X : Int} (hK37 : ∀ (l1 l2 l3 l4 l5 : Int), K37 l1 l2 l3 l4 l5 = some X → E m_X5_firstFault none (fun r h' => r = some (vi X) ∧ h' = h) 37 [some (vr 1), some (vi l1), some (vi l2), some (vi l3), some (vi l4), some (vi l5)] [] h) (hf : p_X5_firstFault_37 K37 h   l1 l2 l3 l4 l5 = some X) : E m_X5_firstFault none (fun r h' => r = some (vi X) ∧ h' = h) 37 [some (vr 1), some (vi l1), some (vi l2), some (vi l3), some (vi l4), some (vi l5)] [] h := by
  unfold p_X5_firstFault_37 at hf
  refine e_iload dX5_firstFault_37 rfl ?_
  refine e_aload_n dX5_firstFault_39 rfl ?_
  refine e_getI (kz := 1) rfl dX5_firstFault_40 rfl fl_30 rfl rfl (Or.inl rfl) ?_
  refine e_icmp_ge (tgt := 136) dX5_firstFault_43 (by decide) (fun c43 => ?_) (fun c43 => ?_)
  · replace hf := ifp hf c43
    refine e_iload dX5_firstFault_136 rfl ?_
    obtain rfl := Option.some.inj hf
    exact e_ireturn dX5_firstFault_138 rfl ⟨rfl, rfl⟩
  · replace hf := ifn hf c43
    refine e_iload dX5_firstFault_46 rfl ?_
    refine e_bipush dX5_firstFault_48 ⟨by decide, by decide, by decide⟩ ?_
    refine e_icmp_ne (tgt := 136) dX5_firstFault_50 (by decide) (fun c50 => ?_) (fun c50 => ?_)
    · replace hf := ifn hf c50
      refine e_iload dX5_firstFault_136 rfl ?_
      obtain rfl := Option.some.inj hf
      exact e_ireturn dX5_firstFault_138 rfl ⟨rfl, rfl⟩
    · replace hf := ifp hf c50
      refine e_aload_n dX5_firstFault_53 rfl ?_
      refine e_iload dX5_firstFault_54 rfl ?_
      obtain ⟨r56, e56, hf⟩ := bd_some hf
      refine e_callV1i dX5_firstFault_56 rfl lk_260 ⟨rfl, rfl, Nat.le_of_ble_eq_true rfl, Nat.le_of_ble_eq_true rfl⟩ rfl rfl (Nat.le_of_ble_eq_true rfl) (q_X5_byteAt h   l4 e56) ?_
      refine e_bipush dX5_firstFault_59 ⟨by decide, by decide, by decide⟩ ?_
      refine e_icmp_ne (tgt := 100) dX5_firstFault_61 (by decide) (fun c61 => ?_) (fun c61 => ?_)
      · replace hf := ifn hf c61
        exact e_mask [true, true, true, true, true, false] (q_X5_firstFault_100 K37 h     l1 l2 l3 l4 hK37 hf)
      · replace hf := ifp hf c61
        refine e_iload_n dX5_firstFault_64 rfl ?_
        refine e_iconst dX5_firstFault_65 ⟨by decide, by decide⟩ ?_
        refine e_icmp_ge (tgt := 100) dX5_firstFault_66 (by decide) (fun c66 => ?_) (fun c66 => ?_)
        · replace hf := ifp hf c66
          exact e_mask [true, true, true, true, true, false] (q_X5_firstFault_100 K37 h     l1 l2 l3 l4 hK37 hf)
        · replace hf := ifn hf c66
          refine e_aload_n dX5_firstFault_69 rfl ?_
          refine e_iload dX5_firstFault_70 rfl ?_
          refine e_iload_n dX5_firstFault_72 rfl ?_
          obtain ⟨r73, e73, hf⟩ := bd_some hf
          refine e_callV2i dX5_firstFault_73 rfl lk_272 ⟨rfl, rfl, Nat.le_of_ble_eq_true rfl, Nat.le_of_ble_eq_true rfl⟩ rfl rfl (Nat.le_of_ble_eq_true rfl) (q_X5_faultInRoof h   l4 l3 e73) ?_
          refine e_istore (ls' := [some (vr 1), some (vi l1), some (vi l2), some (vi l3), some (vi l4), some (vi r73)]) dX5_firstFault_76 (Nat.le_of_ble_eq_true rfl) rfl ?_
          refine e_iload_n dX5_firstFault_78 rfl ?_
          refine e_iconst dX5_firstFault_79 ⟨by decide, by decide⟩ ?_
          refine e_aload_n dX5_firstFault_80 rfl ?_
          refine e_iload dX5_firstFault_81 rfl ?_
          refine e_iconst dX5_firstFault_83 ⟨by decide, by decide⟩ ?_
          refine e_iadd dX5_firstFault_84 ?_
          obtain ⟨r85, e85, hf⟩ := bd_some hf
          refine e_callV1i dX5_firstFault_85 rfl lk_268 ⟨rfl, rfl, Nat.le_of_ble_eq_true rfl, Nat.le_of_ble_eq_true rfl⟩ rfl rfl (Nat.le_of_ble_eq_true rfl) (q_X5_digitAt h   (wr (l4 + 1)) e85) ?_
          refine e_ishl dX5_firstFault_88 ?_
          refine e_ior dX5_firstFault_89 ?_
          refine e_istore_n (ls' := [some (vr 1), some (vi l1), some (vi l2), some (vi (bor l3 (bshl 1 r85))), some (vi l4), some (vi r73)]) dX5_firstFault_90 (Nat.le_of_ble_eq_true rfl) rfl ?_
          refine e_iinc (ls' := [some (vr 1), some (vi (wr (l1 + 1))), some (vi l2), some (vi (bor l3 (bshl 1 r85))), some (vi l4), some (vi r73)]) dX5_firstFault_91 rfl (Nat.le_of_ble_eq_true rfl) rfl ?_
          refine e_iinc (ls' := [some (vr 1), some (vi (wr (l1 + 1))), some (vi l2), some (vi (bor l3 (bshl 1 r85))), some (vi (wr (l4 + 5))), some (vi r73)]) dX5_firstFault_94 rfl (Nat.le_of_ble_eq_true rfl) rfl ?_
          refine e_goto (tgt := 37) dX5_firstFault_97 (by decide) ?_
          exact e_mask [true, true, true, true, true, true] (hK37 (wr (l1 + 1)) l2 (bor l3 (bshl 1 r85)) (wr (l4 + 5)) r73 hf)
def p_X5_firstFault_L37  (h : Mem)   : Nat → Int → Int → Int → Int → Int → Option (Int)
  | 0, _, _, _, _, _ => none
  | n + 1, l1, l2, l3, l4, l5 => p_X5_firstFault_37 (fun (l1 l2 l3 l4 l5 : Int) => p_X5_firstFault_L37  h   n l1 l2 l3 l4 l5) h   l1 l2 l3 l4 l5
theorem q_X5_firstFault_L37  (h : Mem)     {X : Int}  : ∀ (n : Nat) (l1 l2 l3 l4 l5 : Int), p_X5_firstFault_L37  h   n l1 l2 l3 l4 l5 = some X → E m_X5_firstFault none (fun r h' => r = some (vi X) ∧ h' = h) 37 [some (vr 1), some (vi l1), some (vi l2), some (vi l3), some (vi l4), some (vi l5)] [] h := by
  intro n
  induction n with
  | zero => intro l1 l2 l3 l4 l5 hf; have hf2 : (none : Option (Int)) = some X := hf; cases hf2
  | succ n ih => intro l1 l2 l3 l4 l5 hf; exact q_X5_firstFault_37 (fun (l1 l2 l3 l4 l5 : Int) => p_X5_firstFault_L37  h   n l1 l2 l3 l4 l5) h     l1 l2 l3 l4 l5 (fun l1 l2 l3 l4 l5 hf => ih l1 l2 l3 l4 l5 hf) hf
def p_X5_firstFault (h : Mem)   : Option (Int) :=
  bd (p_X5_byteAt h 0) (fun r2 => if r2 = 78 then (bd (p_X5_hasDigit h 1 0 2) (fun r16 => if r16 = 0 then (some 1) else (p_X5_firstFault_L37  h   300  0 0 0 2 (-9)))) else (some 0))
set_option maxRecDepth 20000 in
theorem q_X5_firstFault (h : Mem)    {X : Int} (hf : p_X5_firstFault h   = some X) : Cn m_X5_firstFault [vr 1] h (fun r h' => r = some (vi X) ∧ h' = h) := by
  unfold p_X5_firstFault at hf
  have key : E m_X5_firstFault none (fun r h' => r = some (vi X) ∧ h' = h) 0 [some (vr 1), none, none, none, none, none] [] h := by
    refine e_aload_n dX5_firstFault_0 rfl ?_
    refine e_iconst dX5_firstFault_1 ⟨by decide, by decide⟩ ?_
    obtain ⟨r2, e2, hf⟩ := bd_some hf
    refine e_callV1i dX5_firstFault_2 rfl lk_260 ⟨rfl, rfl, Nat.le_of_ble_eq_true rfl, Nat.le_of_ble_eq_true rfl⟩ rfl rfl (Nat.le_of_ble_eq_true rfl) (q_X5_byteAt h   0 e2) ?_
    refine e_bipush dX5_firstFault_5 ⟨by decide, by decide, by decide⟩ ?_
    refine e_icmp_eq (tgt := 12) dX5_firstFault_7 (by decide) (fun c7 => ?_) (fun c7 => ?_)
    · replace hf := ifp hf c7
      refine e_aload_n dX5_firstFault_12 rfl ?_
      refine e_iconst dX5_firstFault_13 ⟨by decide, by decide⟩ ?_
      refine e_iconst dX5_firstFault_14 ⟨by decide, by decide⟩ ?_
      refine e_iconst dX5_firstFault_15 ⟨by decide, by decide⟩ ?_
      obtain ⟨r16, e16, hf⟩ := bd_some hf
      refine e_callV3i dX5_firstFault_16 rfl lk_264 ⟨rfl, rfl, Nat.le_of_ble_eq_true rfl, Nat.le_of_ble_eq_true rfl⟩ rfl rfl (Nat.le_of_ble_eq_true rfl) (q_X5_hasDigit h   1 0 2 e16) ?_
      refine e_if_ne (tgt := 24) dX5_firstFault_19 (by decide) (fun c19 => ?_) (fun c19 => ?_)
      · replace hf := ifn hf c19
        refine e_iconst dX5_firstFault_24 ⟨by decide, by decide⟩ ?_
        refine e_istore_n (ls' := [some (vr 1), some (vi 0), none, none, none, none]) dX5_firstFault_25 (Nat.le_of_ble_eq_true rfl) rfl ?_
        refine e_iconst dX5_firstFault_26 ⟨by decide, by decide⟩ ?_
        refine e_istore_n (ls' := [some (vr 1), some (vi 0), some (vi 0), none, none, none]) dX5_firstFault_27 (Nat.le_of_ble_eq_true rfl) rfl ?_
        refine e_iconst dX5_firstFault_28 ⟨by decide, by decide⟩ ?_
        refine e_istore_n (ls' := [some (vr 1), some (vi 0), some (vi 0), some (vi 0), none, none]) dX5_firstFault_29 (Nat.le_of_ble_eq_true rfl) rfl ?_
        refine e_iconst dX5_firstFault_30 ⟨by decide, by decide⟩ ?_
        refine e_istore (ls' := [some (vr 1), some (vi 0), some (vi 0), some (vi 0), some (vi 2), none]) dX5_firstFault_31 (Nat.le_of_ble_eq_true rfl) rfl ?_
        refine e_bipush dX5_firstFault_33 ⟨by decide, by decide, by decide⟩ ?_
        refine e_istore (ls' := [some (vr 1), some (vi 0), some (vi 0), some (vi 0), some (vi 2), some (vi (-9))]) dX5_firstFault_35 (Nat.le_of_ble_eq_true rfl) rfl ?_
        exact e_mask [true, true, true, true, true, true] (q_X5_firstFault_L37  h      300  0 0 0 2 (-9) hf)
      · replace hf := ifp hf c19
        refine e_iconst dX5_firstFault_22 ⟨by decide, by decide⟩ ?_
        obtain rfl := Option.some.inj hf
        exact e_ireturn dX5_firstFault_23 rfl ⟨rfl, rfl⟩
    · replace hf := ifn hf c7
      refine e_iconst dX5_firstFault_10 ⟨by decide, by decide⟩ ?_
      obtain rfl := Option.some.inj hf
      exact e_ireturn dX5_firstFault_11 rfl ⟨rfl, rfl⟩
  exact Cn_of rfl (fun _ => Nat.le_of_ble_eq_true rfl) ⟨rfl, rfl⟩ (e_pad 5 key)
abbrev m_X5_law : MI := (yX5_law, cX5_law, 1, some .int, { frames := 2, cells := 0, slots := 0, locals := 42 })
def p_X5_law (h : Mem)   : Option (Int) :=
  bd (p_X5_digitAt h 1) (fun r2 => some r2)
set_option maxRecDepth 20000 in
theorem q_X5_law (h : Mem)    {X : Int} (hf : p_X5_law h   = some X) : Cn m_X5_law [vr 1] h (fun r h' => r = some (vi X) ∧ h' = h) := by
  unfold p_X5_law at hf
  have key : E m_X5_law none (fun r h' => r = some (vi X) ∧ h' = h) 0 [some (vr 1)] [] h := by
    refine e_aload_n dX5_law_0 rfl ?_
    refine e_iconst dX5_law_1 ⟨by decide, by decide⟩ ?_
    obtain ⟨r2, e2, hf⟩ := bd_some hf
    refine e_callV1i dX5_law_2 rfl lk_268 ⟨rfl, rfl, Nat.le_of_ble_eq_true rfl, Nat.le_of_ble_eq_true rfl⟩ rfl rfl (Nat.le_of_ble_eq_true rfl) (q_X5_digitAt h   1 e2) ?_
    obtain rfl := Option.some.inj hf
    exact e_ireturn dX5_law_5 rfl ⟨rfl, rfl⟩
  exact Cn_of rfl (fun _ => Nat.le_of_ble_eq_true rfl) ⟨rfl, rfl⟩ (e_pad 0 key)
theorem lk_304 : VLk "StarRight$Text" 41 m_X6_addRoof 4 := ⟨tw_304, tw_305, tw_306, tw_4, tw_307, by decide +kernel⟩
theorem lk_308 : VLk "StarRight$Text" 47 m_X4_addStar 3 := ⟨tw_308, tw_309, tw_310, tw_3, tw_311, by decide +kernel⟩
abbrev m_X5_tellParts : MI := (yX5_tellParts, cX5_tellParts, 4, none, { frames := 2, cells := 0, slots := 0, locals := 42 })
def p_X5_tellParts_2 (K2 : Mem → Int → Option (Mem)) (h : Mem) (t : Nat)  (l3 : Int) : Option (Mem) :=
  if h 1 1 ≤ l3 then (some h) else (bd (p_X5_byteAt h l3) (fun r12 => if r12 = 82 then (bd (p_X5_digitAt h (wr (l3 + 1))) (fun r25 => bd (p_X5_digitAt h (wr (l3 + 2))) (fun r32 => bd (p_X5_digitAt h (wr (l3 + 3))) (fun r39 => bd (p_X5_digitAt h (wr (l3 + 4))) (fun r46 => bd (p_X6_addRoof h t r25 r32 r39 r46) (fun h49 => K2 h49 (wr (l3 + 5)))))))) else (bd (p_X5_digitAt h (wr (l3 + 1))) (fun r63 => bd (p_X5_digitAt h (wr (l3 + 2))) (fun r70 => bd (p_X5_digitAt h (wr (l3 + 3))) (fun r77 => bd (p_X4_addStar h r63 r70 r77) (fun h80 => K2 h80 (wr (l3 + 4)))))))))
set_option maxRecDepth 20000 in
theorem q_X5_tellParts_2 (K2 : Mem → Int → Option (Mem)) (h : Mem) (t : Nat) (ht : IsT t)   (l3 : Int) {X : Mem} (hK2 : ∀ (h : Mem) (l3 : Int), K2 h l3 = some X → E m_X5_tellParts none (fun r h' => r = none ∧ h' = X) 2 [some (vr 1), some (vr t), some (vr 3), some (vi l3)] [] h) (hf : p_X5_tellParts_2 K2 h t  l3 = some X) : E m_X5_tellParts none (fun r h' => r = none ∧ h' = X) 2 [some (vr 1), some (vr t), some (vr 3), some (vi l3)] [] h := by
  unfold p_X5_tellParts_2 at hf
  refine e_iload_n dX5_tellParts_2 rfl ?_
  refine e_aload_n dX5_tellParts_3 rfl ?_
  refine e_getI (kz := 1) rfl dX5_tellParts_4 rfl fl_30 rfl rfl (Or.inl rfl) ?_
  refine e_icmp_ge (tgt := 89) dX5_tellParts_7 (by decide) (fun c7 => ?_) (fun c7 => ?_)
  · replace hf := ifp hf c7
    obtain rfl := Option.some.inj hf
    exact e_return dX5_tellParts_89 rfl ⟨rfl, rfl⟩
  · replace hf := ifn hf c7
    refine e_aload_n dX5_tellParts_10 rfl ?_
    refine e_iload_n dX5_tellParts_11 rfl ?_
    obtain ⟨r12, e12, hf⟩ := bd_some hf
    refine e_callV1i dX5_tellParts_12 rfl lk_260 ⟨rfl, rfl, Nat.le_of_ble_eq_true rfl, Nat.le_of_ble_eq_true rfl⟩ rfl rfl (Nat.le_of_ble_eq_true rfl) (q_X5_byteAt h   l3 e12) ?_
    refine e_bipush dX5_tellParts_15 ⟨by decide, by decide, by decide⟩ ?_
    refine e_icmp_ne (tgt := 58) dX5_tellParts_17 (by decide) (fun c17 => ?_) (fun c17 => ?_)
    · replace hf := ifn hf c17
      refine e_aload_n dX5_tellParts_58 rfl ?_
      refine e_aload_n dX5_tellParts_59 rfl ?_
      refine e_iload_n dX5_tellParts_60 rfl ?_
      refine e_iconst dX5_tellParts_61 ⟨by decide, by decide⟩ ?_
      refine e_iadd dX5_tellParts_62 ?_
      obtain ⟨r63, e63, hf⟩ := bd_some hf
      refine e_callV1i dX5_tellParts_63 rfl lk_268 ⟨rfl, rfl, Nat.le_of_ble_eq_true rfl, Nat.le_of_ble_eq_true rfl⟩ rfl rfl (Nat.le_of_ble_eq_true rfl) (q_X5_digitAt h   (wr (l3 + 1)) e63) ?_
      refine e_aload_n dX5_tellParts_66 rfl ?_
      refine e_iload_n dX5_tellParts_67 rfl ?_
      refine e_iconst dX5_tellParts_68 ⟨by decide, by decide⟩ ?_
      refine e_iadd dX5_tellParts_69 ?_
      obtain ⟨r70, e70, hf⟩ := bd_some hf
      refine e_callV1i dX5_tellParts_70 rfl lk_268 ⟨rfl, rfl, Nat.le_of_ble_eq_true rfl, Nat.le_of_ble_eq_true rfl⟩ rfl rfl (Nat.le_of_ble_eq_true rfl) (q_X5_digitAt h   (wr (l3 + 2)) e70) ?_
      refine e_aload_n dX5_tellParts_73 rfl ?_
      refine e_iload_n dX5_tellParts_74 rfl ?_
      refine e_iconst dX5_tellParts_75 ⟨by decide, by decide⟩ ?_
      refine e_iadd dX5_tellParts_76 ?_
      obtain ⟨r77, e77, hf⟩ := bd_some hf
      refine e_callV1i dX5_tellParts_77 rfl lk_268 ⟨rfl, rfl, Nat.le_of_ble_eq_true rfl, Nat.le_of_ble_eq_true rfl⟩ rfl rfl (Nat.le_of_ble_eq_true rfl) (q_X5_digitAt h   (wr (l3 + 3)) e77) ?_
      obtain ⟨h80, e80, hf⟩ := bd_some hf
      refine e_callV3v dX5_tellParts_80 rfl lk_308 ⟨rfl, rfl, Nat.le_of_ble_eq_true rfl, Nat.le_of_ble_eq_true rfl⟩ rfl rfl (Nat.le_of_ble_eq_true rfl) (q_X4_addStar h   r63 r70 r77 e80) ?_
      refine e_iinc (ls' := [some (vr 1), some (vr t), some (vr 3), some (vi (wr (l3 + 4)))]) dX5_tellParts_83 rfl (Nat.le_of_ble_eq_true rfl) rfl ?_
      refine e_goto (tgt := 2) dX5_tellParts_86 (by decide) ?_
      exact e_mask [true, true, true, true] (hK2 h80 (wr (l3 + 4)) hf)
    · replace hf := ifp hf c17
      refine e_aload_n dX5_tellParts_20 rfl ?_
      refine e_aload_n dX5_tellParts_21 rfl ?_
      refine e_iload_n dX5_tellParts_22 rfl ?_
      refine e_iconst dX5_tellParts_23 ⟨by decide, by decide⟩ ?_
      refine e_iadd dX5_tellParts_24 ?_
      obtain ⟨r25, e25, hf⟩ := bd_some hf
      refine e_callV1i dX5_tellParts_25 rfl lk_268 ⟨rfl, rfl, Nat.le_of_ble_eq_true rfl, Nat.le_of_ble_eq_true rfl⟩ rfl rfl (Nat.le_of_ble_eq_true rfl) (q_X5_digitAt h   (wr (l3 + 1)) e25) ?_
      refine e_aload_n dX5_tellParts_28 rfl ?_
      refine e_iload_n dX5_tellParts_29 rfl ?_
      refine e_iconst dX5_tellParts_30 ⟨by decide, by decide⟩ ?_
      refine e_iadd dX5_tellParts_31 ?_
      obtain ⟨r32, e32, hf⟩ := bd_some hf
      refine e_callV1i dX5_tellParts_32 rfl lk_268 ⟨rfl, rfl, Nat.le_of_ble_eq_true rfl, Nat.le_of_ble_eq_true rfl⟩ rfl rfl (Nat.le_of_ble_eq_true rfl) (q_X5_digitAt h   (wr (l3 + 2)) e32) ?_
      refine e_aload_n dX5_tellParts_35 rfl ?_
      refine e_iload_n dX5_tellParts_36 rfl ?_
      refine e_iconst dX5_tellParts_37 ⟨by decide, by decide⟩ ?_
      refine e_iadd dX5_tellParts_38 ?_
      obtain ⟨r39, e39, hf⟩ := bd_some hf
      refine e_callV1i dX5_tellParts_39 rfl lk_268 ⟨rfl, rfl, Nat.le_of_ble_eq_true rfl, Nat.le_of_ble_eq_true rfl⟩ rfl rfl (Nat.le_of_ble_eq_true rfl) (q_X5_digitAt h   (wr (l3 + 3)) e39) ?_
      refine e_aload_n dX5_tellParts_42 rfl ?_
      refine e_iload_n dX5_tellParts_43 rfl ?_
      refine e_iconst dX5_tellParts_44 ⟨by decide, by decide⟩ ?_
      refine e_iadd dX5_tellParts_45 ?_
      obtain ⟨r46, e46, hf⟩ := bd_some hf
      refine e_callV1i dX5_tellParts_46 rfl lk_268 ⟨rfl, rfl, Nat.le_of_ble_eq_true rfl, Nat.le_of_ble_eq_true rfl⟩ rfl rfl (Nat.le_of_ble_eq_true rfl) (q_X5_digitAt h   (wr (l3 + 4)) e46) ?_
      obtain ⟨h49, e49, hf⟩ := bd_some hf
      refine e_callV4v dX5_tellParts_49 rfl lk_304 ⟨rfl, rfl, Nat.le_of_ble_eq_true rfl, Nat.le_of_ble_eq_true rfl⟩ ht.1 rfl (Nat.le_of_ble_eq_true rfl) (q_X6_addRoof h t ht r25 r32 r39 r46 e49) ?_
      refine e_iinc (ls' := [some (vr 1), some (vr t), some (vr 3), some (vi (wr (l3 + 5)))]) dX5_tellParts_52 rfl (Nat.le_of_ble_eq_true rfl) rfl ?_
      refine e_goto (tgt := 2) dX5_tellParts_55 (by decide) ?_
      exact e_mask [true, true, true, true] (hK2 h49 (wr (l3 + 5)) hf)
def p_X5_tellParts_L2   (t : Nat)  : Nat → Mem → Int → Option (Mem)
  | 0, _, _ => none
  | n + 1, h, l3 => p_X5_tellParts_2 (fun (h : Mem) (l3 : Int) => p_X5_tellParts_L2   t  n h l3) h t  l3
theorem q_X5_tellParts_L2   (t : Nat) (ht : IsT t)   {X : Mem}  : ∀ (n : Nat) (h : Mem) (l3 : Int), p_X5_tellParts_L2   t  n h l3 = some X → E m_X5_tellParts none (fun r h' => r = none ∧ h' = X) 2 [some (vr 1), some (vr t), some (vr 3), some (vi l3)] [] h := by
  intro n
  induction n with
  | zero => intro h l3 hf; have hf2 : (none : Option (Mem)) = some X := hf; cases hf2
  | succ n ih => intro h l3 hf; exact q_X5_tellParts_2 (fun (h : Mem) (l3 : Int) => p_X5_tellParts_L2   t  n h l3) h t ht   l3 (fun h l3 hf => ih h l3 hf) hf
def p_X5_tellParts (h : Mem) (t : Nat)  : Option (Mem) :=
  p_X5_tellParts_L2   t  300 h 2
set_option maxRecDepth 20000 in
theorem q_X5_tellParts (h : Mem) (t : Nat) (ht : IsT t)  {X : Mem} (hf : p_X5_tellParts h t  = some X) : Cn m_X5_tellParts [vr 1, vr t, vr 3] h (fun r h' => r = none ∧ h' = X) := by
  unfold p_X5_tellParts at hf
  have key : E m_X5_tellParts none (fun r h' => r = none ∧ h' = X) 0 [some (vr 1), some (vr t), some (vr 3), none] [] h := by
    refine e_iconst dX5_tellParts_0 ⟨by decide, by decide⟩ ?_
    refine e_istore_n (ls' := [some (vr 1), some (vr t), some (vr 3), some (vi 2)]) dX5_tellParts_1 (Nat.le_of_ble_eq_true rfl) rfl ?_
    exact e_mask [true, true, true, true] (q_X5_tellParts_L2   t ht    300 h 2 hf)
  exact Cn_of rfl (fun _ => Nat.le_of_ble_eq_true rfl) ⟨rfl, rfl⟩ (e_pad 1 key)
