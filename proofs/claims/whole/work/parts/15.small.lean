abbrev m_X0_clear : MI := (yX0_clear, cX0_clear, 1, none, { frames := 0, cells := 0, slots := 0, locals := 0 })
def p_X0_clear (h : Mem)   : Option (Mem) :=
  some (up h 33 3 0)
set_option maxRecDepth 20000 in
theorem q_X0_clear (h : Mem)    {X : Mem} (hf : p_X0_clear h   = some X) : Cn m_X0_clear [vr 33] h (fun r h' => r = none ∧ h' = X) := by
  unfold p_X0_clear at hf
  have key : E m_X0_clear none (fun r h' => r = none ∧ h' = X) 0 [some (vr 33)] [] h := by
    refine e_aload_n dX0_clear_0 rfl ?_
    refine e_iconst dX0_clear_1 ⟨by decide, by decide⟩ ?_
    refine e_putI (t := 0) (kz := 3) rfl dX0_clear_2 rfl fp_146 rfl rfl (Or.inl rfl) ?_
    obtain rfl := Option.some.inj hf
    exact e_return dX0_clear_5 rfl ⟨rfl, rfl⟩
  exact Cn_of rfl (fun _ => Nat.le_of_ble_eq_true rfl) ⟨rfl, rfl⟩ (e_pad 0 key)
abbrev m_X0_forgetFirst : MI := (yX0_forgetFirst, cX0_forgetFirst, 1, none, { frames := 1, cells := 0, slots := 0, locals := 18 })
def p_X0_forgetFirst_57  (h : Mem)    : Option (Mem) :=
  some h
set_option maxRecDepth 20000 in
theorem q_X0_forgetFirst_57  (h : Mem)      {X : Mem}  (hf : p_X0_forgetFirst_57  h    = some X) : E m_X0_forgetFirst none (fun r h' => r = none ∧ h' = X) 57 [some (vr 33)] [] h := by
  unfold p_X0_forgetFirst_57 at hf
  obtain rfl := Option.some.inj hf
  exact e_return dX0_forgetFirst_57 rfl ⟨rfl, rfl⟩
def p_X0_forgetFirst (h : Mem)   : Option (Mem) :=
  gd ((0 : Int) ≤ 1 ∧ (0 : Int) ≤ 0 ∧ (0 : Int) ≤ (up h 33 3 13) 33 3 ∧ (1 : Int) + (up h 33 3 13) 33 3 ≤ 14 ∧ (0 : Int) + (up h 33 3 13) 33 3 ≤ 14) (gd ((0 : Int) ≤ 1 ∧ (0 : Int) ≤ 0 ∧ (0 : Int) ≤ (cp (up h 33 3 13) 34 1 34 0 ((up h 33 3 13) 33 3)) 33 3 ∧ (1 : Int) + (cp (up h 33 3 13) 34 1 34 0 ((up h 33 3 13) 33 3)) 33 3 ≤ 14 ∧ (0 : Int) + (cp (up h 33 3 13) 34 1 34 0 ((up h 33 3 13) 33 3)) 33 3 ≤ 14) (gd ((0 : Int) ≤ 1 ∧ (0 : Int) ≤ 0 ∧ (0 : Int) ≤ (cp (cp (up h 33 3 13) 34 1 34 0 ((up h 33 3 13) 33 3)) 35 1 35 0 ((cp (up h 33 3 13) 34 1 34 0 ((up h 33 3 13) 33 3)) 33 3)) 33 3 ∧ (1 : Int) + (cp (cp (up h 33 3 13) 34 1 34 0 ((up h 33 3 13) 33 3)) 35 1 35 0 ((cp (up h 33 3 13) 34 1 34 0 ((up h 33 3 13) 33 3)) 33 3)) 33 3 ≤ 14 ∧ (0 : Int) + (cp (cp (up h 33 3 13) 34 1 34 0 ((up h 33 3 13) 33 3)) 35 1 35 0 ((cp (up h 33 3 13) 34 1 34 0 ((up h 33 3 13) 33 3)) 33 3)) 33 3 ≤ 14) (p_X0_forgetFirst_57  (cp (cp (cp (up h 33 3 13) 34 1 34 0 ((up h 33 3 13) 33 3)) 35 1 35 0 ((cp (up h 33 3 13) 34 1 34 0 ((up h 33 3 13) 33 3)) 33 3)) 36 1 36 0 ((cp (cp (up h 33 3 13) 34 1 34 0 ((up h 33 3 13) 33 3)) 35 1 35 0 ((cp (up h 33 3 13) 34 1 34 0 ((up h 33 3 13) 33 3)) 33 3)) 33 3))   )))
set_option maxRecDepth 20000 in
theorem q_X0_forgetFirst (h : Mem)    {X : Mem} (hf : p_X0_forgetFirst h   = some X) : Cn m_X0_forgetFirst [vr 33] h (fun r h' => r = none ∧ h' = X) := by
  unfold p_X0_forgetFirst at hf
  have key : E m_X0_forgetFirst none (fun r h' => r = none ∧ h' = X) 0 [some (vr 33)] [] h := by
    refine e_aload_n dX0_forgetFirst_0 rfl ?_
    refine e_bipush dX0_forgetFirst_1 ⟨by decide, by decide, by decide⟩ ?_
    refine e_putI (t := 0) (kz := 3) rfl dX0_forgetFirst_3 rfl fp_146 rfl rfl (Or.inl rfl) ?_
    refine e_aload_n dX0_forgetFirst_6 rfl ?_
    refine e_getR dX0_forgetFirst_7 rfl fl_140 rfl rfl ?_
    refine e_iconst dX0_forgetFirst_10 ⟨by decide, by decide⟩ ?_
    refine e_aload_n dX0_forgetFirst_11 rfl ?_
    refine e_getR dX0_forgetFirst_12 rfl fl_140 rfl rfl ?_
    refine e_iconst dX0_forgetFirst_15 ⟨by decide, by decide⟩ ?_
    refine e_aload_n dX0_forgetFirst_16 rfl ?_
    refine e_getI (kz := 3) rfl dX0_forgetFirst_17 rfl fl_146 rfl rfl (Or.inl rfl) ?_
    obtain ⟨g20, hf⟩ := gd_some hf
    refine e_acopy dX0_forgetFirst_20 rfl tw_434 ⟨tw_436, tw_435, tw_12⟩ rfl rfl g20.1 g20.2.1 g20.2.2.1 g20.2.2.2.1 g20.2.2.2.2 (Nat.le_of_ble_eq_true rfl) (Nat.le_of_ble_eq_true rfl) ?_
    refine e_aload_n dX0_forgetFirst_23 rfl ?_
    refine e_getR dX0_forgetFirst_24 rfl fl_142 rfl rfl ?_
    refine e_iconst dX0_forgetFirst_27 ⟨by decide, by decide⟩ ?_
    refine e_aload_n dX0_forgetFirst_28 rfl ?_
    refine e_getR dX0_forgetFirst_29 rfl fl_142 rfl rfl ?_
    refine e_iconst dX0_forgetFirst_32 ⟨by decide, by decide⟩ ?_
    refine e_aload_n dX0_forgetFirst_33 rfl ?_
    refine e_getI (kz := 3) rfl dX0_forgetFirst_34 rfl fl_146 rfl rfl (Or.inl rfl) ?_
    obtain ⟨g37, hf⟩ := gd_some hf
    refine e_acopy dX0_forgetFirst_37 rfl tw_434 ⟨tw_436, tw_435, tw_12⟩ rfl rfl g37.1 g37.2.1 g37.2.2.1 g37.2.2.2.1 g37.2.2.2.2 (Nat.le_of_ble_eq_true rfl) (Nat.le_of_ble_eq_true rfl) ?_
    refine e_aload_n dX0_forgetFirst_40 rfl ?_
    refine e_getR dX0_forgetFirst_41 rfl fl_144 rfl rfl ?_
    refine e_iconst dX0_forgetFirst_44 ⟨by decide, by decide⟩ ?_
    refine e_aload_n dX0_forgetFirst_45 rfl ?_
    refine e_getR dX0_forgetFirst_46 rfl fl_144 rfl rfl ?_
    refine e_iconst dX0_forgetFirst_49 ⟨by decide, by decide⟩ ?_
    refine e_aload_n dX0_forgetFirst_50 rfl ?_
    refine e_getI (kz := 3) rfl dX0_forgetFirst_51 rfl fl_146 rfl rfl (Or.inl rfl) ?_
    obtain ⟨g54, hf⟩ := gd_some hf
    refine e_acopy dX0_forgetFirst_54 rfl tw_434 ⟨tw_436, tw_435, tw_12⟩ rfl rfl g54.1 g54.2.1 g54.2.2.1 g54.2.2.2.1 g54.2.2.2.2 (Nat.le_of_ble_eq_true rfl) (Nat.le_of_ble_eq_true rfl) ?_
    exact e_mask [true] (q_X0_forgetFirst_57  (cp (cp (cp (up h 33 3 13) 34 1 34 0 ((up h 33 3 13) 33 3)) 35 1 35 0 ((cp (up h 33 3 13) 34 1 34 0 ((up h 33 3 13) 33 3)) 33 3)) 36 1 36 0 ((cp (cp (up h 33 3 13) 34 1 34 0 ((up h 33 3 13) 33 3)) 35 1 35 0 ((cp (up h 33 3 13) 34 1 34 0 ((up h 33 3 13) 33 3)) 33 3)) 33 3))       hf)
  exact Cn_of rfl (fun _ => Nat.le_of_ble_eq_true rfl) ⟨rfl, rfl⟩ (e_pad 0 key)
theorem lk_430 : VLk "StarRight$Acts" 25 m_X0_forgetFirst 0 := ⟨tw_430, tw_432, twp_11, tw_7, tw_433, by decide +kernel⟩
abbrev m_X0_add : MI := (yX0_add, cX0_add, 4, none, { frames := 2, cells := 0, slots := 0, locals := 38 })
def p_X0_add_53  (h : Mem)    : Option (Mem) :=
  some h
set_option maxRecDepth 20000 in
theorem q_X0_add_53  (h : Mem)      {X : Mem}  (hf : p_X0_add_53  h    = some X) : E m_X0_add none (fun r h' => r = none ∧ h' = X) 53 [some (vr 33), none, none, none] [] h := by
  unfold p_X0_add_53 at hf
  obtain rfl := Option.some.inj hf
  exact e_return dX0_add_53 rfl ⟨rfl, rfl⟩
def p_X0_add_13  (h : Mem)   (l1 l2 l3 : Int) : Option (Mem) :=
  gd (0 ≤ h 33 3 ∧ h 33 3 < 14) (gd (0 ≤ (up h 34 (h 33 3) l1) 33 3 ∧ (up h 34 (h 33 3) l1) 33 3 < 14) (gd (0 ≤ (up (up h 34 (h 33 3) l1) 35 ((up h 34 (h 33 3) l1) 33 3) l2) 33 3 ∧ (up (up h 34 (h 33 3) l1) 35 ((up h 34 (h 33 3) l1) 33 3) l2) 33 3 < 14) (p_X0_add_53  (up (up (up (up h 34 (h 33 3) l1) 35 ((up h 34 (h 33 3) l1) 33 3) l2) 36 ((up (up h 34 (h 33 3) l1) 35 ((up h 34 (h 33 3) l1) 33 3) l2) 33 3) l3) 33 3 (wr (((up (up (up h 34 (h 33 3) l1) 35 ((up h 34 (h 33 3) l1) 33 3) l2) 36 ((up (up h 34 (h 33 3) l1) 35 ((up h 34 (h 33 3) l1) 33 3) l2) 33 3) l3) 33 3) + 1)))   )))
set_option maxRecDepth 20000 in
theorem q_X0_add_13  (h : Mem)     (l1 l2 l3 : Int) {X : Mem}  (hf : p_X0_add_13  h   l1 l2 l3 = some X) : E m_X0_add none (fun r h' => r = none ∧ h' = X) 13 [some (vr 33), some (vi l1), some (vi l2), some (vi l3)] [] h := by
  unfold p_X0_add_13 at hf
  refine e_aload_n dX0_add_13 rfl ?_
  refine e_getR dX0_add_14 rfl fl_140 rfl rfl ?_
  refine e_aload_n dX0_add_17 rfl ?_
  refine e_getI (kz := 3) rfl dX0_add_18 rfl fl_146 rfl rfl (Or.inl rfl) ?_
  refine e_iload_n dX0_add_21 rfl ?_
  obtain ⟨g22, hf⟩ := gd_some hf
  refine e_iast dX0_add_22 rfl g22 ?_
  refine e_aload_n dX0_add_23 rfl ?_
  refine e_getR dX0_add_24 rfl fl_142 rfl rfl ?_
  refine e_aload_n dX0_add_27 rfl ?_
  refine e_getI (kz := 3) rfl dX0_add_28 rfl fl_146 rfl rfl (Or.inl rfl) ?_
  refine e_iload_n dX0_add_31 rfl ?_
  obtain ⟨g32, hf⟩ := gd_some hf
  refine e_iast dX0_add_32 rfl g32 ?_
  refine e_aload_n dX0_add_33 rfl ?_
  refine e_getR dX0_add_34 rfl fl_144 rfl rfl ?_
  refine e_aload_n dX0_add_37 rfl ?_
  refine e_getI (kz := 3) rfl dX0_add_38 rfl fl_146 rfl rfl (Or.inl rfl) ?_
  refine e_iload_n dX0_add_41 rfl ?_
  obtain ⟨g42, hf⟩ := gd_some hf
  refine e_iast dX0_add_42 rfl g42 ?_
  refine e_aload_n dX0_add_43 rfl ?_
  refine e_dup dX0_add_44 (fun _ => rfl) ?_
  refine e_getI (kz := 3) rfl dX0_add_45 rfl fl_146 rfl rfl (Or.inl rfl) ?_
  refine e_iconst dX0_add_48 ⟨by decide, by decide⟩ ?_
  refine e_iadd dX0_add_49 ?_
  refine e_putI (t := 0) (kz := 3) rfl dX0_add_50 rfl fp_146 rfl rfl (Or.inl rfl) ?_
  exact e_mask [true, false, false, false] (q_X0_add_53  (up (up (up (up h 34 (h 33 3) l1) 35 ((up h 34 (h 33 3) l1) 33 3) l2) 36 ((up (up h 34 (h 33 3) l1) 35 ((up h 34 (h 33 3) l1) 33 3) l2) 33 3) l3) 33 3 (wr (((up (up (up h 34 (h 33 3) l1) 35 ((up h 34 (h 33 3) l1) 33 3) l2) 36 ((up (up h 34 (h 33 3) l1) 35 ((up h 34 (h 33 3) l1) 33 3) l2) 33 3) l3) 33 3) + 1)))       hf)
def p_X0_add (h : Mem)  (l1 l2 l3 : Int) : Option (Mem) :=
  if h 33 3 < 14 then (p_X0_add_13  h   l1 l2 l3) else (bd (p_X0_forgetFirst h ) (fun h10 => p_X0_add_13  h10   l1 l2 l3))
set_option maxRecDepth 20000 in
theorem q_X0_add (h : Mem)   (l1 l2 l3 : Int) {X : Mem} (hf : p_X0_add h  l1 l2 l3 = some X) : Cn m_X0_add [vr 33, vi l1, vi l2, vi l3] h (fun r h' => r = none ∧ h' = X) := by
  unfold p_X0_add at hf
  have key : E m_X0_add none (fun r h' => r = none ∧ h' = X) 0 [some (vr 33), some (vi l1), some (vi l2), some (vi l3)] [] h := by
    refine e_aload_n dX0_add_0 rfl ?_
    refine e_getI (kz := 3) rfl dX0_add_1 rfl fl_146 rfl rfl (Or.inl rfl) ?_
    refine e_bipush dX0_add_4 ⟨by decide, by decide, by decide⟩ ?_
    refine e_icmp_lt (tgt := 13) dX0_add_6 (by decide) (fun c6 => ?_) (fun c6 => ?_)
    · replace hf := ifp hf c6
      exact e_mask [true, true, true, true] (q_X0_add_13  h     l1 l2 l3  hf)
    · replace hf := ifn hf c6
      refine e_aload_n dX0_add_9 rfl ?_
      obtain ⟨h10, e10, hf⟩ := bd_some hf
      refine e_callV0v dX0_add_10 rfl lk_430 ⟨rfl, rfl, Nat.le_of_ble_eq_true rfl, Nat.le_of_ble_eq_true rfl⟩ rfl rfl (Nat.le_of_ble_eq_true rfl) (q_X0_forgetFirst h    e10) ?_
      exact e_mask [true, true, true, true] (q_X0_add_13  h10     l1 l2 l3  hf)
  exact Cn_of rfl (fun _ => Nat.le_of_ble_eq_true rfl) ⟨rfl, rfl⟩ (e_pad 0 key)
abbrev m_X0_takeLast : MI := (yX0_takeLast, cX0_takeLast, 1, some .int, { frames := 0, cells := 0, slots := 0, locals := 0 })
def p_X0_takeLast (h : Mem)   : Option (Int × Mem) :=
  if 0 < h 33 3 then (some ((up h 33 3 (wr ((h 33 3) - 1))) 33 3, (up h 33 3 (wr ((h 33 3) - 1))))) else (some ((-9), h))
set_option maxRecDepth 20000 in
theorem q_X0_takeLast (h : Mem)    {X : Int × Mem} (hf : p_X0_takeLast h   = some X) : Cn m_X0_takeLast [vr 33] h (fun r h' => r = some (vi X.1) ∧ h' = X.2) := by
  unfold p_X0_takeLast at hf
  have key : E m_X0_takeLast none (fun r h' => r = some (vi X.1) ∧ h' = X.2) 0 [some (vr 33)] [] h := by
    refine e_aload_n dX0_takeLast_0 rfl ?_
    refine e_getI (kz := 3) rfl dX0_takeLast_1 rfl fl_146 rfl rfl (Or.inl rfl) ?_
    refine e_if_gt (tgt := 10) dX0_takeLast_4 (by decide) (fun c4 => ?_) (fun c4 => ?_)
    · replace hf := ifp hf c4
      refine e_aload_n dX0_takeLast_10 rfl ?_
      refine e_dup dX0_takeLast_11 (fun _ => rfl) ?_
      refine e_getI (kz := 3) rfl dX0_takeLast_12 rfl fl_146 rfl rfl (Or.inl rfl) ?_
      refine e_iconst dX0_takeLast_15 ⟨by decide, by decide⟩ ?_
      refine e_isub dX0_takeLast_16 ?_
      refine e_putI (t := 0) (kz := 3) rfl dX0_takeLast_17 rfl fp_146 rfl rfl (Or.inl rfl) ?_
      refine e_aload_n dX0_takeLast_20 rfl ?_
      refine e_getI (kz := 3) rfl dX0_takeLast_21 rfl fl_146 rfl rfl (Or.inl rfl) ?_
      obtain rfl := Option.some.inj hf
      exact e_ireturn dX0_takeLast_24 rfl ⟨rfl, rfl⟩
    · replace hf := ifn hf c4
      refine e_bipush dX0_takeLast_7 ⟨by decide, by decide, by decide⟩ ?_
      obtain rfl := Option.some.inj hf
      exact e_ireturn dX0_takeLast_9 rfl ⟨rfl, rfl⟩
  exact Cn_of rfl (fun _ => Nat.le_of_ble_eq_true rfl) ⟨rfl, rfl⟩ (e_pad 0 key)
abbrev m_X1_heightOfFirst : MI := (yX1_heightOfFirst, cX1_heightOfFirst, 1, some .int, { frames := 0, cells := 0, slots := 0, locals := 0 })
def p_X1_heightOfFirst (h : Mem)  (l0 : Int) : Option (Int) :=
  some (qdiv l0 10)
set_option maxRecDepth 20000 in
theorem q_X1_heightOfFirst (h : Mem)   (l0 : Int) {X : Int} (hf : p_X1_heightOfFirst h  l0 = some X) : Cn m_X1_heightOfFirst [vi l0] h (fun r h' => r = some (vi X) ∧ h' = h) := by
  unfold p_X1_heightOfFirst at hf
  have key : E m_X1_heightOfFirst none (fun r h' => r = some (vi X) ∧ h' = h) 0 [some (vi l0)] [] h := by
    refine e_iload_n dX1_heightOfFirst_0 rfl ?_
    refine e_bipush dX1_heightOfFirst_1 ⟨by decide, by decide, by decide⟩ ?_
    refine e_idiv dX1_heightOfFirst_3 (by decide) ?_
    obtain rfl := Option.some.inj hf
    exact e_ireturn dX1_heightOfFirst_4 rfl ⟨rfl, rfl⟩
  exact Cn_of rfl (fun _ => Nat.le_of_ble_eq_true rfl) ⟨rfl, rfl⟩ (e_pad 0 key)
abbrev m_X1_heightOfOther : MI := (yX1_heightOfOther, cX1_heightOfOther, 1, some .int, { frames := 0, cells := 0, slots := 0, locals := 0 })
def p_X1_heightOfOther (h : Mem)  (l0 : Int) : Option (Int) :=
  some (qrem l0 10)
set_option maxRecDepth 20000 in
theorem q_X1_heightOfOther (h : Mem)   (l0 : Int) {X : Int} (hf : p_X1_heightOfOther h  l0 = some X) : Cn m_X1_heightOfOther [vi l0] h (fun r h' => r = some (vi X) ∧ h' = h) := by
  unfold p_X1_heightOfOther at hf
  have key : E m_X1_heightOfOther none (fun r h' => r = some (vi X) ∧ h' = h) 0 [some (vi l0)] [] h := by
    refine e_iload_n dX1_heightOfOther_0 rfl ?_
    refine e_bipush dX1_heightOfOther_1 ⟨by decide, by decide, by decide⟩ ?_
    refine e_irem dX1_heightOfOther_3 (by decide) ?_
    obtain rfl := Option.some.inj hf
    exact e_ireturn dX1_heightOfOther_4 rfl ⟨rfl, rfl⟩
  exact Cn_of rfl (fun _ => Nat.le_of_ble_eq_true rfl) ⟨rfl, rfl⟩ (e_pad 0 key)
abbrev m_X1_put : MI := (yX1_put, cX1_put, 4, none, { frames := 0, cells := 0, slots := 0, locals := 0 })
def p_X1_put (h : Mem)  (l1 l2 l3 : Int) : Option (Mem) :=
  if l1 < 0 then (some h) else (if 100 ≤ l1 then (some h) else (gd (0 ≤ l1 ∧ l1 < 100) (gd (0 ≤ l1 ∧ l1 < 100) (some (up (up h 42 l1 l2) 43 l1 l3)))))
set_option maxRecDepth 20000 in
theorem q_X1_put (h : Mem)   (l1 l2 l3 : Int) {X : Mem} (hf : p_X1_put h  l1 l2 l3 = some X) : Cn m_X1_put [vr 41, vi l1, vi l2, vi l3] h (fun r h' => r = none ∧ h' = X) := by
  unfold p_X1_put at hf
  have key : E m_X1_put none (fun r h' => r = none ∧ h' = X) 0 [some (vr 41), some (vi l1), some (vi l2), some (vi l3)] [] h := by
    refine e_iload_n dX1_put_0 rfl ?_
    refine e_if_lt (tgt := 24) dX1_put_1 (by decide) (fun c1 => ?_) (fun c1 => ?_)
    · replace hf := ifp hf c1
      obtain rfl := Option.some.inj hf
      exact e_return dX1_put_24 rfl ⟨rfl, rfl⟩
    · replace hf := ifn hf c1
      refine e_iload_n dX1_put_4 rfl ?_
      refine e_bipush dX1_put_5 ⟨by decide, by decide, by decide⟩ ?_
      refine e_icmp_ge (tgt := 24) dX1_put_7 (by decide) (fun c7 => ?_) (fun c7 => ?_)
      · replace hf := ifp hf c7
        obtain rfl := Option.some.inj hf
        exact e_return dX1_put_24 rfl ⟨rfl, rfl⟩
      · replace hf := ifn hf c7
        refine e_aload_n dX1_put_10 rfl ?_
        refine e_getR dX1_put_11 rfl fl_184 rfl rfl ?_
        refine e_iload_n dX1_put_14 rfl ?_
        refine e_iload_n dX1_put_15 rfl ?_
        obtain ⟨g16, hf⟩ := gd_some hf
        refine e_iast dX1_put_16 rfl g16 ?_
        refine e_aload_n dX1_put_17 rfl ?_
        refine e_getR dX1_put_18 rfl fl_185 rfl rfl ?_
        refine e_iload_n dX1_put_21 rfl ?_
        refine e_iload_n dX1_put_22 rfl ?_
        obtain ⟨g23, hf⟩ := gd_some hf
        refine e_iast dX1_put_23 rfl g23 ?_
        obtain rfl := Option.some.inj hf
        exact e_return dX1_put_24 rfl ⟨rfl, rfl⟩
  exact Cn_of rfl (fun _ => Nat.le_of_ble_eq_true rfl) ⟨rfl, rfl⟩ (e_pad 0 key)
theorem lk_582 : SLk "StarRight$Contest" 18 m_X1_heightOfOther 1 := ⟨tw_582, tw_568, tw_9, tw_569, by decide +kernel⟩
theorem lk_583 : SLk "StarRight$Contest" 22 m_X1_heightOfFirst 1 := ⟨tw_583, tw_565, tw_9, tw_566, by decide +kernel⟩
abbrev m_X1_isAtRest : MI := (yX1_isAtRest, cX1_isAtRest, 5, some .boolean, { frames := 1, cells := 0, slots := 0, locals := 20 })
def p_X1_isAtRest_14 (K14 : Int → Int → Option (Int)) (h : Mem)   (l1 l2 : Int) : Option (Int) :=
  if 10 ≤ l2 then (some 1) else (bd (p_X1_heightOfOther h l1) (fun r25 => bd (p_X1_heightOfFirst h l1) (fun r31 => gd (0 ≤ wr ((wr (l2 * 10)) + r25) ∧ wr ((wr (l2 * 10)) + r25) < 100) (gd (0 ≤ l1 ∧ l1 < 100) (if h 42 l1 < h 42 (wr ((wr (l2 * 10)) + r25)) then (some 0) else (gd (0 ≤ wr ((wr (r31 * 10)) + l2) ∧ wr ((wr (r31 * 10)) + l2) < 100) (gd (0 ≤ l1 ∧ l1 < 100) (if h 43 (wr ((wr (r31 * 10)) + l2)) ≤ h 43 l1 then (K14 l1 (wr (l2 + 1))) else (some 0)))))))))
set_option maxRecDepth 20000 in
theorem q_X1_isAtRest_14 (K14 : Int → Int → Option (Int)) (h : Mem)     (l1 l2 : Int) {X : Int} (hK14 : ∀ (l1 l2 : Int), K14 l1 l2 = some X → E m_X1_isAtRest none (fun r h' => r = some (vi X) ∧ h' = h) 14 [some (vr 41), some (vi l1), some (vi l2), none, none] [] h) (hf : p_X1_isAtRest_14 K14 h   l1 l2 = some X) : E m_X1_isAtRest none (fun r h' => r = some (vi X) ∧ h' = h) 14 [some (vr 41), some (vi l1), some (vi l2), none, none] [] h := by
  unfold p_X1_isAtRest_14 at hf
  refine e_iload_n dX1_isAtRest_14 rfl ?_
  refine e_bipush dX1_isAtRest_15 ⟨by decide, by decide, by decide⟩ ?_
  refine e_icmp_ge (tgt := 80) dX1_isAtRest_17 (by decide) (fun c17 => ?_) (fun c17 => ?_)
  · replace hf := ifp hf c17
    refine e_iconst dX1_isAtRest_80 ⟨by decide, by decide⟩ ?_
    obtain rfl := Option.some.inj hf
    exact e_zreturn dX1_isAtRest_81 rfl (by decide) ⟨rfl, rfl⟩
  · replace hf := ifn hf c17
    refine e_iload_n dX1_isAtRest_20 rfl ?_
    refine e_bipush dX1_isAtRest_21 ⟨by decide, by decide, by decide⟩ ?_
    refine e_imul dX1_isAtRest_23 ?_
    refine e_iload_n dX1_isAtRest_24 rfl ?_
    obtain ⟨r25, e25, hf⟩ := bd_some hf
    refine e_callS1i dX1_isAtRest_25 rfl lk_582 ⟨rfl, rfl, Nat.le_of_ble_eq_true rfl, Nat.le_of_ble_eq_true rfl⟩ (Nat.le_of_ble_eq_true rfl) (q_X1_heightOfOther h   l1 e25) ?_
    refine e_iadd dX1_isAtRest_28 ?_
    refine e_istore_n (ls' := [some (vr 41), some (vi l1), some (vi l2), some (vi (wr ((wr (l2 * 10)) + r25))), none]) dX1_isAtRest_29 (Nat.le_of_ble_eq_true rfl) rfl ?_
    refine e_iload_n dX1_isAtRest_30 rfl ?_
    obtain ⟨r31, e31, hf⟩ := bd_some hf
    refine e_callS1i dX1_isAtRest_31 rfl lk_583 ⟨rfl, rfl, Nat.le_of_ble_eq_true rfl, Nat.le_of_ble_eq_true rfl⟩ (Nat.le_of_ble_eq_true rfl) (q_X1_heightOfFirst h   l1 e31) ?_
    refine e_bipush dX1_isAtRest_34 ⟨by decide, by decide, by decide⟩ ?_
    refine e_imul dX1_isAtRest_36 ?_
    refine e_iload_n dX1_isAtRest_37 rfl ?_
    refine e_iadd dX1_isAtRest_38 ?_
    refine e_istore (ls' := [some (vr 41), some (vi l1), some (vi l2), some (vi (wr ((wr (l2 * 10)) + r25))), some (vi (wr ((wr (r31 * 10)) + l2)))]) dX1_isAtRest_39 (Nat.le_of_ble_eq_true rfl) rfl ?_
    refine e_aload_n dX1_isAtRest_41 rfl ?_
    refine e_getR dX1_isAtRest_42 rfl fl_184 rfl rfl ?_
    refine e_iload_n dX1_isAtRest_45 rfl ?_
    obtain ⟨g46, hf⟩ := gd_some hf
    refine e_iald dX1_isAtRest_46 rfl g46 ?_
    refine e_aload_n dX1_isAtRest_47 rfl ?_
    refine e_getR dX1_isAtRest_48 rfl fl_184 rfl rfl ?_
    refine e_iload_n dX1_isAtRest_51 rfl ?_
    obtain ⟨g52, hf⟩ := gd_some hf
    refine e_iald dX1_isAtRest_52 rfl g52 ?_
    refine e_icmp_gt (tgt := 72) dX1_isAtRest_53 (by decide) (fun c53 => ?_) (fun c53 => ?_)
    · replace hf := ifp hf c53
      refine e_iconst dX1_isAtRest_72 ⟨by decide, by decide⟩ ?_
      obtain rfl := Option.some.inj hf
      exact e_zreturn dX1_isAtRest_73 rfl (by decide) ⟨rfl, rfl⟩
    · replace hf := ifn hf c53
      refine e_aload_n dX1_isAtRest_56 rfl ?_
      refine e_getR dX1_isAtRest_57 rfl fl_185 rfl rfl ?_
      refine e_iload dX1_isAtRest_60 rfl ?_
      obtain ⟨g62, hf⟩ := gd_some hf
      refine e_iald dX1_isAtRest_62 rfl g62 ?_
      refine e_aload_n dX1_isAtRest_63 rfl ?_
      refine e_getR dX1_isAtRest_64 rfl fl_185 rfl rfl ?_
      refine e_iload_n dX1_isAtRest_67 rfl ?_
      obtain ⟨g68, hf⟩ := gd_some hf
      refine e_iald dX1_isAtRest_68 rfl g68 ?_
      refine e_icmp_le (tgt := 74) dX1_isAtRest_69 (by decide) (fun c69 => ?_) (fun c69 => ?_)
      · replace hf := ifp hf c69
        refine e_iinc (ls' := [some (vr 41), some (vi l1), some (vi (wr (l2 + 1))), some (vi (wr ((wr (l2 * 10)) + r25))), some (vi (wr ((wr (r31 * 10)) + l2)))]) dX1_isAtRest_74 rfl (Nat.le_of_ble_eq_true rfl) rfl ?_
        refine e_goto (tgt := 14) dX1_isAtRest_77 (by decide) ?_
        exact e_mask [true, true, true, false, false] (hK14 l1 (wr (l2 + 1)) hf)
      · replace hf := ifn hf c69
        refine e_iconst dX1_isAtRest_72 ⟨by decide, by decide⟩ ?_
        obtain rfl := Option.some.inj hf
        exact e_zreturn dX1_isAtRest_73 rfl (by decide) ⟨rfl, rfl⟩
def p_X1_isAtRest_L14  (h : Mem)   : Nat → Int → Int → Option (Int)
  | 0, _, _ => none
  | n + 1, l1, l2 => p_X1_isAtRest_14 (fun (l1 l2 : Int) => p_X1_isAtRest_L14  h   n l1 l2) h   l1 l2
theorem q_X1_isAtRest_L14  (h : Mem)     {X : Int}  : ∀ (n : Nat) (l1 l2 : Int), p_X1_isAtRest_L14  h   n l1 l2 = some X → E m_X1_isAtRest none (fun r h' => r = some (vi X) ∧ h' = h) 14 [some (vr 41), some (vi l1), some (vi l2), none, none] [] h := by
  intro n
  induction n with
  | zero => intro l1 l2 hf; have hf2 : (none : Option (Int)) = some X := hf; cases hf2
  | succ n ih => intro l1 l2 hf; exact q_X1_isAtRest_14 (fun (l1 l2 : Int) => p_X1_isAtRest_L14  h   n l1 l2) h     l1 l2 (fun l1 l2 hf => ih l1 l2 hf) hf
def p_X1_isAtRest (h : Mem)  (l1 : Int) : Option (Int) :=
  if l1 < 0 then (some 0) else (if l1 < 100 then (p_X1_isAtRest_L14  h   300  l1 0) else (some 0))
set_option maxRecDepth 20000 in
theorem q_X1_isAtRest (h : Mem)   (l1 : Int) {X : Int} (hf : p_X1_isAtRest h  l1 = some X) : Cn m_X1_isAtRest [vr 41, vi l1] h (fun r h' => r = some (vi X) ∧ h' = h) := by
  unfold p_X1_isAtRest at hf
  have key : E m_X1_isAtRest none (fun r h' => r = some (vi X) ∧ h' = h) 0 [some (vr 41), some (vi l1), none, none, none] [] h := by
    refine e_iload_n dX1_isAtRest_0 rfl ?_
    refine e_if_lt (tgt := 10) dX1_isAtRest_1 (by decide) (fun c1 => ?_) (fun c1 => ?_)
    · replace hf := ifp hf c1
      refine e_iconst dX1_isAtRest_10 ⟨by decide, by decide⟩ ?_
      obtain rfl := Option.some.inj hf
      exact e_zreturn dX1_isAtRest_11 rfl (by decide) ⟨rfl, rfl⟩
    · replace hf := ifn hf c1
      refine e_iload_n dX1_isAtRest_4 rfl ?_
      refine e_bipush dX1_isAtRest_5 ⟨by decide, by decide, by decide⟩ ?_
      refine e_icmp_lt (tgt := 12) dX1_isAtRest_7 (by decide) (fun c7 => ?_) (fun c7 => ?_)
      · replace hf := ifp hf c7
        refine e_iconst dX1_isAtRest_12 ⟨by decide, by decide⟩ ?_
        refine e_istore_n (ls' := [some (vr 41), some (vi l1), some (vi 0), none, none]) dX1_isAtRest_13 (Nat.le_of_ble_eq_true rfl) rfl ?_
        exact e_mask [true, true, true, false, false] (q_X1_isAtRest_L14  h      300  l1 0 hf)
      · replace hf := ifn hf c7
        refine e_iconst dX1_isAtRest_10 ⟨by decide, by decide⟩ ?_
        obtain rfl := Option.some.inj hf
        exact e_zreturn dX1_isAtRest_11 rfl (by decide) ⟨rfl, rfl⟩
  exact Cn_of rfl (fun _ => Nat.le_of_ble_eq_true rfl) ⟨rfl, rfl⟩ (e_pad 3 key)
theorem lk_578 : VLk "StarRight$Contest" 25 m_X1_isAtRest 1 := ⟨tw_578, tw_580, twp_17, tw_9, tw_581, by decide +kernel⟩
abbrev m_X1_pairsAtRest : MI := (yX1_pairsAtRest, cX1_pairsAtRest, 3, some .int, { frames := 2, cells := 0, slots := 0, locals := 44 })
def p_X1_pairsAtRest_21 (K4 : Int → Int → Option (Int)) (h : Mem)   (l1 l2 : Int) : Option (Int) :=
  K4 l1 (wr (l2 + 1))
set_option maxRecDepth 20000 in
theorem q_X1_pairsAtRest_21 (K4 : Int → Int → Option (Int)) (h : Mem)     (l1 l2 : Int) {X : Int} (hK4 : ∀ (l1 l2 : Int), K4 l1 l2 = some X → E m_X1_pairsAtRest none (fun r h' => r = some (vi X) ∧ h' = h) 4 [some (vr 41), some (vi l1), some (vi l2)] [] h) (hf : p_X1_pairsAtRest_21 K4 h   l1 l2 = some X) : E m_X1_pairsAtRest none (fun r h' => r = some (vi X) ∧ h' = h) 21 [some (vr 41), some (vi l1), some (vi l2)] [] h := by
  unfold p_X1_pairsAtRest_21 at hf
  refine e_iinc (ls' := [some (vr 41), some (vi l1), some (vi (wr (l2 + 1)))]) dX1_pairsAtRest_21 rfl (Nat.le_of_ble_eq_true rfl) rfl ?_
  refine e_goto (tgt := 4) dX1_pairsAtRest_24 (by decide) ?_
  exact e_mask [true, true, true] (hK4 l1 (wr (l2 + 1)) hf)
def p_X1_pairsAtRest_4 (K4 : Int → Int → Option (Int)) (h : Mem)   (l1 l2 : Int) : Option (Int) :=
  if 100 ≤ l2 then (some l1) else (bd (p_X1_isAtRest h l2) (fun r12 => if r12 = 0 then (p_X1_pairsAtRest_21 K4 h   l1 l2) else (p_X1_pairsAtRest_21 K4 h   (wr (l1 + 1)) l2)))
set_option maxRecDepth 20000 in
theorem q_X1_pairsAtRest_4 (K4 : Int → Int → Option (Int)) (h : Mem)     (l1 l2 : Int) {X : Int} (hK4 : ∀ (l1 l2 : Int), K4 l1 l2 = some X → E m_X1_pairsAtRest none (fun r h' => r = some (vi X) ∧ h' = h) 4 [some (vr 41), some (vi l1), some (vi l2)] [] h) (hf : p_X1_pairsAtRest_4 K4 h   l1 l2 = some X) : E m_X1_pairsAtRest none (fun r h' => r = some (vi X) ∧ h' = h) 4 [some (vr 41), some (vi l1), some (vi l2)] [] h := by
  unfold p_X1_pairsAtRest_4 at hf
  refine e_iload_n dX1_pairsAtRest_4 rfl ?_
  refine e_bipush dX1_pairsAtRest_5 ⟨by decide, by decide, by decide⟩ ?_
  refine e_icmp_ge (tgt := 27) dX1_pairsAtRest_7 (by decide) (fun c7 => ?_) (fun c7 => ?_)
  · replace hf := ifp hf c7
    refine e_iload_n dX1_pairsAtRest_27 rfl ?_
    obtain rfl := Option.some.inj hf
    exact e_ireturn dX1_pairsAtRest_28 rfl ⟨rfl, rfl⟩
  · replace hf := ifn hf c7
    refine e_aload_n dX1_pairsAtRest_10 rfl ?_
    refine e_iload_n dX1_pairsAtRest_11 rfl ?_
    obtain ⟨r12, e12, hf⟩ := bd_some hf
    refine e_callV1i dX1_pairsAtRest_12 rfl lk_578 ⟨rfl, rfl, Nat.le_of_ble_eq_true rfl, Nat.le_of_ble_eq_true rfl⟩ rfl rfl (Nat.le_of_ble_eq_true rfl) (q_X1_isAtRest h   l2 e12) ?_
    refine e_if_eq (tgt := 21) dX1_pairsAtRest_15 (by decide) (fun c15 => ?_) (fun c15 => ?_)
    · replace hf := ifp hf c15
      exact e_mask [true, true, true] (q_X1_pairsAtRest_21 K4 h     l1 l2 hK4 hf)
    · replace hf := ifn hf c15
      refine e_iinc (ls' := [some (vr 41), some (vi (wr (l1 + 1))), some (vi l2)]) dX1_pairsAtRest_18 rfl (Nat.le_of_ble_eq_true rfl) rfl ?_
      exact e_mask [true, true, true] (q_X1_pairsAtRest_21 K4 h     (wr (l1 + 1)) l2 hK4 hf)
def p_X1_pairsAtRest_L4  (h : Mem)   : Nat → Int → Int → Option (Int)
  | 0, _, _ => none
  | n + 1, l1, l2 => p_X1_pairsAtRest_4 (fun (l1 l2 : Int) => p_X1_pairsAtRest_L4  h   n l1 l2) h   l1 l2
theorem q_X1_pairsAtRest_L4  (h : Mem)     {X : Int}  : ∀ (n : Nat) (l1 l2 : Int), p_X1_pairsAtRest_L4  h   n l1 l2 = some X → E m_X1_pairsAtRest none (fun r h' => r = some (vi X) ∧ h' = h) 4 [some (vr 41), some (vi l1), some (vi l2)] [] h := by
  intro n
  induction n with
  | zero => intro l1 l2 hf; have hf2 : (none : Option (Int)) = some X := hf; cases hf2
  | succ n ih => intro l1 l2 hf; exact q_X1_pairsAtRest_4 (fun (l1 l2 : Int) => p_X1_pairsAtRest_L4  h   n l1 l2) h     l1 l2 (fun l1 l2 hf => ih l1 l2 hf) hf
def p_X1_pairsAtRest (h : Mem)   : Option (Int) :=
  p_X1_pairsAtRest_L4  h   300  0 0
set_option maxRecDepth 20000 in
theorem q_X1_pairsAtRest (h : Mem)    {X : Int} (hf : p_X1_pairsAtRest h   = some X) : Cn m_X1_pairsAtRest [vr 41] h (fun r h' => r = some (vi X) ∧ h' = h) := by
  unfold p_X1_pairsAtRest at hf
  have key : E m_X1_pairsAtRest none (fun r h' => r = some (vi X) ∧ h' = h) 0 [some (vr 41), none, none] [] h := by
    refine e_iconst dX1_pairsAtRest_0 ⟨by decide, by decide⟩ ?_
    refine e_istore_n (ls' := [some (vr 41), some (vi 0), none]) dX1_pairsAtRest_1 (Nat.le_of_ble_eq_true rfl) rfl ?_
    refine e_iconst dX1_pairsAtRest_2 ⟨by decide, by decide⟩ ?_
    refine e_istore_n (ls' := [some (vr 41), some (vi 0), some (vi 0)]) dX1_pairsAtRest_3 (Nat.le_of_ble_eq_true rfl) rfl ?_
    exact e_mask [true, true, true] (q_X1_pairsAtRest_L4  h      300  0 0 hf)
  exact Cn_of rfl (fun _ => Nat.le_of_ble_eq_true rfl) ⟨rfl, rfl⟩ (e_pad 2 key)
abbrev m_X1_firstAtRest : MI := (yX1_firstAtRest, cX1_firstAtRest, 2, some .int, { frames := 2, cells := 0, slots := 0, locals := 44 })
def p_X1_firstAtRest_2 (K2 : Int → Option (Int)) (h : Mem)   (l1 : Int) : Option (Int) :=
  if 100 ≤ l1 then (some (-9)) else (bd (p_X1_isAtRest h l1) (fun r10 => if r10 = 0 then (K2 (wr (l1 + 1))) else (some l1)))
set_option maxRecDepth 20000 in
theorem q_X1_firstAtRest_2 (K2 : Int → Option (Int)) (h : Mem)     (l1 : Int) {X : Int} (hK2 : ∀ (l1 : Int), K2 l1 = some X → E m_X1_firstAtRest none (fun r h' => r = some (vi X) ∧ h' = h) 2 [some (vr 41), some (vi l1)] [] h) (hf : p_X1_firstAtRest_2 K2 h   l1 = some X) : E m_X1_firstAtRest none (fun r h' => r = some (vi X) ∧ h' = h) 2 [some (vr 41), some (vi l1)] [] h := by
  unfold p_X1_firstAtRest_2 at hf
  refine e_iload_n dX1_firstAtRest_2 rfl ?_
  refine e_bipush dX1_firstAtRest_3 ⟨by decide, by decide, by decide⟩ ?_
  refine e_icmp_ge (tgt := 24) dX1_firstAtRest_5 (by decide) (fun c5 => ?_) (fun c5 => ?_)
  · replace hf := ifp hf c5
    refine e_bipush dX1_firstAtRest_24 ⟨by decide, by decide, by decide⟩ ?_
    obtain rfl := Option.some.inj hf
    exact e_ireturn dX1_firstAtRest_26 rfl ⟨rfl, rfl⟩
  · replace hf := ifn hf c5
    refine e_aload_n dX1_firstAtRest_8 rfl ?_
    refine e_iload_n dX1_firstAtRest_9 rfl ?_
    obtain ⟨r10, e10, hf⟩ := bd_some hf
    refine e_callV1i dX1_firstAtRest_10 rfl lk_578 ⟨rfl, rfl, Nat.le_of_ble_eq_true rfl, Nat.le_of_ble_eq_true rfl⟩ rfl rfl (Nat.le_of_ble_eq_true rfl) (q_X1_isAtRest h   l1 e10) ?_
    refine e_if_eq (tgt := 18) dX1_firstAtRest_13 (by decide) (fun c13 => ?_) (fun c13 => ?_)
    · replace hf := ifp hf c13
      refine e_iinc (ls' := [some (vr 41), some (vi (wr (l1 + 1)))]) dX1_firstAtRest_18 rfl (Nat.le_of_ble_eq_true rfl) rfl ?_
      refine e_goto (tgt := 2) dX1_firstAtRest_21 (by decide) ?_
      exact e_mask [true, true] (hK2 (wr (l1 + 1)) hf)
    · replace hf := ifn hf c13
      refine e_iload_n dX1_firstAtRest_16 rfl ?_
      obtain rfl := Option.some.inj hf
      exact e_ireturn dX1_firstAtRest_17 rfl ⟨rfl, rfl⟩
def p_X1_firstAtRest_L2  (h : Mem)   : Nat → Int → Option (Int)
  | 0, _ => none
  | n + 1, l1 => p_X1_firstAtRest_2 (fun (l1 : Int) => p_X1_firstAtRest_L2  h   n l1) h   l1
theorem q_X1_firstAtRest_L2  (h : Mem)     {X : Int}  : ∀ (n : Nat) (l1 : Int), p_X1_firstAtRest_L2  h   n l1 = some X → E m_X1_firstAtRest none (fun r h' => r = some (vi X) ∧ h' = h) 2 [some (vr 41), some (vi l1)] [] h := by
  intro n
  induction n with
  | zero => intro l1 hf; have hf2 : (none : Option (Int)) = some X := hf; cases hf2
  | succ n ih => intro l1 hf; exact q_X1_firstAtRest_2 (fun (l1 : Int) => p_X1_firstAtRest_L2  h   n l1) h     l1 (fun l1 hf => ih l1 hf) hf
def p_X1_firstAtRest (h : Mem)   : Option (Int) :=
  p_X1_firstAtRest_L2  h   300  0
set_option maxRecDepth 20000 in
theorem q_X1_firstAtRest (h : Mem)    {X : Int} (hf : p_X1_firstAtRest h   = some X) : Cn m_X1_firstAtRest [vr 41] h (fun r h' => r = some (vi X) ∧ h' = h) := by
  unfold p_X1_firstAtRest at hf
  have key : E m_X1_firstAtRest none (fun r h' => r = some (vi X) ∧ h' = h) 0 [some (vr 41), none] [] h := by
    refine e_iconst dX1_firstAtRest_0 ⟨by decide, by decide⟩ ?_
    refine e_istore_n (ls' := [some (vr 41), some (vi 0)]) dX1_firstAtRest_1 (Nat.le_of_ble_eq_true rfl) rfl ?_
    exact e_mask [true, true] (q_X1_firstAtRest_L2  h      300  0 hf)
  exact Cn_of rfl (fun _ => Nat.le_of_ble_eq_true rfl) ⟨rfl, rfl⟩ (e_pad 1 key)
abbrev m_X7_isFull : MI := (yX7_isFull, cX7_isFull, 1, some .boolean, { frames := 0, cells := 0, slots := 0, locals := 0 })
def p_X7_isFull (h : Mem)   : Option (Int) :=
  if h 37 3 < 6 then (some 0) else (some 1)
set_option maxRecDepth 20000 in
theorem q_X7_isFull (h : Mem)    {X : Int} (hf : p_X7_isFull h   = some X) : Cn m_X7_isFull [vr 37] h (fun r h' => r = some (vi X) ∧ h' = h) := by
  unfold p_X7_isFull at hf
  have key : E m_X7_isFull none (fun r h' => r = some (vi X) ∧ h' = h) 0 [some (vr 37)] [] h := by
    refine e_aload_n dX7_isFull_0 rfl ?_
    refine e_getI (kz := 3) rfl dX7_isFull_1 rfl fl_166 rfl rfl (Or.inl rfl) ?_
    refine e_bipush dX7_isFull_4 ⟨by decide, by decide, by decide⟩ ?_
    refine e_icmp_lt (tgt := 13) dX7_isFull_6 (by decide) (fun c6 => ?_) (fun c6 => ?_)
    · replace hf := ifp hf c6
      refine e_iconst dX7_isFull_13 ⟨by decide, by decide⟩ ?_
      obtain rfl := Option.some.inj hf
      exact e_zreturn dX7_isFull_14 rfl (by decide) ⟨rfl, rfl⟩
    · replace hf := ifn hf c6
      refine e_iconst dX7_isFull_9 ⟨by decide, by decide⟩ ?_
      refine e_goto (tgt := 14) dX7_isFull_10 (by decide) ?_
      obtain rfl := Option.some.inj hf
      exact e_zreturn dX7_isFull_14 rfl (by decide) ⟨rfl, rfl⟩
  exact Cn_of rfl (fun _ => Nat.le_of_ble_eq_true rfl) ⟨rfl, rfl⟩ (e_pad 0 key)
theorem lk_600 : VLk "StarRight$Watch" 26 m_X7_isFull 0 := ⟨tw_600, tw_593, tw_594, tw_8, tw_595, by decide +kernel⟩
abbrev m_X7_add : MI := (yX7_add, cX7_add, 4, some .int, { frames := 1, cells := 0, slots := 0, locals := 20 })
def p_X7_add_47  (h : Mem)    : Option (Int × Mem) :=
  some (h 37 3, h)
set_option maxRecDepth 20000 in
theorem q_X7_add_47  (h : Mem)      {X : Int × Mem}  (hf : p_X7_add_47  h    = some X) : E m_X7_add none (fun r h' => r = some (vi X.1) ∧ h' = X.2) 47 [some (vr 37), none, none, none] [] h := by
  unfold p_X7_add_47 at hf
  refine e_aload_n dX7_add_47 rfl ?_
  refine e_getI (kz := 3) rfl dX7_add_48 rfl fl_166 rfl rfl (Or.inl rfl) ?_
  obtain rfl := Option.some.inj hf
  exact e_ireturn dX7_add_51 rfl ⟨rfl, rfl⟩
def p_X7_add (h : Mem)  (l1 l2 l3 : Int) : Option (Int × Mem) :=
  bd (p_X7_isFull h ) (fun r1 => if r1 = 0 then (gd (0 ≤ h 37 3 ∧ h 37 3 < 6) (gd (0 ≤ (up h 38 (h 37 3) l1) 37 3 ∧ (up h 38 (h 37 3) l1) 37 3 < 6) (gd (0 ≤ (up (up h 38 (h 37 3) l1) 39 ((up h 38 (h 37 3) l1) 37 3) l2) 37 3 ∧ (up (up h 38 (h 37 3) l1) 39 ((up h 38 (h 37 3) l1) 37 3) l2) 37 3 < 6) (gd (l3 = 0 ∨ l3 = 1) (p_X7_add_47  (up (up (up (up h 38 (h 37 3) l1) 39 ((up h 38 (h 37 3) l1) 37 3) l2) 40 ((up (up h 38 (h 37 3) l1) 39 ((up h 38 (h 37 3) l1) 37 3) l2) 37 3) l3) 37 3 (wr (((up (up (up h 38 (h 37 3) l1) 39 ((up h 38 (h 37 3) l1) 37 3) l2) 40 ((up (up h 38 (h 37 3) l1) 39 ((up h 38 (h 37 3) l1) 37 3) l2) 37 3) l3) 37 3) + 1)))   ))))) else (p_X7_add_47  h   ))
set_option maxRecDepth 20000 in
theorem q_X7_add (h : Mem)   (l1 l2 l3 : Int) {X : Int × Mem} (hf : p_X7_add h  l1 l2 l3 = some X) : Cn m_X7_add [vr 37, vi l1, vi l2, vi l3] h (fun r h' => r = some (vi X.1) ∧ h' = X.2) := by
  unfold p_X7_add at hf
  have key : E m_X7_add none (fun r h' => r = some (vi X.1) ∧ h' = X.2) 0 [some (vr 37), some (vi l1), some (vi l2), some (vi l3)] [] h := by
    refine e_aload_n dX7_add_0 rfl ?_
    obtain ⟨r1, e1, hf⟩ := bd_some hf
    refine e_callV0i dX7_add_1 rfl lk_600 ⟨rfl, rfl, Nat.le_of_ble_eq_true rfl, Nat.le_of_ble_eq_true rfl⟩ rfl rfl (Nat.le_of_ble_eq_true rfl) (q_X7_isFull h    e1) ?_
    refine e_if_ne (tgt := 47) dX7_add_4 (by decide) (fun c4 => ?_) (fun c4 => ?_)
    · replace hf := ifn hf c4
      exact e_mask [true, false, false, false] (q_X7_add_47  h       hf)
    · replace hf := ifp hf c4
      refine e_aload_n dX7_add_7 rfl ?_
      refine e_getR dX7_add_8 rfl fl_163 rfl rfl ?_
      refine e_aload_n dX7_add_11 rfl ?_
      refine e_getI (kz := 3) rfl dX7_add_12 rfl fl_166 rfl rfl (Or.inl rfl) ?_
      refine e_iload_n dX7_add_15 rfl ?_
      obtain ⟨g16, hf⟩ := gd_some hf
      refine e_iast dX7_add_16 rfl g16 ?_
      refine e_aload_n dX7_add_17 rfl ?_
      refine e_getR dX7_add_18 rfl fl_164 rfl rfl ?_
      refine e_aload_n dX7_add_21 rfl ?_
      refine e_getI (kz := 3) rfl dX7_add_22 rfl fl_166 rfl rfl (Or.inl rfl) ?_
      refine e_iload_n dX7_add_25 rfl ?_
      obtain ⟨g26, hf⟩ := gd_some hf
      refine e_iast dX7_add_26 rfl g26 ?_
      refine e_aload_n dX7_add_27 rfl ?_
      refine e_getR dX7_add_28 rfl fl_165 rfl rfl ?_
      refine e_aload_n dX7_add_31 rfl ?_
      refine e_getI (kz := 3) rfl dX7_add_32 rfl fl_166 rfl rfl (Or.inl rfl) ?_
      refine e_iload_n dX7_add_35 rfl ?_
      obtain ⟨g36, hf⟩ := gd_some hf
      obtain ⟨gv36, hf⟩ := gd_some hf
      refine e_bast dX7_add_36 rfl g36 gv36 ?_
      refine e_aload_n dX7_add_37 rfl ?_
      refine e_dup dX7_add_38 (fun _ => rfl) ?_
      refine e_getI (kz := 3) rfl dX7_add_39 rfl fl_166 rfl rfl (Or.inl rfl) ?_
      refine e_iconst dX7_add_42 ⟨by decide, by decide⟩ ?_
      refine e_iadd dX7_add_43 ?_
      refine e_putI (t := 0) (kz := 3) rfl dX7_add_44 rfl fp_166 rfl rfl (Or.inl rfl) ?_
      exact e_mask [true, false, false, false] (q_X7_add_47  (up (up (up (up h 38 (h 37 3) l1) 39 ((up h 38 (h 37 3) l1) 37 3) l2) 40 ((up (up h 38 (h 37 3) l1) 39 ((up h 38 (h 37 3) l1) 37 3) l2) 37 3) l3) 37 3 (wr (((up (up (up h 38 (h 37 3) l1) 39 ((up h 38 (h 37 3) l1) 37 3) l2) 40 ((up (up h 38 (h 37 3) l1) 39 ((up h 38 (h 37 3) l1) 37 3) l2) 37 3) l3) 37 3) + 1)))       hf)
  exact Cn_of rfl (fun _ => Nat.le_of_ble_eq_true rfl) ⟨rfl, rfl⟩ (e_pad 0 key)
abbrev m_X7_clear : MI := (yX7_clear, cX7_clear, 2, some .int, { frames := 0, cells := 0, slots := 0, locals := 0 })
def p_X7_clear (h : Mem)   : Option (Int × Mem) :=
  some (h 37 3, (up h 37 3 0))
set_option maxRecDepth 20000 in
theorem q_X7_clear (h : Mem)    {X : Int × Mem} (hf : p_X7_clear h   = some X) : Cn m_X7_clear [vr 37] h (fun r h' => r = some (vi X.1) ∧ h' = X.2) := by
  unfold p_X7_clear at hf
  have key : E m_X7_clear none (fun r h' => r = some (vi X.1) ∧ h' = X.2) 0 [some (vr 37), none] [] h := by
    refine e_aload_n dX7_clear_0 rfl ?_
    refine e_getI (kz := 3) rfl dX7_clear_1 rfl fl_166 rfl rfl (Or.inl rfl) ?_
    refine e_istore_n (ls' := [some (vr 37), some (vi (h 37 3))]) dX7_clear_4 (Nat.le_of_ble_eq_true rfl) rfl ?_
    refine e_aload_n dX7_clear_5 rfl ?_
    refine e_iconst dX7_clear_6 ⟨by decide, by decide⟩ ?_
    refine e_putI (t := 0) (kz := 3) rfl dX7_clear_7 rfl fp_166 rfl rfl (Or.inl rfl) ?_
    refine e_iload_n dX7_clear_10 rfl ?_
    obtain rfl := Option.some.inj hf
    exact e_ireturn dX7_clear_11 rfl ⟨rfl, rfl⟩
  exact Cn_of rfl (fun _ => Nat.le_of_ble_eq_true rfl) ⟨rfl, rfl⟩ (e_pad 1 key)
theorem lk_624 : SLk "StarRight$Watch" 30 m_X4_walkedTo 3 := ⟨tw_624, tw_383, tw_3, tw_384, by decide +kernel⟩
abbrev m_X7_isOver : MI := (yX7_isOver, cX7_isOver, 3, some .boolean, { frames := 1, cells := 0, slots := 0, locals := 22 })
def p_X7_isOver (h : Mem)  (l0 l1 l2 : Int) : Option (Int) :=
  bd (p_X4_walkedTo h (qdiv l0 4) (qrem l0 4) l2) (fun r7 => if r7 = l1 then (some 1) else (some 0))
set_option maxRecDepth 20000 in
theorem q_X7_isOver (h : Mem)   (l0 l1 l2 : Int) {X : Int} (hf : p_X7_isOver h  l0 l1 l2 = some X) : Cn m_X7_isOver [vi l0, vi l1, vi l2] h (fun r h' => r = some (vi X) ∧ h' = h) := by
  unfold p_X7_isOver at hf
  have key : E m_X7_isOver none (fun r h' => r = some (vi X) ∧ h' = h) 0 [some (vi l0), some (vi l1), some (vi l2)] [] h := by
    refine e_iload_n dX7_isOver_0 rfl ?_
    refine e_iconst dX7_isOver_1 ⟨by decide, by decide⟩ ?_
    refine e_idiv dX7_isOver_2 (by decide) ?_
    refine e_iload_n dX7_isOver_3 rfl ?_
    refine e_iconst dX7_isOver_4 ⟨by decide, by decide⟩ ?_
    refine e_irem dX7_isOver_5 (by decide) ?_
    refine e_iload_n dX7_isOver_6 rfl ?_
    obtain ⟨r7, e7, hf⟩ := bd_some hf
    refine e_callS3i dX7_isOver_7 rfl lk_624 ⟨rfl, rfl, Nat.le_of_ble_eq_true rfl, Nat.le_of_ble_eq_true rfl⟩ (Nat.le_of_ble_eq_true rfl) (q_X4_walkedTo h   (qdiv l0 4) (qrem l0 4) l2 e7) ?_
    refine e_iload_n dX7_isOver_10 rfl ?_
    refine e_icmp_ne (tgt := 18) dX7_isOver_11 (by decide) (fun c11 => ?_) (fun c11 => ?_)
    · replace hf := ifn hf c11
      refine e_iconst dX7_isOver_18 ⟨by decide, by decide⟩ ?_
      obtain rfl := Option.some.inj hf
      exact e_zreturn dX7_isOver_19 rfl (by decide) ⟨rfl, rfl⟩
    · replace hf := ifp hf c11
      refine e_iconst dX7_isOver_14 ⟨by decide, by decide⟩ ?_
      refine e_goto (tgt := 19) dX7_isOver_15 (by decide) ?_
      obtain rfl := Option.some.inj hf
      exact e_zreturn dX7_isOver_19 rfl (by decide) ⟨rfl, rfl⟩
  exact Cn_of rfl (fun _ => Nat.le_of_ble_eq_true rfl) ⟨rfl, rfl⟩ (e_pad 0 key)
theorem lk_621 : SLk "StarRight$Watch" 36 m_X7_isOver 3 := ⟨tw_621, tw_622, tw_8, tw_623, by decide +kernel⟩
abbrev m_X7_fits : MI := (yX7_fits, cX7_fits, 3, some .boolean, { frames := 2, cells := 0, slots := 0, locals := 44 })
def p_X7_fits_2 (K2 : Int → Int → Option (Int)) (h : Mem)   (l1 l2 : Int) : Option (Int) :=
  if h 37 3 ≤ l2 then (some 1) else (if 6 ≤ l2 then (some 1) else (gd (0 ≤ l2 ∧ l2 < 6) (gd (0 ≤ l2 ∧ l2 < 6) (bd (p_X7_isOver h l1 (h 38 l2) (h 39 l2)) (fun r29 => gd (0 ≤ l2 ∧ l2 < 6) (if r29 = h 40 l2 then (K2 l1 (wr (l2 + 1))) else (some 0)))))))
set_option maxRecDepth 20000 in
theorem q_X7_fits_2 (K2 : Int → Int → Option (Int)) (h : Mem)     (l1 l2 : Int) {X : Int} (hK2 : ∀ (l1 l2 : Int), K2 l1 l2 = some X → E m_X7_fits none (fun r h' => r = some (vi X) ∧ h' = h) 2 [some (vr 37), some (vi l1), some (vi l2)] [] h) (hf : p_X7_fits_2 K2 h   l1 l2 = some X) : E m_X7_fits none (fun r h' => r = some (vi X) ∧ h' = h) 2 [some (vr 37), some (vi l1), some (vi l2)] [] h := by
  unfold p_X7_fits_2 at hf
  refine e_iload_n dX7_fits_2 rfl ?_
  refine e_aload_n dX7_fits_3 rfl ?_
  refine e_getI (kz := 3) rfl dX7_fits_4 rfl fl_166 rfl rfl (Or.inl rfl) ?_
  refine e_icmp_ge (tgt := 49) dX7_fits_7 (by decide) (fun c7 => ?_) (fun c7 => ?_)
  · replace hf := ifp hf c7
    refine e_iconst dX7_fits_49 ⟨by decide, by decide⟩ ?_
    obtain rfl := Option.some.inj hf
    exact e_zreturn dX7_fits_50 rfl (by decide) ⟨rfl, rfl⟩
  · replace hf := ifn hf c7
    refine e_iload_n dX7_fits_10 rfl ?_
    refine e_bipush dX7_fits_11 ⟨by decide, by decide, by decide⟩ ?_
    refine e_icmp_ge (tgt := 49) dX7_fits_13 (by decide) (fun c13 => ?_) (fun c13 => ?_)
    · replace hf := ifp hf c13
      refine e_iconst dX7_fits_49 ⟨by decide, by decide⟩ ?_
      obtain rfl := Option.some.inj hf
      exact e_zreturn dX7_fits_50 rfl (by decide) ⟨rfl, rfl⟩
    · replace hf := ifn hf c13
      refine e_iload_n dX7_fits_16 rfl ?_
      refine e_aload_n dX7_fits_17 rfl ?_
      refine e_getR dX7_fits_18 rfl fl_163 rfl rfl ?_
      refine e_iload_n dX7_fits_21 rfl ?_
      obtain ⟨g22, hf⟩ := gd_some hf
      refine e_iald dX7_fits_22 rfl g22 ?_
      refine e_aload_n dX7_fits_23 rfl ?_
      refine e_getR dX7_fits_24 rfl fl_164 rfl rfl ?_
      refine e_iload_n dX7_fits_27 rfl ?_
      obtain ⟨g28, hf⟩ := gd_some hf
      refine e_iald dX7_fits_28 rfl g28 ?_
      obtain ⟨r29, e29, hf⟩ := bd_some hf
      refine e_callS3i dX7_fits_29 rfl lk_621 ⟨rfl, rfl, Nat.le_of_ble_eq_true rfl, Nat.le_of_ble_eq_true rfl⟩ (Nat.le_of_ble_eq_true rfl) (q_X7_isOver h   l1 (h 38 l2) (h 39 l2) e29) ?_
      refine e_aload_n dX7_fits_32 rfl ?_
      refine e_getR dX7_fits_33 rfl fl_165 rfl rfl ?_
      refine e_iload_n dX7_fits_36 rfl ?_
      obtain ⟨g37, hf⟩ := gd_some hf
      refine e_bald dX7_fits_37 rfl g37 ?_
      refine e_icmp_eq (tgt := 43) dX7_fits_38 (by decide) (fun c38 => ?_) (fun c38 => ?_)
      · replace hf := ifp hf c38
        refine e_iinc (ls' := [some (vr 37), some (vi l1), some (vi (wr (l2 + 1)))]) dX7_fits_43 rfl (Nat.le_of_ble_eq_true rfl) rfl ?_
        refine e_goto (tgt := 2) dX7_fits_46 (by decide) ?_
        exact e_mask [true, true, true] (hK2 l1 (wr (l2 + 1)) hf)
      · replace hf := ifn hf c38
        refine e_iconst dX7_fits_41 ⟨by decide, by decide⟩ ?_
        obtain rfl := Option.some.inj hf
        exact e_zreturn dX7_fits_42 rfl (by decide) ⟨rfl, rfl⟩
def p_X7_fits_L2  (h : Mem)   : Nat → Int → Int → Option (Int)
  | 0, _, _ => none
  | n + 1, l1, l2 => p_X7_fits_2 (fun (l1 l2 : Int) => p_X7_fits_L2  h   n l1 l2) h   l1 l2
theorem q_X7_fits_L2  (h : Mem)     {X : Int}  : ∀ (n : Nat) (l1 l2 : Int), p_X7_fits_L2  h   n l1 l2 = some X → E m_X7_fits none (fun r h' => r = some (vi X) ∧ h' = h) 2 [some (vr 37), some (vi l1), some (vi l2)] [] h := by
  intro n
  induction n with
  | zero => intro l1 l2 hf; have hf2 : (none : Option (Int)) = some X := hf; cases hf2
  | succ n ih => intro l1 l2 hf; exact q_X7_fits_2 (fun (l1 l2 : Int) => p_X7_fits_L2  h   n l1 l2) h     l1 l2 (fun l1 l2 hf => ih l1 l2 hf) hf
def p_X7_fits (h : Mem)  (l1 : Int) : Option (Int) :=
  p_X7_fits_L2  h   300  l1 0
set_option maxRecDepth 20000 in
theorem q_X7_fits (h : Mem)   (l1 : Int) {X : Int} (hf : p_X7_fits h  l1 = some X) : Cn m_X7_fits [vr 37, vi l1] h (fun r h' => r = some (vi X) ∧ h' = h) := by
  unfold p_X7_fits at hf
  have key : E m_X7_fits none (fun r h' => r = some (vi X) ∧ h' = h) 0 [some (vr 37), some (vi l1), none] [] h := by
    refine e_iconst dX7_fits_0 ⟨by decide, by decide⟩ ?_
    refine e_istore_n (ls' := [some (vr 37), some (vi l1), some (vi 0)]) dX7_fits_1 (Nat.le_of_ble_eq_true rfl) rfl ?_
    exact e_mask [true, true, true] (q_X7_fits_L2  h      300  l1 0 hf)
  exact Cn_of rfl (fun _ => Nat.le_of_ble_eq_true rfl) ⟨rfl, rfl⟩ (e_pad 1 key)
theorem lk_617 : VLk "StarRight$Watch" 40 m_X7_fits 1 := ⟨tw_617, tw_619, twp_18, tw_8, tw_620, by decide +kernel⟩
abbrev m_X7_fittingStars : MI := (yX7_fittingStars, cX7_fittingStars, 4, some .long, { frames := 3, cells := 0, slots := 0, locals := 66 })
def p_X7_fittingStars_24 (K4 : Int → Int → Option (Int)) (h : Mem)   (l1 l3 : Int) : Option (Int) :=
  K4 l1 (wr (l3 + 1))
set_option maxRecDepth 20000 in
theorem q_X7_fittingStars_24 (K4 : Int → Int → Option (Int)) (h : Mem)     (l1 l3 : Int) {X : Int} (hK4 : ∀ (l1 l3 : Int), K4 l1 l3 = some X → E m_X7_fittingStars none (fun r h' => r = some (vl X) ∧ h' = h) 4 [some (vr 37), some (vl l1), none, some (vi l3)] [] h) (hf : p_X7_fittingStars_24 K4 h   l1 l3 = some X) : E m_X7_fittingStars none (fun r h' => r = some (vl X) ∧ h' = h) 24 [some (vr 37), some (vl l1), none, some (vi l3)] [] h := by
  unfold p_X7_fittingStars_24 at hf
  refine e_iinc (ls' := [some (vr 37), some (vl l1), none, some (vi (wr (l3 + 1)))]) dX7_fittingStars_24 rfl (Nat.le_of_ble_eq_true rfl) rfl ?_
  refine e_goto (tgt := 4) dX7_fittingStars_27 (by decide) ?_
  exact e_mask [true, true, false, true] (hK4 l1 (wr (l3 + 1)) hf)
def p_X7_fittingStars_4 (K4 : Int → Int → Option (Int)) (h : Mem)   (l1 l3 : Int) : Option (Int) :=
  if 40 ≤ l3 then (some l1) else (bd (p_X7_fits h l3) (fun r12 => if r12 = 0 then (p_X7_fittingStars_24 K4 h   l1 l3) else (p_X7_fittingStars_24 K4 h   (lor64 l1 (lshl64 1 l3)) l3)))
set_option maxRecDepth 20000 in
theorem q_X7_fittingStars_4 (K4 : Int → Int → Option (Int)) (h : Mem)     (l1 l3 : Int) {X : Int} (hK4 : ∀ (l1 l3 : Int), K4 l1 l3 = some X → E m_X7_fittingStars none (fun r h' => r = some (vl X) ∧ h' = h) 4 [some (vr 37), some (vl l1), none, some (vi l3)] [] h) (hf : p_X7_fittingStars_4 K4 h   l1 l3 = some X) : E m_X7_fittingStars none (fun r h' => r = some (vl X) ∧ h' = h) 4 [some (vr 37), some (vl l1), none, some (vi l3)] [] h := by
  unfold p_X7_fittingStars_4 at hf
  refine e_iload_n dX7_fittingStars_4 rfl ?_
  refine e_bipush dX7_fittingStars_5 ⟨by decide, by decide, by decide⟩ ?_
  refine e_icmp_ge (tgt := 30) dX7_fittingStars_7 (by decide) (fun c7 => ?_) (fun c7 => ?_)
  · replace hf := ifp hf c7
    refine e_lload_n dX7_fittingStars_30 rfl ?_
    obtain rfl := Option.some.inj hf
    exact e_lreturn dX7_fittingStars_31 rfl ⟨rfl, rfl⟩
  · replace hf := ifn hf c7
    refine e_aload_n dX7_fittingStars_10 rfl ?_
    refine e_iload_n dX7_fittingStars_11 rfl ?_
    obtain ⟨r12, e12, hf⟩ := bd_some hf
    refine e_callV1i dX7_fittingStars_12 rfl lk_617 ⟨rfl, rfl, Nat.le_of_ble_eq_true rfl, Nat.le_of_ble_eq_true rfl⟩ rfl rfl (Nat.le_of_ble_eq_true rfl) (q_X7_fits h   l3 e12) ?_
    refine e_if_eq (tgt := 24) dX7_fittingStars_15 (by decide) (fun c15 => ?_) (fun c15 => ?_)
    · replace hf := ifp hf c15
      exact e_mask [true, true, false, true] (q_X7_fittingStars_24 K4 h     l1 l3 hK4 hf)
    · replace hf := ifn hf c15
      refine e_lload_n dX7_fittingStars_18 rfl ?_
      refine e_lconst (a := 1) dX7_fittingStars_19 ⟨by decide, by decide, by decide⟩ ?_
      refine e_iload_n dX7_fittingStars_20 rfl ?_
      refine e_lshl dX7_fittingStars_21 ?_
      refine e_lor dX7_fittingStars_22 ?_
      refine e_lstore_n (ls' := [some (vr 37), some (vl (lor64 l1 (lshl64 1 l3))), none, some (vi l3)]) dX7_fittingStars_23 (Nat.le_of_ble_eq_true rfl) rfl ?_
      exact e_mask [true, true, false, true] (q_X7_fittingStars_24 K4 h     (lor64 l1 (lshl64 1 l3)) l3 hK4 hf)
def p_X7_fittingStars_L4  (h : Mem)   : Nat → Int → Int → Option (Int)
  | 0, _, _ => none
  | n + 1, l1, l3 => p_X7_fittingStars_4 (fun (l1 l3 : Int) => p_X7_fittingStars_L4  h   n l1 l3) h   l1 l3
theorem q_X7_fittingStars_L4  (h : Mem)     {X : Int}  : ∀ (n : Nat) (l1 l3 : Int), p_X7_fittingStars_L4  h   n l1 l3 = some X → E m_X7_fittingStars none (fun r h' => r = some (vl X) ∧ h' = h) 4 [some (vr 37), some (vl l1), none, some (vi l3)] [] h := by
  intro n
  induction n with
  | zero => intro l1 l3 hf; have hf2 : (none : Option (Int)) = some X := hf; cases hf2
  | succ n ih => intro l1 l3 hf; exact q_X7_fittingStars_4 (fun (l1 l3 : Int) => p_X7_fittingStars_L4  h   n l1 l3) h     l1 l3 (fun l1 l3 hf => ih l1 l3 hf) hf
def p_X7_fittingStars (h : Mem)   : Option (Int) :=
  p_X7_fittingStars_L4  h   300  0 0
set_option maxRecDepth 20000 in
theorem q_X7_fittingStars (h : Mem)    {X : Int} (hf : p_X7_fittingStars h   = some X) : Cn m_X7_fittingStars [vr 37] h (fun r h' => r = some (vl X) ∧ h' = h) := by
  unfold p_X7_fittingStars at hf
  have key : E m_X7_fittingStars none (fun r h' => r = some (vl X) ∧ h' = h) 0 [some (vr 37), none, none, none] [] h := by
    refine e_lconst (a := 0) dX7_fittingStars_0 ⟨by decide, by decide, by decide⟩ ?_
    refine e_lstore_n (ls' := [some (vr 37), some (vl 0), none, none]) dX7_fittingStars_1 (Nat.le_of_ble_eq_true rfl) rfl ?_
    refine e_iconst dX7_fittingStars_2 ⟨by decide, by decide⟩ ?_
    refine e_istore_n (ls' := [some (vr 37), some (vl 0), none, some (vi 0)]) dX7_fittingStars_3 (Nat.le_of_ble_eq_true rfl) rfl ?_
    exact e_mask [true, true, false, true] (q_X7_fittingStars_L4  h      300  0 0 hf)
  exact Cn_of rfl (fun _ => Nat.le_of_ble_eq_true rfl) ⟨rfl, rfl⟩ (e_pad 3 key)
abbrev m_X7_firstOf : MI := (yX7_firstOf, cX7_firstOf, 3, some .int, { frames := 0, cells := 0, slots := 0, locals := 0 })
def p_X7_firstOf_18  (h : Mem)   (l2 : Int) : Option (Int) :=
  some (wr ((wr (10 * (qdiv l2 4))) + (qrem l2 4)))
set_option maxRecDepth 20000 in
theorem q_X7_firstOf_18  (h : Mem)     (l2 : Int) {X : Int}  (hf : p_X7_firstOf_18  h   l2 = some X) : E m_X7_firstOf none (fun r h' => r = some (vi X) ∧ h' = h) 18 [none, none, some (vi l2)] [] h := by
  unfold p_X7_firstOf_18 at hf
  refine e_bipush dX7_firstOf_18 ⟨by decide, by decide, by decide⟩ ?_
  refine e_iload_n dX7_firstOf_20 rfl ?_
  refine e_iconst dX7_firstOf_21 ⟨by decide, by decide⟩ ?_
  refine e_idiv dX7_firstOf_22 (by decide) ?_
  refine e_imul dX7_firstOf_23 ?_
  refine e_iload_n dX7_firstOf_24 rfl ?_
  refine e_iconst dX7_firstOf_25 ⟨by decide, by decide⟩ ?_
  refine e_irem dX7_firstOf_26 (by decide) ?_
  refine e_iadd dX7_firstOf_27 ?_
  obtain rfl := Option.some.inj hf
  exact e_ireturn dX7_firstOf_28 rfl ⟨rfl, rfl⟩
def p_X7_firstOf_2 (K2 : Int → Int → Option (Int)) (h : Mem)   (l0 l2 : Int) : Option (Int) :=
  if 40 ≤ l2 then (some (-9)) else (if lcmp64 (land64 (lshr64 l0 l2) 1) 0 = 0 then (K2 l0 (wr (l2 + 1))) else (p_X7_firstOf_18  h   l2))
set_option maxRecDepth 20000 in
theorem q_X7_firstOf_2 (K2 : Int → Int → Option (Int)) (h : Mem)     (l0 l2 : Int) {X : Int} (hK2 : ∀ (l0 l2 : Int), K2 l0 l2 = some X → E m_X7_firstOf none (fun r h' => r = some (vi X) ∧ h' = h) 2 [some (vl l0), none, some (vi l2)] [] h) (hf : p_X7_firstOf_2 K2 h   l0 l2 = some X) : E m_X7_firstOf none (fun r h' => r = some (vi X) ∧ h' = h) 2 [some (vl l0), none, some (vi l2)] [] h := by
  unfold p_X7_firstOf_2 at hf
  refine e_iload_n dX7_firstOf_2 rfl ?_
  refine e_bipush dX7_firstOf_3 ⟨by decide, by decide, by decide⟩ ?_
  refine e_icmp_ge (tgt := 35) dX7_firstOf_5 (by decide) (fun c5 => ?_) (fun c5 => ?_)
  · replace hf := ifp hf c5
    refine e_bipush dX7_firstOf_35 ⟨by decide, by decide, by decide⟩ ?_
    obtain rfl := Option.some.inj hf
    exact e_ireturn dX7_firstOf_37 rfl ⟨rfl, rfl⟩
  · replace hf := ifn hf c5
    refine e_lload_n dX7_firstOf_8 rfl ?_
    refine e_iload_n dX7_firstOf_9 rfl ?_
    refine e_lshr dX7_firstOf_10 ?_
    refine e_lconst (a := 1) dX7_firstOf_11 ⟨by decide, by decide, by decide⟩ ?_
    refine e_land dX7_firstOf_12 ?_
    refine e_lconst (a := 0) dX7_firstOf_13 ⟨by decide, by decide, by decide⟩ ?_
    refine e_lcmp dX7_firstOf_14 ?_
    refine e_if_eq (tgt := 29) dX7_firstOf_15 (by decide) (fun c15 => ?_) (fun c15 => ?_)
    · replace hf := ifp hf c15
      refine e_iinc (ls' := [some (vl l0), none, some (vi (wr (l2 + 1)))]) dX7_firstOf_29 rfl (Nat.le_of_ble_eq_true rfl) rfl ?_
      refine e_goto (tgt := 2) dX7_firstOf_32 (by decide) ?_
      exact e_mask [true, false, true] (hK2 l0 (wr (l2 + 1)) hf)
    · replace hf := ifn hf c15
      exact e_mask [false, false, true] (q_X7_firstOf_18  h     l2  hf)
def p_X7_firstOf_L2  (h : Mem)   : Nat → Int → Int → Option (Int)
  | 0, _, _ => none
  | n + 1, l0, l2 => p_X7_firstOf_2 (fun (l0 l2 : Int) => p_X7_firstOf_L2  h   n l0 l2) h   l0 l2
theorem q_X7_firstOf_L2  (h : Mem)     {X : Int}  : ∀ (n : Nat) (l0 l2 : Int), p_X7_firstOf_L2  h   n l0 l2 = some X → E m_X7_firstOf none (fun r h' => r = some (vi X) ∧ h' = h) 2 [some (vl l0), none, some (vi l2)] [] h := by
  intro n
  induction n with
  | zero => intro l0 l2 hf; have hf2 : (none : Option (Int)) = some X := hf; cases hf2
  | succ n ih => intro l0 l2 hf; exact q_X7_firstOf_2 (fun (l0 l2 : Int) => p_X7_firstOf_L2  h   n l0 l2) h     l0 l2 (fun l0 l2 hf => ih l0 l2 hf) hf
def p_X7_firstOf (h : Mem)  (l0 : Int) : Option (Int) :=
  p_X7_firstOf_L2  h   300  l0 0
set_option maxRecDepth 20000 in
theorem q_X7_firstOf (h : Mem)   (l0 : Int) {X : Int} (hf : p_X7_firstOf h  l0 = some X) : Cn m_X7_firstOf [vl l0] h (fun r h' => r = some (vi X) ∧ h' = h) := by
  unfold p_X7_firstOf at hf
  have key : E m_X7_firstOf none (fun r h' => r = some (vi X) ∧ h' = h) 0 [some (vl l0), none, none] [] h := by
    refine e_iconst dX7_firstOf_0 ⟨by decide, by decide⟩ ?_
    refine e_istore_n (ls' := [some (vl l0), none, some (vi 0)]) dX7_firstOf_1 (Nat.le_of_ble_eq_true rfl) rfl ?_
    exact e_mask [true, false, true] (q_X7_firstOf_L2  h      300  l0 0 hf)
  exact Cn_of rfl (fun _ => Nat.le_of_ble_eq_true rfl) ⟨rfl, rfl⟩ (e_pad 1 key)
theorem lk_646 : SLk "StarRight$Watch" 52 m_J13_bitCount_95d88 1 := ⟨tw_646, tw_626, tw_14, tw_627, by decide +kernel⟩
abbrev m_X7_greaterPart : MI := (yX7_greaterPart, cX7_greaterPart, 6, some .int, { frames := 2, cells := 0, slots := 0, locals := 44 })
def p_X7_greaterPart_43  (h : Mem)   (l0 l4 : Int) : Option (Int) :=
  bd (p_J13_bitCount_95d88 h l0) (fun r46 => some (bmax l4 (wr (r46 - l4))))
set_option maxRecDepth 20000 in
theorem q_X7_greaterPart_43  (h : Mem)     (l0 l4 : Int) {X : Int}  (hf : p_X7_greaterPart_43  h   l0 l4 = some X) : E m_X7_greaterPart none (fun r h' => r = some (vi X) ∧ h' = h) 43 [some (vl l0), none, none, none, some (vi l4), none] [] h := by
  unfold p_X7_greaterPart_43 at hf
  refine e_iload dX7_greaterPart_43 rfl ?_
  refine e_lload_n dX7_greaterPart_45 rfl ?_
  obtain ⟨r46, e46, hf⟩ := bd_some hf
  refine e_callS1i dX7_greaterPart_46 rfl lk_646 ⟨rfl, rfl, Nat.le_of_ble_eq_true rfl, Nat.le_of_ble_eq_true rfl⟩ (Nat.le_of_ble_eq_true rfl) (q_J13_bitCount_95d88 h   l0 e46) ?_
  refine e_iload dX7_greaterPart_49 rfl ?_
  refine e_isub dX7_greaterPart_51 ?_
  refine e_mmax dX7_greaterPart_52 rfl tw_647 ⟨tw_409, tw_11⟩ (Nat.le_of_ble_eq_true rfl) (Nat.le_of_ble_eq_true rfl) ?_
  obtain rfl := Option.some.inj hf
  exact e_ireturn dX7_greaterPart_55 rfl ⟨rfl, rfl⟩
def p_X7_greaterPart_37 (K6 : Int → Int → Int → Int → Int → Option (Int)) (h : Mem)   (l0 l2 l3 l4 l5 : Int) : Option (Int) :=
  K6 l0 l2 l3 l4 (wr (l5 + 1))
set_option maxRecDepth 20000 in
theorem q_X7_greaterPart_37 (K6 : Int → Int → Int → Int → Int → Option (Int)) (h : Mem)     (l0 l2 l3 l4 l5 : Int) {X : Int} (hK6 : ∀ (l0 l2 l3 l4 l5 : Int), K6 l0 l2 l3 l4 l5 = some X → E m_X7_greaterPart none (fun r h' => r = some (vi X) ∧ h' = h) 6 [some (vl l0), none, some (vi l2), some (vi l3), some (vi l4), some (vi l5)] [] h) (hf : p_X7_greaterPart_37 K6 h   l0 l2 l3 l4 l5 = some X) : E m_X7_greaterPart none (fun r h' => r = some (vi X) ∧ h' = h) 37 [some (vl l0), none, some (vi l2), some (vi l3), some (vi l4), some (vi l5)] [] h := by
  unfold p_X7_greaterPart_37 at hf
  refine e_iinc (ls' := [some (vl l0), none, some (vi l2), some (vi l3), some (vi l4), some (vi (wr (l5 + 1)))]) dX7_greaterPart_37 rfl (Nat.le_of_ble_eq_true rfl) rfl ?_
  refine e_goto (tgt := 6) dX7_greaterPart_40 (by decide) ?_
  exact e_mask [true, false, true, true, true, true] (hK6 l0 l2 l3 l4 (wr (l5 + 1)) hf)
def p_X7_greaterPart_6 (K6 : Int → Int → Int → Int → Int → Option (Int)) (h : Mem)   (l0 l2 l3 l4 l5 : Int) : Option (Int) :=
  if 40 ≤ l5 then (p_X7_greaterPart_43  h   l0 l4) else (if lcmp64 (land64 (lshr64 l0 l5) 1) 0 = 0 then (p_X7_greaterPart_37 K6 h   l0 l2 l3 l4 l5) else (bd (p_X7_isOver h l5 l3 l2) (fun r28 => if r28 = 0 then (p_X7_greaterPart_37 K6 h   l0 l2 l3 l4 l5) else (p_X7_greaterPart_37 K6 h   l0 l2 l3 (wr (l4 + 1)) l5))))
set_option maxRecDepth 20000 in
theorem q_X7_greaterPart_6 (K6 : Int → Int → Int → Int → Int → Option (Int)) (h : Mem)     (l0 l2 l3 l4 l5 : Int) {X : Int} (hK6 : ∀ (l0 l2 l3 l4 l5 : Int), K6 l0 l2 l3 l4 l5 = some X → E m_X7_greaterPart none (fun r h' => r = some (vi X) ∧ h' = h) 6 [some (vl l0), none, some (vi l2), some (vi l3), some (vi l4), some (vi l5)] [] h) (hf : p_X7_greaterPart_6 K6 h   l0 l2 l3 l4 l5 = some X) : E m_X7_greaterPart none (fun r h' => r = some (vi X) ∧ h' = h) 6 [some (vl l0), none, some (vi l2), some (vi l3), some (vi l4), some (vi l5)] [] h := by
  unfold p_X7_greaterPart_6 at hf
  refine e_iload dX7_greaterPart_6 rfl ?_
  refine e_bipush dX7_greaterPart_8 ⟨by decide, by decide, by decide⟩ ?_
  refine e_icmp_ge (tgt := 43) dX7_greaterPart_10 (by decide) (fun c10 => ?_) (fun c10 => ?_)
  · replace hf := ifp hf c10
    exact e_mask [true, false, false, false, true, false] (q_X7_greaterPart_43  h     l0 l4  hf)
  · replace hf := ifn hf c10
    refine e_lload_n dX7_greaterPart_13 rfl ?_
    refine e_iload dX7_greaterPart_14 rfl ?_
    refine e_lshr dX7_greaterPart_16 ?_
    refine e_lconst (a := 1) dX7_greaterPart_17 ⟨by decide, by decide, by decide⟩ ?_
    refine e_land dX7_greaterPart_18 ?_
    refine e_lconst (a := 0) dX7_greaterPart_19 ⟨by decide, by decide, by decide⟩ ?_
    refine e_lcmp dX7_greaterPart_20 ?_
    refine e_if_eq (tgt := 37) dX7_greaterPart_21 (by decide) (fun c21 => ?_) (fun c21 => ?_)
    · replace hf := ifp hf c21
      exact e_mask [true, false, true, true, true, true] (q_X7_greaterPart_37 K6 h     l0 l2 l3 l4 l5 hK6 hf)
    · replace hf := ifn hf c21
      refine e_iload dX7_greaterPart_24 rfl ?_
      refine e_iload_n dX7_greaterPart_26 rfl ?_
      refine e_iload_n dX7_greaterPart_27 rfl ?_
      obtain ⟨r28, e28, hf⟩ := bd_some hf
      refine e_callS3i dX7_greaterPart_28 rfl lk_621 ⟨rfl, rfl, Nat.le_of_ble_eq_true rfl, Nat.le_of_ble_eq_true rfl⟩ (Nat.le_of_ble_eq_true rfl) (q_X7_isOver h   l5 l3 l2 e28) ?_
      refine e_if_eq (tgt := 37) dX7_greaterPart_31 (by decide) (fun c31 => ?_) (fun c31 => ?_)
      · replace hf := ifp hf c31
        exact e_mask [true, false, true, true, true, true] (q_X7_greaterPart_37 K6 h     l0 l2 l3 l4 l5 hK6 hf)
      · replace hf := ifn hf c31
        refine e_iinc (ls' := [some (vl l0), none, some (vi l2), some (vi l3), some (vi (wr (l4 + 1))), some (vi l5)]) dX7_greaterPart_34 rfl (Nat.le_of_ble_eq_true rfl) rfl ?_
        exact e_mask [true, false, true, true, true, true] (q_X7_greaterPart_37 K6 h     l0 l2 l3 (wr (l4 + 1)) l5 hK6 hf)
def p_X7_greaterPart_L6  (h : Mem)   : Nat → Int → Int → Int → Int → Int → Option (Int)
  | 0, _, _, _, _, _ => none
  | n + 1, l0, l2, l3, l4, l5 => p_X7_greaterPart_6 (fun (l0 l2 l3 l4 l5 : Int) => p_X7_greaterPart_L6  h   n l0 l2 l3 l4 l5) h   l0 l2 l3 l4 l5
theorem q_X7_greaterPart_L6  (h : Mem)     {X : Int}  : ∀ (n : Nat) (l0 l2 l3 l4 l5 : Int), p_X7_greaterPart_L6  h   n l0 l2 l3 l4 l5 = some X → E m_X7_greaterPart none (fun r h' => r = some (vi X) ∧ h' = h) 6 [some (vl l0), none, some (vi l2), some (vi l3), some (vi l4), some (vi l5)] [] h := by
  intro n
  induction n with
  | zero => intro l0 l2 l3 l4 l5 hf; have hf2 : (none : Option (Int)) = some X := hf; cases hf2
  | succ n ih => intro l0 l2 l3 l4 l5 hf; exact q_X7_greaterPart_6 (fun (l0 l2 l3 l4 l5 : Int) => p_X7_greaterPart_L6  h   n l0 l2 l3 l4 l5) h     l0 l2 l3 l4 l5 (fun l0 l2 l3 l4 l5 hf => ih l0 l2 l3 l4 l5 hf) hf
def p_X7_greaterPart (h : Mem)  (l0 l2 l3 : Int) : Option (Int) :=
  p_X7_greaterPart_L6  h   300  l0 l2 l3 0 0
set_option maxRecDepth 20000 in
theorem q_X7_greaterPart (h : Mem)   (l0 l2 l3 : Int) {X : Int} (hf : p_X7_greaterPart h  l0 l2 l3 = some X) : Cn m_X7_greaterPart [vl l0, vi l2, vi l3] h (fun r h' => r = some (vi X) ∧ h' = h) := by
  unfold p_X7_greaterPart at hf
  have key : E m_X7_greaterPart none (fun r h' => r = some (vi X) ∧ h' = h) 0 [some (vl l0), none, some (vi l2), some (vi l3), none, none] [] h := by
    refine e_iconst dX7_greaterPart_0 ⟨by decide, by decide⟩ ?_
    refine e_istore (ls' := [some (vl l0), none, some (vi l2), some (vi l3), some (vi 0), none]) dX7_greaterPart_1 (Nat.le_of_ble_eq_true rfl) rfl ?_
    refine e_iconst dX7_greaterPart_3 ⟨by decide, by decide⟩ ?_
    refine e_istore (ls' := [some (vl l0), none, some (vi l2), some (vi l3), some (vi 0), some (vi 0)]) dX7_greaterPart_4 (Nat.le_of_ble_eq_true rfl) rfl ?_
    exact e_mask [true, false, true, true, true, true] (q_X7_greaterPart_L6  h      300  l0 l2 l3 0 0 hf)
  exact Cn_of rfl (fun _ => Nat.le_of_ble_eq_true rfl) ⟨rfl, rfl⟩ (e_pad 2 key)
theorem lk_642 : VLk "StarRight$Watch" 44 m_X7_fittingStars 0 := ⟨tw_642, tw_614, tw_615, tw_8, tw_616, by decide +kernel⟩
theorem lk_643 : SLk "StarRight$Watch" 48 m_X7_greaterPart 3 := ⟨tw_643, tw_644, tw_8, tw_645, by decide +kernel⟩
abbrev m_X7_bestLook : MI := (yX7_bestLook, cX7_bestLook, 7, some .int, { frames := 4, cells := 0, slots := 0, locals := 89 })
def p_X7_bestLook_58 (K15 : Int → Int → Int → Int → Option (Int)) (h : Mem)   (l1 l3 l4 l5 : Int) : Option (Int) :=
  K15 l1 l3 l4 (wr (l5 + 1))
set_option maxRecDepth 20000 in
theorem q_X7_bestLook_58 (K15 : Int → Int → Int → Int → Option (Int)) (h : Mem)     (l1 l3 l4 l5 : Int) {X : Int} (hK15 : ∀ (l1 l3 l4 l5 : Int), K15 l1 l3 l4 l5 = some X → E m_X7_bestLook none (fun r h' => r = some (vi X) ∧ h' = h) 15 [some (vr 37), some (vl l1), none, some (vi l3), some (vi l4), some (vi l5), none] [] h) (hf : p_X7_bestLook_58 K15 h   l1 l3 l4 l5 = some X) : E m_X7_bestLook none (fun r h' => r = some (vi X) ∧ h' = h) 58 [some (vr 37), some (vl l1), none, some (vi l3), some (vi l4), some (vi l5), none] [] h := by
  unfold p_X7_bestLook_58 at hf
  refine e_iinc (ls' := [some (vr 37), some (vl l1), none, some (vi l3), some (vi l4), some (vi (wr (l5 + 1))), none]) dX7_bestLook_58 rfl (Nat.le_of_ble_eq_true rfl) rfl ?_
  refine e_goto (tgt := 15) dX7_bestLook_61 (by decide) ?_
  exact e_mask [true, true, false, true, true, true, false] (hK15 l1 l3 l4 (wr (l5 + 1)) hf)
def p_X7_bestLook_15 (K15 : Int → Int → Int → Int → Option (Int)) (h : Mem)   (l1 l3 l4 l5 : Int) : Option (Int) :=
  if 100 ≤ l5 then (some l3) else (if lcmp64 l1 0 = 0 then (some l3) else (bd (p_X7_greaterPart h l1 (qdiv l5 10) (qrem l5 10)) (fun r39 => if l4 ≤ r39 then (p_X7_bestLook_58 K15 h   l1 l3 l4 l5) else (p_X7_bestLook_58 K15 h   l1 l5 r39 l5))))
set_option maxRecDepth 20000 in
theorem q_X7_bestLook_15 (K15 : Int → Int → Int → Int → Option (Int)) (h : Mem)     (l1 l3 l4 l5 : Int) {X : Int} (hK15 : ∀ (l1 l3 l4 l5 : Int), K15 l1 l3 l4 l5 = some X → E m_X7_bestLook none (fun r h' => r = some (vi X) ∧ h' = h) 15 [some (vr 37), some (vl l1), none, some (vi l3), some (vi l4), some (vi l5), none] [] h) (hf : p_X7_bestLook_15 K15 h   l1 l3 l4 l5 = some X) : E m_X7_bestLook none (fun r h' => r = some (vi X) ∧ h' = h) 15 [some (vr 37), some (vl l1), none, some (vi l3), some (vi l4), some (vi l5), none] [] h := by
  unfold p_X7_bestLook_15 at hf
  refine e_iload dX7_bestLook_15 rfl ?_
  refine e_bipush dX7_bestLook_17 ⟨by decide, by decide, by decide⟩ ?_
  refine e_icmp_ge (tgt := 64) dX7_bestLook_19 (by decide) (fun c19 => ?_) (fun c19 => ?_)
  · replace hf := ifp hf c19
    refine e_iload_n dX7_bestLook_64 rfl ?_
    obtain rfl := Option.some.inj hf
    exact e_ireturn dX7_bestLook_65 rfl ⟨rfl, rfl⟩
  · replace hf := ifn hf c19
    refine e_lload_n dX7_bestLook_22 rfl ?_
    refine e_lconst (a := 0) dX7_bestLook_23 ⟨by decide, by decide, by decide⟩ ?_
    refine e_lcmp dX7_bestLook_24 ?_
    refine e_if_eq (tgt := 64) dX7_bestLook_25 (by decide) (fun c25 => ?_) (fun c25 => ?_)
    · replace hf := ifp hf c25
      refine e_iload_n dX7_bestLook_64 rfl ?_
      obtain rfl := Option.some.inj hf
      exact e_ireturn dX7_bestLook_65 rfl ⟨rfl, rfl⟩
    · replace hf := ifn hf c25
      refine e_lload_n dX7_bestLook_28 rfl ?_
      refine e_iload dX7_bestLook_29 rfl ?_
      refine e_bipush dX7_bestLook_31 ⟨by decide, by decide, by decide⟩ ?_
      refine e_idiv dX7_bestLook_33 (by decide) ?_
      refine e_iload dX7_bestLook_34 rfl ?_
      refine e_bipush dX7_bestLook_36 ⟨by decide, by decide, by decide⟩ ?_
      refine e_irem dX7_bestLook_38 (by decide) ?_
      obtain ⟨r39, e39, hf⟩ := bd_some hf
      refine e_callS3i dX7_bestLook_39 rfl lk_643 ⟨rfl, rfl, Nat.le_of_ble_eq_true rfl, Nat.le_of_ble_eq_true rfl⟩ (Nat.le_of_ble_eq_true rfl) (q_X7_greaterPart h   l1 (qdiv l5 10) (qrem l5 10) e39) ?_
      refine e_istore (ls' := [some (vr 37), some (vl l1), none, some (vi l3), some (vi l4), some (vi l5), some (vi r39)]) dX7_bestLook_42 (Nat.le_of_ble_eq_true rfl) rfl ?_
      refine e_iload dX7_bestLook_44 rfl ?_
      refine e_iload dX7_bestLook_46 rfl ?_
      refine e_icmp_ge (tgt := 58) dX7_bestLook_48 (by decide) (fun c48 => ?_) (fun c48 => ?_)
      · replace hf := ifp hf c48
        exact e_mask [true, true, false, true, true, true, false] (q_X7_bestLook_58 K15 h     l1 l3 l4 l5 hK15 hf)
      · replace hf := ifn hf c48
        refine e_iload dX7_bestLook_51 rfl ?_
        refine e_istore_n (ls' := [some (vr 37), some (vl l1), none, some (vi l5), some (vi l4), some (vi l5), some (vi r39)]) dX7_bestLook_53 (Nat.le_of_ble_eq_true rfl) rfl ?_
        refine e_iload dX7_bestLook_54 rfl ?_
        refine e_istore (ls' := [some (vr 37), some (vl l1), none, some (vi l5), some (vi r39), some (vi l5), some (vi r39)]) dX7_bestLook_56 (Nat.le_of_ble_eq_true rfl) rfl ?_
        exact e_mask [true, true, false, true, true, true, false] (q_X7_bestLook_58 K15 h     l1 l5 r39 l5 hK15 hf)
def p_X7_bestLook_L15  (h : Mem)   : Nat → Int → Int → Int → Int → Option (Int)
  | 0, _, _, _, _ => none
  | n + 1, l1, l3, l4, l5 => p_X7_bestLook_15 (fun (l1 l3 l4 l5 : Int) => p_X7_bestLook_L15  h   n l1 l3 l4 l5) h   l1 l3 l4 l5
theorem q_X7_bestLook_L15  (h : Mem)     {X : Int}  : ∀ (n : Nat) (l1 l3 l4 l5 : Int), p_X7_bestLook_L15  h   n l1 l3 l4 l5 = some X → E m_X7_bestLook none (fun r h' => r = some (vi X) ∧ h' = h) 15 [some (vr 37), some (vl l1), none, some (vi l3), some (vi l4), some (vi l5), none] [] h := by
  intro n
  induction n with
  | zero => intro l1 l3 l4 l5 hf; have hf2 : (none : Option (Int)) = some X := hf; cases hf2
  | succ n ih => intro l1 l3 l4 l5 hf; exact q_X7_bestLook_15 (fun (l1 l3 l4 l5 : Int) => p_X7_bestLook_L15  h   n l1 l3 l4 l5) h     l1 l3 l4 l5 (fun l1 l3 l4 l5 hf => ih l1 l3 l4 l5 hf) hf
def p_X7_bestLook (h : Mem)   : Option (Int) :=
  bd (p_X7_fittingStars h ) (fun r1 => p_X7_bestLook_L15  h   300  r1 (-9) 41 0)
set_option maxRecDepth 20000 in
theorem q_X7_bestLook (h : Mem)    {X : Int} (hf : p_X7_bestLook h   = some X) : Cn m_X7_bestLook [vr 37] h (fun r h' => r = some (vi X) ∧ h' = h) := by
  unfold p_X7_bestLook at hf
  have key : E m_X7_bestLook none (fun r h' => r = some (vi X) ∧ h' = h) 0 [some (vr 37), none, none, none, none, none, none] [] h := by
    refine e_aload_n dX7_bestLook_0 rfl ?_
    obtain ⟨r1, e1, hf⟩ := bd_some hf
    refine e_callV0l dX7_bestLook_1 rfl lk_642 ⟨rfl, rfl, Nat.le_of_ble_eq_true rfl, Nat.le_of_ble_eq_true rfl⟩ rfl rfl (Nat.le_of_ble_eq_true rfl) (q_X7_fittingStars h    e1) ?_
    refine e_lstore_n (ls' := [some (vr 37), some (vl r1), none, none, none, none, none]) dX7_bestLook_4 (Nat.le_of_ble_eq_true rfl) rfl ?_
    refine e_bipush dX7_bestLook_5 ⟨by decide, by decide, by decide⟩ ?_
    refine e_istore_n (ls' := [some (vr 37), some (vl r1), none, some (vi (-9)), none, none, none]) dX7_bestLook_7 (Nat.le_of_ble_eq_true rfl) rfl ?_
    refine e_bipush dX7_bestLook_8 ⟨by decide, by decide, by decide⟩ ?_
    refine e_istore (ls' := [some (vr 37), some (vl r1), none, some (vi (-9)), some (vi 41), none, none]) dX7_bestLook_10 (Nat.le_of_ble_eq_true rfl) rfl ?_
    refine e_iconst dX7_bestLook_12 ⟨by decide, by decide⟩ ?_
    refine e_istore (ls' := [some (vr 37), some (vl r1), none, some (vi (-9)), some (vi 41), some (vi 0), none]) dX7_bestLook_13 (Nat.le_of_ble_eq_true rfl) rfl ?_
    exact e_mask [true, true, false, true, true, true, false] (q_X7_bestLook_L15  h      300  r1 (-9) 41 0 hf)
  exact Cn_of rfl (fun _ => Nat.le_of_ble_eq_true rfl) ⟨rfl, rfl⟩ (e_pad 6 key)
