abbrev m_X9_in : MI := (yX9_in, cX9_in, 6, some .boolean, { frames := 0, cells := 0, slots := 0, locals := 0 })
def p_X9_in (h : Mem)  (l0 l2 l4 : Int) : Option (Int) :=
  if lcmp64 l0 l2 < 0 then (some 0) else (if 0 < lcmp64 l0 l4 then (some 0) else (some 1))
set_option maxRecDepth 20000 in
theorem q_X9_in (h : Mem)   (l0 l2 l4 : Int) {X : Int} (hf : p_X9_in h  l0 l2 l4 = some X) : Cn m_X9_in [vl l0, vl l2, vl l4] h (fun r h' => r = some (vi X) ∧ h' = h) := by
  unfold p_X9_in at hf
  have key : E m_X9_in none (fun r h' => r = some (vi X) ∧ h' = h) 0 [some (vl l0), none, some (vl l2), none, some (vl l4), none] [] h := by
    refine e_lload_n dX9_in_0 rfl ?_
    refine e_lload_n dX9_in_1 rfl ?_
    refine e_lcmp dX9_in_2 ?_
    refine e_if_lt (tgt := 17) dX9_in_3 (by decide) (fun c3 => ?_) (fun c3 => ?_)
    · replace hf := ifp hf c3
      refine e_iconst dX9_in_17 ⟨by decide, by decide⟩ ?_
      obtain rfl := Option.some.inj hf
      exact e_zreturn dX9_in_18 rfl (by decide) ⟨rfl, rfl⟩
    · replace hf := ifn hf c3
      refine e_lload_n dX9_in_6 rfl ?_
      refine e_lload dX9_in_7 rfl ?_
      refine e_lcmp dX9_in_9 ?_
      refine e_if_gt (tgt := 17) dX9_in_10 (by decide) (fun c10 => ?_) (fun c10 => ?_)
      · replace hf := ifp hf c10
        refine e_iconst dX9_in_17 ⟨by decide, by decide⟩ ?_
        obtain rfl := Option.some.inj hf
        exact e_zreturn dX9_in_18 rfl (by decide) ⟨rfl, rfl⟩
      · replace hf := ifn hf c10
        refine e_iconst dX9_in_13 ⟨by decide, by decide⟩ ?_
        refine e_goto (tgt := 18) dX9_in_14 (by decide) ?_
        obtain rfl := Option.some.inj hf
        exact e_zreturn dX9_in_18 rfl (by decide) ⟨rfl, rfl⟩
  exact Cn_of rfl (fun _ => Nat.le_of_ble_eq_true rfl) ⟨rfl, rfl⟩ (e_pad 0 key)
theorem lk_799 : SLk "StarRightModel" 69 m_X9_in 3 := ⟨tw_799, tw_800, tw_10, tw_801, by decide +kernel⟩
abbrev m_X9_write : MI := (yX9_write, cX9_write, 2, some .int, { frames := 1, cells := 0, slots := 0, locals := 25 })
def p_X9_write (h : Mem)  (l1 : Int) : Option (Int × Mem) :=
  bd (p_X9_in (up h 45 0 0) l1 0 255) (fun r11 => if r11 = 0 then (some ((-2), (up h 45 0 0))) else (if (up h 45 0 0) 45 2 = 48 then (some ((-4), (up h 45 0 0))) else (gd (0 ≤ (up h 45 0 0) 45 2 ∧ (up h 45 0 0) 45 2 < 48) (some ((up (up (up h 45 0 0) 46 ((up h 45 0 0) 45 2) l1) 45 2 (wr (((up (up h 45 0 0) 46 ((up h 45 0 0) 45 2) l1) 45 2) + 1))) 45 2, (up (up (up h 45 0 0) 46 ((up h 45 0 0) 45 2) l1) 45 2 (wr (((up (up h 45 0 0) 46 ((up h 45 0 0) 45 2) l1) 45 2) + 1))))))))
set_option maxRecDepth 20000 in
theorem q_X9_write (h : Mem)   (l1 : Int) {X : Int × Mem} (hf : p_X9_write h  l1 = some X) : Cn m_X9_write [vr 45, vi l1] h (fun r h' => r = some (vi X.1) ∧ h' = X.2) := by
  unfold p_X9_write at hf
  have key : E m_X9_write none (fun r h' => r = some (vi X.1) ∧ h' = X.2) 0 [some (vr 45), some (vi l1)] [] h := by
    refine e_aload_n dX9_write_0 rfl ?_
    refine e_iconst dX9_write_1 ⟨by decide, by decide⟩ ?_
    refine e_putI (t := 0) (kz := 0) rfl dX9_write_2 rfl fp_682 rfl rfl (Or.inl rfl) ?_
    refine e_iload_n dX9_write_5 rfl ?_
    refine e_i2l dX9_write_6 ?_
    refine e_lconst (a := 0) dX9_write_7 ⟨by decide, by decide, by decide⟩ ?_
    refine e_ldc2 (a := 255) dX9_write_8 rfl tw_798 ⟨by decide, by decide⟩ ?_
    obtain ⟨r11, e11, hf⟩ := bd_some hf
    refine e_callS3i dX9_write_11 rfl lk_799 ⟨rfl, rfl, Nat.le_of_ble_eq_true rfl, Nat.le_of_ble_eq_true rfl⟩ (Nat.le_of_ble_eq_true rfl) (q_X9_in (up h 45 0 0)   l1 0 255 e11) ?_
    refine e_if_ne (tgt := 20) dX9_write_14 (by decide) (fun c14 => ?_) (fun c14 => ?_)
    · replace hf := ifn hf c14
      refine e_aload_n dX9_write_20 rfl ?_
      refine e_getI (kz := 2) rfl dX9_write_21 rfl fl_684 rfl rfl (Or.inl rfl) ?_
      refine e_bipush dX9_write_24 ⟨by decide, by decide, by decide⟩ ?_
      refine e_icmp_ne (tgt := 32) dX9_write_26 (by decide) (fun c26 => ?_) (fun c26 => ?_)
      · replace hf := ifn hf c26
        refine e_aload_n dX9_write_32 rfl ?_
        refine e_getR dX9_write_33 rfl fl_683 rfl rfl ?_
        refine e_aload_n dX9_write_36 rfl ?_
        refine e_getI (kz := 2) rfl dX9_write_37 rfl fl_684 rfl rfl (Or.inl rfl) ?_
        refine e_iload_n dX9_write_40 rfl ?_
        obtain ⟨g41, hf⟩ := gd_some hf
        refine e_iast dX9_write_41 rfl g41 ?_
        refine e_aload_n dX9_write_42 rfl ?_
        refine e_dup dX9_write_43 (fun _ => rfl) ?_
        refine e_getI (kz := 2) rfl dX9_write_44 rfl fl_684 rfl rfl (Or.inl rfl) ?_
        refine e_iconst dX9_write_47 ⟨by decide, by decide⟩ ?_
        refine e_iadd dX9_write_48 ?_
        refine e_putI (t := 0) (kz := 2) rfl dX9_write_49 rfl fp_684 rfl rfl (Or.inl rfl) ?_
        refine e_aload_n dX9_write_52 rfl ?_
        refine e_getI (kz := 2) rfl dX9_write_53 rfl fl_684 rfl rfl (Or.inl rfl) ?_
        obtain rfl := Option.some.inj hf
        exact e_ireturn dX9_write_56 rfl ⟨rfl, rfl⟩
      · replace hf := ifp hf c26
        refine e_bipush dX9_write_29 ⟨by decide, by decide, by decide⟩ ?_
        obtain rfl := Option.some.inj hf
        exact e_ireturn dX9_write_31 rfl ⟨rfl, rfl⟩
    · replace hf := ifp hf c14
      refine e_bipush dX9_write_17 ⟨by decide, by decide, by decide⟩ ?_
      obtain rfl := Option.some.inj hf
      exact e_ireturn dX9_write_19 rfl ⟨rfl, rfl⟩
  exact Cn_of rfl (fun _ => Nat.le_of_ble_eq_true rfl) ⟨rfl, rfl⟩ (e_pad 0 key)
abbrev m_X9_wipe : MI := (yX9_wipe, cX9_wipe, 2, some .int, { frames := 0, cells := 0, slots := 0, locals := 0 })
def p_X9_wipe (h : Mem)   : Option (Int × Mem) :=
  some ((up h 45 0 0) 45 2, (up (up h 45 0 0) 45 2 0))
set_option maxRecDepth 20000 in
theorem q_X9_wipe (h : Mem)    {X : Int × Mem} (hf : p_X9_wipe h   = some X) : Cn m_X9_wipe [vr 45] h (fun r h' => r = some (vi X.1) ∧ h' = X.2) := by
  unfold p_X9_wipe at hf
  have key : E m_X9_wipe none (fun r h' => r = some (vi X.1) ∧ h' = X.2) 0 [some (vr 45), none] [] h := by
    refine e_aload_n dX9_wipe_0 rfl ?_
    refine e_iconst dX9_wipe_1 ⟨by decide, by decide⟩ ?_
    refine e_putI (t := 0) (kz := 0) rfl dX9_wipe_2 rfl fp_682 rfl rfl (Or.inl rfl) ?_
    refine e_aload_n dX9_wipe_5 rfl ?_
    refine e_getI (kz := 2) rfl dX9_wipe_6 rfl fl_684 rfl rfl (Or.inl rfl) ?_
    refine e_istore_n (ls' := [some (vr 45), some (vi ((up h 45 0 0) 45 2))]) dX9_wipe_9 (Nat.le_of_ble_eq_true rfl) rfl ?_
    refine e_aload_n dX9_wipe_10 rfl ?_
    refine e_iconst dX9_wipe_11 ⟨by decide, by decide⟩ ?_
    refine e_putI (t := 0) (kz := 2) rfl dX9_wipe_12 rfl fp_684 rfl rfl (Or.inl rfl) ?_
    refine e_iload_n dX9_wipe_15 rfl ?_
    obtain rfl := Option.some.inj hf
    exact e_ireturn dX9_wipe_16 rfl ⟨rfl, rfl⟩
  exact Cn_of rfl (fun _ => Nat.le_of_ble_eq_true rfl) ⟨rfl, rfl⟩ (e_pad 1 key)
abbrev m_X9_figure : MI := (yX9_figure, cX9_figure, 3, some .int, { frames := 1, cells := 0, slots := 0, locals := 25 })
def p_X9_figure (h : Mem)  (l1 l2 : Int) : Option (Int × Mem) :=
  if h 45 3 = h 45 2 then (some ((-9), h)) else (gd (0 ≤ h 45 3 ∧ h 45 3 < 48) (bd (p_X9_in h (wr ((h 46 (h 45 3)) - 48)) l1 l2) (fun r28 => if r28 = 0 then (some ((-9), h)) else (gd (0 ≤ wr (((up h 45 3 (wr ((h 45 3) + 1))) 45 3) - 1) ∧ wr (((up h 45 3 (wr ((h 45 3) + 1))) 45 3) - 1) < 48) (some (wr (((up h 45 3 (wr ((h 45 3) + 1))) 46 (wr (((up h 45 3 (wr ((h 45 3) + 1))) 45 3) - 1))) - 48), (up h 45 3 (wr ((h 45 3) + 1)))))))))
set_option maxRecDepth 20000 in
theorem q_X9_figure (h : Mem)   (l1 l2 : Int) {X : Int × Mem} (hf : p_X9_figure h  l1 l2 = some X) : Cn m_X9_figure [vr 45, vi l1, vi l2] h (fun r h' => r = some (vi X.1) ∧ h' = X.2) := by
  unfold p_X9_figure at hf
  have key : E m_X9_figure none (fun r h' => r = some (vi X.1) ∧ h' = X.2) 0 [some (vr 45), some (vi l1), some (vi l2)] [] h := by
    refine e_aload_n dX9_figure_0 rfl ?_
    refine e_getI (kz := 3) rfl dX9_figure_1 rfl fl_685 rfl rfl (Or.inl rfl) ?_
    refine e_aload_n dX9_figure_4 rfl ?_
    refine e_getI (kz := 2) rfl dX9_figure_5 rfl fl_684 rfl rfl (Or.inl rfl) ?_
    refine e_icmp_eq (tgt := 34) dX9_figure_8 (by decide) (fun c8 => ?_) (fun c8 => ?_)
    · replace hf := ifp hf c8
      refine e_bipush dX9_figure_34 ⟨by decide, by decide, by decide⟩ ?_
      obtain rfl := Option.some.inj hf
      exact e_ireturn dX9_figure_36 rfl ⟨rfl, rfl⟩
    · replace hf := ifn hf c8
      refine e_aload_n dX9_figure_11 rfl ?_
      refine e_getR dX9_figure_12 rfl fl_683 rfl rfl ?_
      refine e_aload_n dX9_figure_15 rfl ?_
      refine e_getI (kz := 3) rfl dX9_figure_16 rfl fl_685 rfl rfl (Or.inl rfl) ?_
      obtain ⟨g19, hf⟩ := gd_some hf
      refine e_iald dX9_figure_19 rfl g19 ?_
      refine e_bipush dX9_figure_20 ⟨by decide, by decide, by decide⟩ ?_
      refine e_isub dX9_figure_22 ?_
      refine e_i2l dX9_figure_23 ?_
      refine e_iload_n dX9_figure_24 rfl ?_
      refine e_i2l dX9_figure_25 ?_
      refine e_iload_n dX9_figure_26 rfl ?_
      refine e_i2l dX9_figure_27 ?_
      obtain ⟨r28, e28, hf⟩ := bd_some hf
      refine e_callS3i dX9_figure_28 rfl lk_799 ⟨rfl, rfl, Nat.le_of_ble_eq_true rfl, Nat.le_of_ble_eq_true rfl⟩ (Nat.le_of_ble_eq_true rfl) (q_X9_in h   (wr ((h 46 (h 45 3)) - 48)) l1 l2 e28) ?_
      refine e_if_ne (tgt := 37) dX9_figure_31 (by decide) (fun c31 => ?_) (fun c31 => ?_)
      · replace hf := ifn hf c31
        refine e_aload_n dX9_figure_37 rfl ?_
        refine e_dup dX9_figure_38 (fun _ => rfl) ?_
        refine e_getI (kz := 3) rfl dX9_figure_39 rfl fl_685 rfl rfl (Or.inl rfl) ?_
        refine e_iconst dX9_figure_42 ⟨by decide, by decide⟩ ?_
        refine e_iadd dX9_figure_43 ?_
        refine e_putI (t := 0) (kz := 3) rfl dX9_figure_44 rfl fp_685 rfl rfl (Or.inl rfl) ?_
        refine e_aload_n dX9_figure_47 rfl ?_
        refine e_getR dX9_figure_48 rfl fl_683 rfl rfl ?_
        refine e_aload_n dX9_figure_51 rfl ?_
        refine e_getI (kz := 3) rfl dX9_figure_52 rfl fl_685 rfl rfl (Or.inl rfl) ?_
        refine e_iconst dX9_figure_55 ⟨by decide, by decide⟩ ?_
        refine e_isub dX9_figure_56 ?_
        obtain ⟨g57, hf⟩ := gd_some hf
        refine e_iald dX9_figure_57 rfl g57 ?_
        refine e_bipush dX9_figure_58 ⟨by decide, by decide, by decide⟩ ?_
        refine e_isub dX9_figure_60 ?_
        obtain rfl := Option.some.inj hf
        exact e_ireturn dX9_figure_61 rfl ⟨rfl, rfl⟩
      · replace hf := ifp hf c31
        refine e_bipush dX9_figure_34 ⟨by decide, by decide, by decide⟩ ?_
        obtain rfl := Option.some.inj hf
        exact e_ireturn dX9_figure_36 rfl ⟨rfl, rfl⟩
  exact Cn_of rfl (fun _ => Nat.le_of_ble_eq_true rfl) ⟨rfl, rfl⟩ (e_pad 0 key)
abbrev m_X9_isTaken : MI := (yX9_isTaken, cX9_isTaken, 4, some .boolean, { frames := 0, cells := 0, slots := 0, locals := 0 })
def p_X9_isTaken_33 (K4 : Int → Int → Int → Option (Int)) (h : Mem)   (l1 l3 s0 : Int) : Option (Int) :=
  K4 l1 s0 (wr (l3 + 1))
set_option maxRecDepth 20000 in
theorem q_X9_isTaken_33 (K4 : Int → Int → Int → Option (Int)) (h : Mem)     (l1 l3 s0 : Int) {X : Int} (hK4 : ∀ (l1 l2 l3 : Int), K4 l1 l2 l3 = some X → E m_X9_isTaken none (fun r h' => r = some (vi X) ∧ h' = h) 4 [some (vr 45), some (vi l1), some (vi l2), some (vi l3)] [] h) (hf : p_X9_isTaken_33 K4 h   l1 l3 s0 = some X) : E m_X9_isTaken none (fun r h' => r = some (vi X) ∧ h' = h) 33 [some (vr 45), some (vi l1), none, some (vi l3)] [vi s0] h := by
  unfold p_X9_isTaken_33 at hf
  refine e_istore_n (ls' := [some (vr 45), some (vi l1), some (vi s0), some (vi l3)]) dX9_isTaken_33 (Nat.le_of_ble_eq_true rfl) rfl ?_
  refine e_iinc (ls' := [some (vr 45), some (vi l1), some (vi s0), some (vi (wr (l3 + 1)))]) dX9_isTaken_34 rfl (Nat.le_of_ble_eq_true rfl) rfl ?_
  refine e_goto (tgt := 4) dX9_isTaken_37 (by decide) ?_
  exact e_mask [true, true, true, true] (hK4 l1 s0 (wr (l3 + 1)) hf)
def p_X9_isTaken_28 (K4 : Int → Int → Int → Option (Int)) (h : Mem)   (l1 l3 : Int) : Option (Int) :=
  p_X9_isTaken_33 K4 h   l1 l3 1
set_option maxRecDepth 20000 in
theorem q_X9_isTaken_28 (K4 : Int → Int → Int → Option (Int)) (h : Mem)     (l1 l3 : Int) {X : Int} (hK4 : ∀ (l1 l2 l3 : Int), K4 l1 l2 l3 = some X → E m_X9_isTaken none (fun r h' => r = some (vi X) ∧ h' = h) 4 [some (vr 45), some (vi l1), some (vi l2), some (vi l3)] [] h) (hf : p_X9_isTaken_28 K4 h   l1 l3 = some X) : E m_X9_isTaken none (fun r h' => r = some (vi X) ∧ h' = h) 28 [some (vr 45), some (vi l1), none, some (vi l3)] [] h := by
  unfold p_X9_isTaken_28 at hf
  refine e_iconst dX9_isTaken_28 ⟨by decide, by decide⟩ ?_
  refine e_goto (tgt := 33) dX9_isTaken_29 (by decide) ?_
  exact e_mask [true, true, false, true] (q_X9_isTaken_33 K4 h     l1 l3 1 hK4 hf)
def p_X9_isTaken_4 (K4 : Int → Int → Int → Option (Int)) (h : Mem)   (l1 l2 l3 : Int) : Option (Int) :=
  if h 45 12 ≤ l3 then (gd (l2 = 0 ∨ l2 = 1) (some l2)) else (if l2 = 0 then (gd (0 ≤ wr (4 * l3) ∧ wr (4 * l3) < 20) (if h 51 (wr (4 * l3)) = l1 then (p_X9_isTaken_28 K4 h   l1 l3) else (p_X9_isTaken_33 K4 h   l1 l3 0))) else (p_X9_isTaken_28 K4 h   l1 l3))
set_option maxRecDepth 20000 in
theorem q_X9_isTaken_4 (K4 : Int → Int → Int → Option (Int)) (h : Mem)     (l1 l2 l3 : Int) {X : Int} (hK4 : ∀ (l1 l2 l3 : Int), K4 l1 l2 l3 = some X → E m_X9_isTaken none (fun r h' => r = some (vi X) ∧ h' = h) 4 [some (vr 45), some (vi l1), some (vi l2), some (vi l3)] [] h) (hf : p_X9_isTaken_4 K4 h   l1 l2 l3 = some X) : E m_X9_isTaken none (fun r h' => r = some (vi X) ∧ h' = h) 4 [some (vr 45), some (vi l1), some (vi l2), some (vi l3)] [] h := by
  unfold p_X9_isTaken_4 at hf
  refine e_iload_n dX9_isTaken_4 rfl ?_
  refine e_aload_n dX9_isTaken_5 rfl ?_
  refine e_getI (kz := 12) rfl dX9_isTaken_6 rfl fl_694 rfl rfl (Or.inl rfl) ?_
  refine e_icmp_ge (tgt := 40) dX9_isTaken_9 (by decide) (fun c9 => ?_) (fun c9 => ?_)
  · replace hf := ifp hf c9
    refine e_iload_n dX9_isTaken_40 rfl ?_
    obtain ⟨g41, hf⟩ := gd_some hf
    obtain rfl := Option.some.inj hf
    exact e_zreturn dX9_isTaken_41 rfl g41 ⟨rfl, rfl⟩
  · replace hf := ifn hf c9
    refine e_iload_n dX9_isTaken_12 rfl ?_
    refine e_if_ne (tgt := 28) dX9_isTaken_13 (by decide) (fun c13 => ?_) (fun c13 => ?_)
    · replace hf := ifn hf c13
      exact e_mask [true, true, false, true] (q_X9_isTaken_28 K4 h     l1 l3 hK4 hf)
    · replace hf := ifp hf c13
      refine e_aload_n dX9_isTaken_16 rfl ?_
      refine e_getR dX9_isTaken_17 rfl fl_696 rfl rfl ?_
      refine e_iconst dX9_isTaken_20 ⟨by decide, by decide⟩ ?_
      refine e_iload_n dX9_isTaken_21 rfl ?_
      refine e_imul dX9_isTaken_22 ?_
      obtain ⟨g23, hf⟩ := gd_some hf
      refine e_iald dX9_isTaken_23 rfl g23 ?_
      refine e_iload_n dX9_isTaken_24 rfl ?_
      refine e_icmp_ne (tgt := 32) dX9_isTaken_25 (by decide) (fun c25 => ?_) (fun c25 => ?_)
      · replace hf := ifn hf c25
        refine e_iconst dX9_isTaken_32 ⟨by decide, by decide⟩ ?_
        exact e_mask [true, true, false, true] (q_X9_isTaken_33 K4 h     l1 l3 0 hK4 hf)
      · replace hf := ifp hf c25
        exact e_mask [true, true, false, true] (q_X9_isTaken_28 K4 h     l1 l3 hK4 hf)
def p_X9_isTaken_L4  (h : Mem)   : Nat → Int → Int → Int → Option (Int)
  | 0, _, _, _ => none
  | n + 1, l1, l2, l3 => p_X9_isTaken_4 (fun (l1 l2 l3 : Int) => p_X9_isTaken_L4  h   n l1 l2 l3) h   l1 l2 l3
theorem q_X9_isTaken_L4  (h : Mem)     {X : Int}  : ∀ (n : Nat) (l1 l2 l3 : Int), p_X9_isTaken_L4  h   n l1 l2 l3 = some X → E m_X9_isTaken none (fun r h' => r = some (vi X) ∧ h' = h) 4 [some (vr 45), some (vi l1), some (vi l2), some (vi l3)] [] h := by
  intro n
  induction n with
  | zero => intro l1 l2 l3 hf; have hf2 : (none : Option (Int)) = some X := hf; cases hf2
  | succ n ih => intro l1 l2 l3 hf; exact q_X9_isTaken_4 (fun (l1 l2 l3 : Int) => p_X9_isTaken_L4  h   n l1 l2 l3) h     l1 l2 l3 (fun l1 l2 l3 hf => ih l1 l2 l3 hf) hf
def p_X9_isTaken (h : Mem)  (l1 : Int) : Option (Int) :=
  p_X9_isTaken_L4  h   300  l1 0 0
set_option maxRecDepth 20000 in
theorem q_X9_isTaken (h : Mem)   (l1 : Int) {X : Int} (hf : p_X9_isTaken h  l1 = some X) : Cn m_X9_isTaken [vr 45, vi l1] h (fun r h' => r = some (vi X) ∧ h' = h) := by
  unfold p_X9_isTaken at hf
  have key : E m_X9_isTaken none (fun r h' => r = some (vi X) ∧ h' = h) 0 [some (vr 45), some (vi l1), none, none] [] h := by
    refine e_iconst dX9_isTaken_0 ⟨by decide, by decide⟩ ?_
    refine e_istore_n (ls' := [some (vr 45), some (vi l1), some (vi 0), none]) dX9_isTaken_1 (Nat.le_of_ble_eq_true rfl) rfl ?_
    refine e_iconst dX9_isTaken_2 ⟨by decide, by decide⟩ ?_
    refine e_istore_n (ls' := [some (vr 45), some (vi l1), some (vi 0), some (vi 0)]) dX9_isTaken_3 (Nat.le_of_ble_eq_true rfl) rfl ?_
    exact e_mask [true, true, true, true] (q_X9_isTaken_L4  h      300  l1 0 0 hf)
  exact Cn_of rfl (fun _ => Nat.le_of_ble_eq_true rfl) ⟨rfl, rfl⟩ (e_pad 2 key)
theorem lk_826 : VLk "StarRightModel" 87 m_X9_isTaken 1 := ⟨tw_826, tw_828, twp_24, tw_10, tw_829, by decide +kernel⟩
theorem lk_814 : VLk "StarRightModel" 91 m_X9_figure 2 := ⟨tw_814, tw_816, twp_21, tw_10, tw_817, by decide +kernel⟩
abbrev m_X9_readRoof : MI := (yX9_readRoof, cX9_readRoof, 3, some .boolean, { frames := 2, cells := 0, slots := 0, locals := 47 })
def p_X9_readRoof_93  (h : Mem)    : Option (Int × Mem) :=
  some (1, (up h 45 12 (wr ((h 45 12) + 1))))
set_option maxRecDepth 20000 in
theorem q_X9_readRoof_93  (h : Mem)      {X : Int × Mem}  (hf : p_X9_readRoof_93  h    = some X) : E m_X9_readRoof none (fun r h' => r = some (vi X.1) ∧ h' = X.2) 93 [some (vr 45), none, none] [] h := by
  unfold p_X9_readRoof_93 at hf
  refine e_aload_n dX9_readRoof_93 rfl ?_
  refine e_dup dX9_readRoof_94 (fun _ => rfl) ?_
  refine e_getI (kz := 12) rfl dX9_readRoof_95 rfl fl_694 rfl rfl (Or.inl rfl) ?_
  refine e_iconst dX9_readRoof_98 ⟨by decide, by decide⟩ ?_
  refine e_iadd dX9_readRoof_99 ?_
  refine e_putI (t := 0) (kz := 12) rfl dX9_readRoof_100 rfl fp_694 rfl rfl (Or.inl rfl) ?_
  refine e_iconst dX9_readRoof_103 ⟨by decide, by decide⟩ ?_
  obtain rfl := Option.some.inj hf
  exact e_zreturn dX9_readRoof_104 rfl (by decide) ⟨rfl, rfl⟩
def p_X9_readRoof_61 (K34 : Mem → Int → Option (Int × Mem)) (h : Mem)   (l1 s0 s1 : Int) : Option (Int × Mem) :=
  bd (p_X9_figure h s0 s1) (fun q61 => if q61.1 = (-9) then (some (0, q61.2)) else (gd (0 ≤ wr ((wr (4 * (q61.2 45 12))) + l1) ∧ wr ((wr (4 * (q61.2 45 12))) + l1) < 20) (K34 (up q61.2 51 (wr ((wr (4 * (q61.2 45 12))) + l1)) q61.1) (wr (l1 + 1)))))
set_option maxRecDepth 20000 in
theorem q_X9_readRoof_61 (K34 : Mem → Int → Option (Int × Mem)) (h : Mem)     (l1 s0 s1 : Int) {X : Int × Mem} (hK34 : ∀ (h : Mem) (l1 : Int), K34 h l1 = some X → E m_X9_readRoof none (fun r h' => r = some (vi X.1) ∧ h' = X.2) 34 [some (vr 45), some (vi l1), none] [] h) (hf : p_X9_readRoof_61 K34 h   l1 s0 s1 = some X) : E m_X9_readRoof none (fun r h' => r = some (vi X.1) ∧ h' = X.2) 61 [some (vr 45), some (vi l1), none] [vi s1, vi s0, vr 45] h := by
  unfold p_X9_readRoof_61 at hf
  obtain ⟨q61, e61, hf⟩ := bd_some hf
  refine e_callV2i dX9_readRoof_61 rfl lk_814 ⟨rfl, rfl, Nat.le_of_ble_eq_true rfl, Nat.le_of_ble_eq_true rfl⟩ rfl rfl (Nat.le_of_ble_eq_true rfl) (q_X9_figure h   s0 s1 e61) ?_
  refine e_istore_n (ls' := [some (vr 45), some (vi l1), some (vi q61.1)]) dX9_readRoof_64 (Nat.le_of_ble_eq_true rfl) rfl ?_
  refine e_iload_n dX9_readRoof_65 rfl ?_
  refine e_bipush dX9_readRoof_66 ⟨by decide, by decide, by decide⟩ ?_
  refine e_icmp_ne (tgt := 73) dX9_readRoof_68 (by decide) (fun c68 => ?_) (fun c68 => ?_)
  · replace hf := ifn hf c68
    refine e_aload_n dX9_readRoof_73 rfl ?_
    refine e_getR dX9_readRoof_74 rfl fl_696 rfl rfl ?_
    refine e_iconst dX9_readRoof_77 ⟨by decide, by decide⟩ ?_
    refine e_aload_n dX9_readRoof_78 rfl ?_
    refine e_getI (kz := 12) rfl dX9_readRoof_79 rfl fl_694 rfl rfl (Or.inl rfl) ?_
    refine e_imul dX9_readRoof_82 ?_
    refine e_iload_n dX9_readRoof_83 rfl ?_
    refine e_iadd dX9_readRoof_84 ?_
    refine e_iload_n dX9_readRoof_85 rfl ?_
    obtain ⟨g86, hf⟩ := gd_some hf
    refine e_iast dX9_readRoof_86 rfl g86 ?_
    refine e_iinc (ls' := [some (vr 45), some (vi (wr (l1 + 1))), some (vi q61.1)]) dX9_readRoof_87 rfl (Nat.le_of_ble_eq_true rfl) rfl ?_
    refine e_goto (tgt := 34) dX9_readRoof_90 (by decide) ?_
    exact e_mask [true, true, false] (hK34 (up q61.2 51 (wr ((wr (4 * (q61.2 45 12))) + l1)) q61.1) (wr (l1 + 1)) hf)
  · replace hf := ifp hf c68
    refine e_iconst dX9_readRoof_71 ⟨by decide, by decide⟩ ?_
    obtain rfl := Option.some.inj hf
    exact e_zreturn dX9_readRoof_72 rfl (by decide) ⟨rfl, rfl⟩
def p_X9_readRoof_34 (K34 : Mem → Int → Option (Int × Mem)) (h : Mem)   (l1 : Int) : Option (Int × Mem) :=
  if 4 ≤ l1 then (p_X9_readRoof_93  h   ) else (if 2 ≤ l1 then (if l1 = 2 then (p_X9_readRoof_61 K34 h   l1 0 1) else (p_X9_readRoof_61 K34 h   l1 0 3)) else (p_X9_readRoof_61 K34 h   l1 0 9))
set_option maxRecDepth 20000 in
theorem q_X9_readRoof_34 (K34 : Mem → Int → Option (Int × Mem)) (h : Mem)     (l1 : Int) {X : Int × Mem} (hK34 : ∀ (h : Mem) (l1 : Int), K34 h l1 = some X → E m_X9_readRoof none (fun r h' => r = some (vi X.1) ∧ h' = X.2) 34 [some (vr 45), some (vi l1), none] [] h) (hf : p_X9_readRoof_34 K34 h   l1 = some X) : E m_X9_readRoof none (fun r h' => r = some (vi X.1) ∧ h' = X.2) 34 [some (vr 45), some (vi l1), none] [] h := by
  unfold p_X9_readRoof_34 at hf
  refine e_iload_n dX9_readRoof_34 rfl ?_
  refine e_iconst dX9_readRoof_35 ⟨by decide, by decide⟩ ?_
  refine e_icmp_ge (tgt := 93) dX9_readRoof_36 (by decide) (fun c36 => ?_) (fun c36 => ?_)
  · replace hf := ifp hf c36
    exact e_mask [true, false, false] (q_X9_readRoof_93  h       hf)
  · replace hf := ifn hf c36
    refine e_aload_n dX9_readRoof_39 rfl ?_
    refine e_iconst dX9_readRoof_40 ⟨by decide, by decide⟩ ?_
    refine e_iload_n dX9_readRoof_41 rfl ?_
    refine e_iconst dX9_readRoof_42 ⟨by decide, by decide⟩ ?_
    refine e_icmp_ge (tgt := 51) dX9_readRoof_43 (by decide) (fun c43 => ?_) (fun c43 => ?_)
    · replace hf := ifp hf c43
      refine e_iload_n dX9_readRoof_51 rfl ?_
      refine e_iconst dX9_readRoof_52 ⟨by decide, by decide⟩ ?_
      refine e_icmp_ne (tgt := 60) dX9_readRoof_53 (by decide) (fun c53 => ?_) (fun c53 => ?_)
      · replace hf := ifn hf c53
        refine e_iconst dX9_readRoof_60 ⟨by decide, by decide⟩ ?_
        exact e_mask [true, true, false] (q_X9_readRoof_61 K34 h     l1 0 3 hK34 hf)
      · replace hf := ifp hf c53
        refine e_iconst dX9_readRoof_56 ⟨by decide, by decide⟩ ?_
        refine e_goto (tgt := 61) dX9_readRoof_57 (by decide) ?_
        exact e_mask [true, true, false] (q_X9_readRoof_61 K34 h     l1 0 1 hK34 hf)
    · replace hf := ifn hf c43
      refine e_bipush dX9_readRoof_46 ⟨by decide, by decide, by decide⟩ ?_
      refine e_goto (tgt := 61) dX9_readRoof_48 (by decide) ?_
      exact e_mask [true, true, false] (q_X9_readRoof_61 K34 h     l1 0 9 hK34 hf)
def p_X9_readRoof_L34     : Nat → Mem → Int → Option (Int × Mem)
  | 0, _, _ => none
  | n + 1, h, l1 => p_X9_readRoof_34 (fun (h : Mem) (l1 : Int) => p_X9_readRoof_L34     n h l1) h   l1
theorem q_X9_readRoof_L34       {X : Int × Mem}  : ∀ (n : Nat) (h : Mem) (l1 : Int), p_X9_readRoof_L34     n h l1 = some X → E m_X9_readRoof none (fun r h' => r = some (vi X.1) ∧ h' = X.2) 34 [some (vr 45), some (vi l1), none] [] h := by
  intro n
  induction n with
  | zero => intro h l1 hf; have hf2 : (none : Option (Int × Mem)) = some X := hf; cases hf2
  | succ n ih => intro h l1 hf; exact q_X9_readRoof_34 (fun (h : Mem) (l1 : Int) => p_X9_readRoof_L34     n h l1) h     l1 (fun h l1 hf => ih h l1 hf) hf
def p_X9_readRoof_32  (h : Mem)    : Option (Int × Mem) :=
  p_X9_readRoof_L34     300 h 0
set_option maxRecDepth 20000 in
theorem q_X9_readRoof_32  (h : Mem)      {X : Int × Mem}  (hf : p_X9_readRoof_32  h    = some X) : E m_X9_readRoof none (fun r h' => r = some (vi X.1) ∧ h' = X.2) 32 [some (vr 45), none, none] [] h := by
  unfold p_X9_readRoof_32 at hf
  refine e_iconst dX9_readRoof_32 ⟨by decide, by decide⟩ ?_
  refine e_istore_n (ls' := [some (vr 45), some (vi 0), none]) dX9_readRoof_33 (Nat.le_of_ble_eq_true rfl) rfl ?_
  exact e_mask [true, true, false] (q_X9_readRoof_L34        300 h 0 hf)
def p_X9_readRoof (h : Mem)   : Option (Int × Mem) :=
  if h 45 2 ≤ h 45 3 then (p_X9_readRoof_32  h   ) else (gd (0 ≤ h 45 3 ∧ h 45 3 < 48) (bd (p_X9_isTaken h (wr ((h 46 (h 45 3)) - 48))) (fun r24 => if r24 = 0 then (p_X9_readRoof_32  h   ) else (some (0, h)))))
set_option maxRecDepth 20000 in
theorem q_X9_readRoof (h : Mem)    {X : Int × Mem} (hf : p_X9_readRoof h   = some X) : Cn m_X9_readRoof [vr 45] h (fun r h' => r = some (vi X.1) ∧ h' = X.2) := by
  unfold p_X9_readRoof at hf
  have key : E m_X9_readRoof none (fun r h' => r = some (vi X.1) ∧ h' = X.2) 0 [some (vr 45), none, none] [] h := by
    refine e_aload_n dX9_readRoof_0 rfl ?_
    refine e_getI (kz := 3) rfl dX9_readRoof_1 rfl fl_685 rfl rfl (Or.inl rfl) ?_
    refine e_aload_n dX9_readRoof_4 rfl ?_
    refine e_getI (kz := 2) rfl dX9_readRoof_5 rfl fl_684 rfl rfl (Or.inl rfl) ?_
    refine e_icmp_ge (tgt := 32) dX9_readRoof_8 (by decide) (fun c8 => ?_) (fun c8 => ?_)
    · replace hf := ifp hf c8
      exact e_mask [true, false, false] (q_X9_readRoof_32  h       hf)
    · replace hf := ifn hf c8
      refine e_aload_n dX9_readRoof_11 rfl ?_
      refine e_aload_n dX9_readRoof_12 rfl ?_
      refine e_getR dX9_readRoof_13 rfl fl_683 rfl rfl ?_
      refine e_aload_n dX9_readRoof_16 rfl ?_
      refine e_getI (kz := 3) rfl dX9_readRoof_17 rfl fl_685 rfl rfl (Or.inl rfl) ?_
      obtain ⟨g20, hf⟩ := gd_some hf
      refine e_iald dX9_readRoof_20 rfl g20 ?_
      refine e_bipush dX9_readRoof_21 ⟨by decide, by decide, by decide⟩ ?_
      refine e_isub dX9_readRoof_23 ?_
      obtain ⟨r24, e24, hf⟩ := bd_some hf
      refine e_callV1i dX9_readRoof_24 rfl lk_826 ⟨rfl, rfl, Nat.le_of_ble_eq_true rfl, Nat.le_of_ble_eq_true rfl⟩ rfl rfl (Nat.le_of_ble_eq_true rfl) (q_X9_isTaken h   (wr ((h 46 (h 45 3)) - 48)) e24) ?_
      refine e_if_eq (tgt := 32) dX9_readRoof_27 (by decide) (fun c27 => ?_) (fun c27 => ?_)
      · replace hf := ifp hf c27
        exact e_mask [true, false, false] (q_X9_readRoof_32  h       hf)
      · replace hf := ifn hf c27
        refine e_iconst dX9_readRoof_30 ⟨by decide, by decide⟩ ?_
        obtain rfl := Option.some.inj hf
        exact e_zreturn dX9_readRoof_31 rfl (by decide) ⟨rfl, rfl⟩
  exact Cn_of rfl (fun _ => Nat.le_of_ble_eq_true rfl) ⟨rfl, rfl⟩ (e_pad 2 key)
abbrev m_X9_readStar : MI := (yX9_readStar, cX9_readStar, 3, some .boolean, { frames := 2, cells := 0, slots := 0, locals := 47 })
def p_X9_readStar_71  (h : Mem)    : Option (Int × Mem) :=
  some (1, (up h 45 13 (wr ((h 45 13) + 1))))
set_option maxRecDepth 20000 in
theorem q_X9_readStar_71  (h : Mem)      {X : Int × Mem}  (hf : p_X9_readStar_71  h    = some X) : E m_X9_readStar none (fun r h' => r = some (vi X.1) ∧ h' = X.2) 71 [some (vr 45), none, none] [] h := by
  unfold p_X9_readStar_71 at hf
  refine e_aload_n dX9_readStar_71 rfl ?_
  refine e_dup dX9_readStar_72 (fun _ => rfl) ?_
  refine e_getI (kz := 13) rfl dX9_readStar_73 rfl fl_695 rfl rfl (Or.inl rfl) ?_
  refine e_iconst dX9_readStar_76 ⟨by decide, by decide⟩ ?_
  refine e_iadd dX9_readStar_77 ?_
  refine e_putI (t := 0) (kz := 13) rfl dX9_readStar_78 rfl fp_695 rfl rfl (Or.inl rfl) ?_
  refine e_iconst dX9_readStar_81 ⟨by decide, by decide⟩ ?_
  obtain rfl := Option.some.inj hf
  exact e_zreturn dX9_readStar_82 rfl (by decide) ⟨rfl, rfl⟩
def p_X9_readStar_42 (K2 : Mem → Int → Option (Int × Mem)) (h : Mem)   (l1 s0 : Int) : Option (Int × Mem) :=
  if s0 = (-9) then (some (0, h)) else (gd (0 ≤ wr ((wr (3 * (h 45 13))) + l1) ∧ wr ((wr (3 * (h 45 13))) + l1) < 12) (K2 (up h 52 (wr ((wr (3 * (h 45 13))) + l1)) s0) (wr (l1 + 1))))
set_option maxRecDepth 20000 in
theorem q_X9_readStar_42 (K2 : Mem → Int → Option (Int × Mem)) (h : Mem)     (l1 s0 : Int) {X : Int × Mem} (hK2 : ∀ (h : Mem) (l1 : Int), K2 h l1 = some X → E m_X9_readStar none (fun r h' => r = some (vi X.1) ∧ h' = X.2) 2 [some (vr 45), some (vi l1), none] [] h) (hf : p_X9_readStar_42 K2 h   l1 s0 = some X) : E m_X9_readStar none (fun r h' => r = some (vi X.1) ∧ h' = X.2) 42 [some (vr 45), some (vi l1), none] [vi s0] h := by
  unfold p_X9_readStar_42 at hf
  refine e_istore_n (ls' := [some (vr 45), some (vi l1), some (vi s0)]) dX9_readStar_42 (Nat.le_of_ble_eq_true rfl) rfl ?_
  refine e_iload_n dX9_readStar_43 rfl ?_
  refine e_bipush dX9_readStar_44 ⟨by decide, by decide, by decide⟩ ?_
  refine e_icmp_ne (tgt := 51) dX9_readStar_46 (by decide) (fun c46 => ?_) (fun c46 => ?_)
  · replace hf := ifn hf c46
    refine e_aload_n dX9_readStar_51 rfl ?_
    refine e_getR dX9_readStar_52 rfl fl_697 rfl rfl ?_
    refine e_iconst dX9_readStar_55 ⟨by decide, by decide⟩ ?_
    refine e_aload_n dX9_readStar_56 rfl ?_
    refine e_getI (kz := 13) rfl dX9_readStar_57 rfl fl_695 rfl rfl (Or.inl rfl) ?_
    refine e_imul dX9_readStar_60 ?_
    refine e_iload_n dX9_readStar_61 rfl ?_
    refine e_iadd dX9_readStar_62 ?_
    refine e_iload_n dX9_readStar_63 rfl ?_
    obtain ⟨g64, hf⟩ := gd_some hf
    refine e_iast dX9_readStar_64 rfl g64 ?_
    refine e_iinc (ls' := [some (vr 45), some (vi (wr (l1 + 1))), some (vi s0)]) dX9_readStar_65 rfl (Nat.le_of_ble_eq_true rfl) rfl ?_
    refine e_goto (tgt := 2) dX9_readStar_68 (by decide) ?_
    exact e_mask [true, true, false] (hK2 (up h 52 (wr ((wr (3 * (h 45 13))) + l1)) s0) (wr (l1 + 1)) hf)
  · replace hf := ifp hf c46
    refine e_iconst dX9_readStar_49 ⟨by decide, by decide⟩ ?_
    obtain rfl := Option.some.inj hf
    exact e_zreturn dX9_readStar_50 rfl (by decide) ⟨rfl, rfl⟩
def p_X9_readStar_2 (K2 : Mem → Int → Option (Int × Mem)) (h : Mem)   (l1 : Int) : Option (Int × Mem) :=
  if 3 ≤ l1 then (p_X9_readStar_71  h   ) else (if l1 = 0 then (bd (p_X9_figure h 0 9) (fun q15 => p_X9_readStar_42 K2 q15.2   l1 q15.1)) else (if l1 = 1 then (bd (p_X9_figure h 0 3) (fun q29 => p_X9_readStar_42 K2 q29.2   l1 q29.1)) else (bd (p_X9_figure h 1 9) (fun q39 => p_X9_readStar_42 K2 q39.2   l1 q39.1))))
set_option maxRecDepth 20000 in
theorem q_X9_readStar_2 (K2 : Mem → Int → Option (Int × Mem)) (h : Mem)     (l1 : Int) {X : Int × Mem} (hK2 : ∀ (h : Mem) (l1 : Int), K2 h l1 = some X → E m_X9_readStar none (fun r h' => r = some (vi X.1) ∧ h' = X.2) 2 [some (vr 45), some (vi l1), none] [] h) (hf : p_X9_readStar_2 K2 h   l1 = some X) : E m_X9_readStar none (fun r h' => r = some (vi X.1) ∧ h' = X.2) 2 [some (vr 45), some (vi l1), none] [] h := by
  unfold p_X9_readStar_2 at hf
  refine e_iload_n dX9_readStar_2 rfl ?_
  refine e_iconst dX9_readStar_3 ⟨by decide, by decide⟩ ?_
  refine e_icmp_ge (tgt := 71) dX9_readStar_4 (by decide) (fun c4 => ?_) (fun c4 => ?_)
  · replace hf := ifp hf c4
    exact e_mask [true, false, false] (q_X9_readStar_71  h       hf)
  · replace hf := ifn hf c4
    refine e_iload_n dX9_readStar_7 rfl ?_
    refine e_if_ne (tgt := 21) dX9_readStar_8 (by decide) (fun c8 => ?_) (fun c8 => ?_)
    · replace hf := ifn hf c8
      refine e_iload_n dX9_readStar_21 rfl ?_
      refine e_iconst dX9_readStar_22 ⟨by decide, by decide⟩ ?_
      refine e_icmp_ne (tgt := 35) dX9_readStar_23 (by decide) (fun c23 => ?_) (fun c23 => ?_)
      · replace hf := ifn hf c23
        refine e_aload_n dX9_readStar_35 rfl ?_
        refine e_iconst dX9_readStar_36 ⟨by decide, by decide⟩ ?_
        refine e_bipush dX9_readStar_37 ⟨by decide, by decide, by decide⟩ ?_
        obtain ⟨q39, e39, hf⟩ := bd_some hf
        refine e_callV2i dX9_readStar_39 rfl lk_814 ⟨rfl, rfl, Nat.le_of_ble_eq_true rfl, Nat.le_of_ble_eq_true rfl⟩ rfl rfl (Nat.le_of_ble_eq_true rfl) (q_X9_figure h   1 9 e39) ?_
        exact e_mask [true, true, false] (q_X9_readStar_42 K2 q39.2     l1 q39.1 hK2 hf)
      · replace hf := ifp hf c23
        refine e_aload_n dX9_readStar_26 rfl ?_
        refine e_iconst dX9_readStar_27 ⟨by decide, by decide⟩ ?_
        refine e_iconst dX9_readStar_28 ⟨by decide, by decide⟩ ?_
        obtain ⟨q29, e29, hf⟩ := bd_some hf
        refine e_callV2i dX9_readStar_29 rfl lk_814 ⟨rfl, rfl, Nat.le_of_ble_eq_true rfl, Nat.le_of_ble_eq_true rfl⟩ rfl rfl (Nat.le_of_ble_eq_true rfl) (q_X9_figure h   0 3 e29) ?_
        refine e_goto (tgt := 42) dX9_readStar_32 (by decide) ?_
        exact e_mask [true, true, false] (q_X9_readStar_42 K2 q29.2     l1 q29.1 hK2 hf)
    · replace hf := ifp hf c8
      refine e_aload_n dX9_readStar_11 rfl ?_
      refine e_iconst dX9_readStar_12 ⟨by decide, by decide⟩ ?_
      refine e_bipush dX9_readStar_13 ⟨by decide, by decide, by decide⟩ ?_
      obtain ⟨q15, e15, hf⟩ := bd_some hf
      refine e_callV2i dX9_readStar_15 rfl lk_814 ⟨rfl, rfl, Nat.le_of_ble_eq_true rfl, Nat.le_of_ble_eq_true rfl⟩ rfl rfl (Nat.le_of_ble_eq_true rfl) (q_X9_figure h   0 9 e15) ?_
      refine e_goto (tgt := 42) dX9_readStar_18 (by decide) ?_
      exact e_mask [true, true, false] (q_X9_readStar_42 K2 q15.2     l1 q15.1 hK2 hf)
def p_X9_readStar_L2     : Nat → Mem → Int → Option (Int × Mem)
  | 0, _, _ => none
  | n + 1, h, l1 => p_X9_readStar_2 (fun (h : Mem) (l1 : Int) => p_X9_readStar_L2     n h l1) h   l1
theorem q_X9_readStar_L2       {X : Int × Mem}  : ∀ (n : Nat) (h : Mem) (l1 : Int), p_X9_readStar_L2     n h l1 = some X → E m_X9_readStar none (fun r h' => r = some (vi X.1) ∧ h' = X.2) 2 [some (vr 45), some (vi l1), none] [] h := by
  intro n
  induction n with
  | zero => intro h l1 hf; have hf2 : (none : Option (Int × Mem)) = some X := hf; cases hf2
  | succ n ih => intro h l1 hf; exact q_X9_readStar_2 (fun (h : Mem) (l1 : Int) => p_X9_readStar_L2     n h l1) h     l1 (fun h l1 hf => ih h l1 hf) hf
def p_X9_readStar (h : Mem)   : Option (Int × Mem) :=
  p_X9_readStar_L2     300 h 0
set_option maxRecDepth 20000 in
theorem q_X9_readStar (h : Mem)    {X : Int × Mem} (hf : p_X9_readStar h   = some X) : Cn m_X9_readStar [vr 45] h (fun r h' => r = some (vi X.1) ∧ h' = X.2) := by
  unfold p_X9_readStar at hf
  have key : E m_X9_readStar none (fun r h' => r = some (vi X.1) ∧ h' = X.2) 0 [some (vr 45), none, none] [] h := by
    refine e_iconst dX9_readStar_0 ⟨by decide, by decide⟩ ?_
    refine e_istore_n (ls' := [some (vr 45), some (vi 0), none]) dX9_readStar_1 (Nat.le_of_ble_eq_true rfl) rfl ?_
    exact e_mask [true, true, false] (q_X9_readStar_L2        300 h 0 hf)
  exact Cn_of rfl (fun _ => Nat.le_of_ble_eq_true rfl) ⟨rfl, rfl⟩ (e_pad 2 key)
theorem lk_830 : VLk "StarRightModel" 101 m_X9_readStar 0 := ⟨tw_830, tw_832, twp_25, tw_10, tw_833, by decide +kernel⟩
theorem lk_822 : VLk "StarRightModel" 98 m_X9_readRoof 0 := ⟨tw_822, tw_824, twp_23, tw_10, tw_825, by decide +kernel⟩
abbrev m_X9_readPart : MI := (yX9_readPart, cX9_readPart, 2, some .boolean, { frames := 3, cells := 0, slots := 0, locals := 69 })
def p_X9_readPart_58  (h : Mem)    : Option (Int × Mem) :=
  some (0, (up h 45 3 (wr ((h 45 3) - 1))))
set_option maxRecDepth 20000 in
theorem q_X9_readPart_58  (h : Mem)      {X : Int × Mem}  (hf : p_X9_readPart_58  h    = some X) : E m_X9_readPart none (fun r h' => r = some (vi X.1) ∧ h' = X.2) 58 [some (vr 45), none] [] h := by
  unfold p_X9_readPart_58 at hf
  refine e_aload_n dX9_readPart_58 rfl ?_
  refine e_dup dX9_readPart_59 (fun _ => rfl) ?_
  refine e_getI (kz := 3) rfl dX9_readPart_60 rfl fl_685 rfl rfl (Or.inl rfl) ?_
  refine e_iconst dX9_readPart_63 ⟨by decide, by decide⟩ ?_
  refine e_isub dX9_readPart_64 ?_
  refine e_putI (t := 0) (kz := 3) rfl dX9_readPart_65 rfl fp_685 rfl rfl (Or.inl rfl) ?_
  refine e_iconst dX9_readPart_68 ⟨by decide, by decide⟩ ?_
  obtain rfl := Option.some.inj hf
  exact e_zreturn dX9_readPart_69 rfl (by decide) ⟨rfl, rfl⟩
def p_X9_readPart_39  (h : Mem)   (l1 : Int) : Option (Int × Mem) :=
  if l1 = 83 then (if 4 ≤ h 45 13 then (p_X9_readPart_58  h   ) else (bd (p_X9_readStar h ) (fun q54 => gd (q54.1 = 0 ∨ q54.1 = 1) (some (q54.1, q54.2))))) else (p_X9_readPart_58  h   )
set_option maxRecDepth 20000 in
theorem q_X9_readPart_39  (h : Mem)     (l1 : Int) {X : Int × Mem}  (hf : p_X9_readPart_39  h   l1 = some X) : E m_X9_readPart none (fun r h' => r = some (vi X.1) ∧ h' = X.2) 39 [some (vr 45), some (vi l1)] [] h := by
  unfold p_X9_readPart_39 at hf
  refine e_iload_n dX9_readPart_39 rfl ?_
  refine e_bipush dX9_readPart_40 ⟨by decide, by decide, by decide⟩ ?_
  refine e_icmp_ne (tgt := 58) dX9_readPart_42 (by decide) (fun c42 => ?_) (fun c42 => ?_)
  · replace hf := ifn hf c42
    exact e_mask [true, false] (q_X9_readPart_58  h       hf)
  · replace hf := ifp hf c42
    refine e_aload_n dX9_readPart_45 rfl ?_
    refine e_getI (kz := 13) rfl dX9_readPart_46 rfl fl_695 rfl rfl (Or.inl rfl) ?_
    refine e_iconst dX9_readPart_49 ⟨by decide, by decide⟩ ?_
    refine e_icmp_ge (tgt := 58) dX9_readPart_50 (by decide) (fun c50 => ?_) (fun c50 => ?_)
    · replace hf := ifp hf c50
      exact e_mask [true, false] (q_X9_readPart_58  h       hf)
    · replace hf := ifn hf c50
      refine e_aload_n dX9_readPart_53 rfl ?_
      obtain ⟨q54, e54, hf⟩ := bd_some hf
      refine e_callV0i dX9_readPart_54 rfl lk_830 ⟨rfl, rfl, Nat.le_of_ble_eq_true rfl, Nat.le_of_ble_eq_true rfl⟩ rfl rfl (Nat.le_of_ble_eq_true rfl) (q_X9_readStar h    e54) ?_
      obtain ⟨g57, hf⟩ := gd_some hf
      obtain rfl := Option.some.inj hf
      exact e_zreturn dX9_readPart_57 rfl g57 ⟨rfl, rfl⟩
def p_X9_readPart (h : Mem)   : Option (Int × Mem) :=
  gd (0 ≤ h 45 3 ∧ h 45 3 < 48) (if h 46 (h 45 3) = 82 then (if 5 ≤ (up h 45 3 (wr ((h 45 3) + 1))) 45 12 then (p_X9_readPart_39  (up h 45 3 (wr ((h 45 3) + 1)))   (h 46 (h 45 3))) else (bd (p_X9_readRoof (up h 45 3 (wr ((h 45 3) + 1))) ) (fun q35 => gd (q35.1 = 0 ∨ q35.1 = 1) (some (q35.1, q35.2))))) else (p_X9_readPart_39  (up h 45 3 (wr ((h 45 3) + 1)))   (h 46 (h 45 3))))
set_option maxRecDepth 20000 in
theorem q_X9_readPart (h : Mem)    {X : Int × Mem} (hf : p_X9_readPart h   = some X) : Cn m_X9_readPart [vr 45] h (fun r h' => r = some (vi X.1) ∧ h' = X.2) := by
  unfold p_X9_readPart at hf
  have key : E m_X9_readPart none (fun r h' => r = some (vi X.1) ∧ h' = X.2) 0 [some (vr 45), none] [] h := by
    refine e_aload_n dX9_readPart_0 rfl ?_
    refine e_getR dX9_readPart_1 rfl fl_683 rfl rfl ?_
    refine e_aload_n dX9_readPart_4 rfl ?_
    refine e_getI (kz := 3) rfl dX9_readPart_5 rfl fl_685 rfl rfl (Or.inl rfl) ?_
    obtain ⟨g8, hf⟩ := gd_some hf
    refine e_iald dX9_readPart_8 rfl g8 ?_
    refine e_istore_n (ls' := [some (vr 45), some (vi (h 46 (h 45 3)))]) dX9_readPart_9 (Nat.le_of_ble_eq_true rfl) rfl ?_
    refine e_aload_n dX9_readPart_10 rfl ?_
    refine e_dup dX9_readPart_11 (fun _ => rfl) ?_
    refine e_getI (kz := 3) rfl dX9_readPart_12 rfl fl_685 rfl rfl (Or.inl rfl) ?_
    refine e_iconst dX9_readPart_15 ⟨by decide, by decide⟩ ?_
    refine e_iadd dX9_readPart_16 ?_
    refine e_putI (t := 0) (kz := 3) rfl dX9_readPart_17 rfl fp_685 rfl rfl (Or.inl rfl) ?_
    refine e_iload_n dX9_readPart_20 rfl ?_
    refine e_bipush dX9_readPart_21 ⟨by decide, by decide, by decide⟩ ?_
    refine e_icmp_ne (tgt := 39) dX9_readPart_23 (by decide) (fun c23 => ?_) (fun c23 => ?_)
    · replace hf := ifn hf c23
      exact e_mask [true, true] (q_X9_readPart_39  (up h 45 3 (wr ((h 45 3) + 1)))     (h 46 (h 45 3))  hf)
    · replace hf := ifp hf c23
      refine e_aload_n dX9_readPart_26 rfl ?_
      refine e_getI (kz := 12) rfl dX9_readPart_27 rfl fl_694 rfl rfl (Or.inl rfl) ?_
      refine e_iconst dX9_readPart_30 ⟨by decide, by decide⟩ ?_
      refine e_icmp_ge (tgt := 39) dX9_readPart_31 (by decide) (fun c31 => ?_) (fun c31 => ?_)
      · replace hf := ifp hf c31
        exact e_mask [true, true] (q_X9_readPart_39  (up h 45 3 (wr ((h 45 3) + 1)))     (h 46 (h 45 3))  hf)
      · replace hf := ifn hf c31
        refine e_aload_n dX9_readPart_34 rfl ?_
        obtain ⟨q35, e35, hf⟩ := bd_some hf
        refine e_callV0i dX9_readPart_35 rfl lk_822 ⟨rfl, rfl, Nat.le_of_ble_eq_true rfl, Nat.le_of_ble_eq_true rfl⟩ rfl rfl (Nat.le_of_ble_eq_true rfl) (q_X9_readRoof (up h 45 3 (wr ((h 45 3) + 1)))    e35) ?_
        obtain ⟨g38, hf⟩ := gd_some hf
        obtain rfl := Option.some.inj hf
        exact e_zreturn dX9_readPart_38 rfl g38 ⟨rfl, rfl⟩
  exact Cn_of rfl (fun _ => Nat.le_of_ble_eq_true rfl) ⟨rfl, rfl⟩ (e_pad 1 key)
theorem lk_818 : VLk "StarRightModel" 106 m_X9_readPart 0 := ⟨tw_818, tw_820, twp_22, tw_10, tw_821, by decide +kernel⟩
abbrev m_X9_readNight : MI := (yX9_readNight, cX9_readNight, 1, some .int, { frames := 4, cells := 0, slots := 0, locals := 90 })
def p_X9_readNight_82  (h : Mem)    : Option (Int × Mem) :=
  some (h 45 3, h)
set_option maxRecDepth 20000 in
theorem q_X9_readNight_82  (h : Mem)      {X : Int × Mem}  (hf : p_X9_readNight_82  h    = some X) : E m_X9_readNight none (fun r h' => r = some (vi X.1) ∧ h' = X.2) 82 [some (vr 45)] [] h := by
  unfold p_X9_readNight_82 at hf
  refine e_aload_n dX9_readNight_82 rfl ?_
  refine e_getI (kz := 3) rfl dX9_readNight_83 rfl fl_685 rfl rfl (Or.inl rfl) ?_
  obtain rfl := Option.some.inj hf
  exact e_ireturn dX9_readNight_86 rfl ⟨rfl, rfl⟩
def p_X9_readNight_64 (K64 : Mem → Option (Int × Mem)) (h : Mem)    : Option (Int × Mem) :=
  if h 45 2 ≤ h 45 3 then (some ((-9), h)) else (bd (p_X9_readPart h ) (fun q76 => if q76.1 = 0 then (p_X9_readNight_82  q76.2   ) else (K64 q76.2 )))
set_option maxRecDepth 20000 in
theorem q_X9_readNight_64 (K64 : Mem → Option (Int × Mem)) (h : Mem)      {X : Int × Mem} (hK64 : ∀ (h : Mem) , K64 h  = some X → E m_X9_readNight none (fun r h' => r = some (vi X.1) ∧ h' = X.2) 64 [some (vr 45)] [] h) (hf : p_X9_readNight_64 K64 h    = some X) : E m_X9_readNight none (fun r h' => r = some (vi X.1) ∧ h' = X.2) 64 [some (vr 45)] [] h := by
  unfold p_X9_readNight_64 at hf
  refine e_aload_n dX9_readNight_64 rfl ?_
  refine e_getI (kz := 3) rfl dX9_readNight_65 rfl fl_685 rfl rfl (Or.inl rfl) ?_
  refine e_aload_n dX9_readNight_68 rfl ?_
  refine e_getI (kz := 2) rfl dX9_readNight_69 rfl fl_684 rfl rfl (Or.inl rfl) ?_
  refine e_icmp_ge (tgt := 87) dX9_readNight_72 (by decide) (fun c72 => ?_) (fun c72 => ?_)
  · replace hf := ifp hf c72
    refine e_bipush dX9_readNight_87 ⟨by decide, by decide, by decide⟩ ?_
    obtain rfl := Option.some.inj hf
    exact e_ireturn dX9_readNight_89 rfl ⟨rfl, rfl⟩
  · replace hf := ifn hf c72
    refine e_aload_n dX9_readNight_75 rfl ?_
    obtain ⟨q76, e76, hf⟩ := bd_some hf
    refine e_callV0i dX9_readNight_76 rfl lk_818 ⟨rfl, rfl, Nat.le_of_ble_eq_true rfl, Nat.le_of_ble_eq_true rfl⟩ rfl rfl (Nat.le_of_ble_eq_true rfl) (q_X9_readPart h    e76) ?_
    refine e_if_ne (tgt := 64) dX9_readNight_79 (by decide) (fun c79 => ?_) (fun c79 => ?_)
    · replace hf := ifn hf c79
      exact e_mask [true] (hK64 q76.2  hf)
    · replace hf := ifp hf c79
      exact e_mask [true] (q_X9_readNight_82  q76.2       hf)
def p_X9_readNight_L64     : Nat → Mem → Option (Int × Mem)
  | 0, _ => none
  | n + 1, h => p_X9_readNight_64 (fun (h : Mem)  => p_X9_readNight_L64     n h ) h   
theorem q_X9_readNight_L64       {X : Int × Mem}  : ∀ (n : Nat) (h : Mem) , p_X9_readNight_L64     n h  = some X → E m_X9_readNight none (fun r h' => r = some (vi X.1) ∧ h' = X.2) 64 [some (vr 45)] [] h := by
  intro n
  induction n with
  | zero => intro h  hf; have hf2 : (none : Option (Int × Mem)) = some X := hf; cases hf2
  | succ n ih => intro h  hf; exact q_X9_readNight_64 (fun (h : Mem)  => p_X9_readNight_L64     n h ) h      (fun h  hf => ih h  hf) hf
def p_X9_readNight (h : Mem)   : Option (Int × Mem) :=
  if (up (up (up h 45 3 0) 45 12 0) 45 13 0) 45 2 = 0 then (some (0, (up (up (up h 45 3 0) 45 12 0) 45 13 0))) else (if (up (up (up h 45 3 0) 45 12 0) 45 13 0) 46 0 = 78 then (bd (p_X9_figure (up (up (up (up h 45 3 0) 45 12 0) 45 13 0) 45 3 1) 0 2) (fun q44 => if (up q44.2 45 11 q44.1) 45 11 = (-9) then (some ((up q44.2 45 11 q44.1) 45 3, (up q44.2 45 11 q44.1))) else (p_X9_readNight_L64     300 (up q44.2 45 11 q44.1) ))) else (some (0, (up (up (up h 45 3 0) 45 12 0) 45 13 0))))
set_option maxRecDepth 20000 in
theorem q_X9_readNight (h : Mem)    {X : Int × Mem} (hf : p_X9_readNight h   = some X) : Cn m_X9_readNight [vr 45] h (fun r h' => r = some (vi X.1) ∧ h' = X.2) := by
  unfold p_X9_readNight at hf
  have key : E m_X9_readNight none (fun r h' => r = some (vi X.1) ∧ h' = X.2) 0 [some (vr 45)] [] h := by
    refine e_aload_n dX9_readNight_0 rfl ?_
    refine e_iconst dX9_readNight_1 ⟨by decide, by decide⟩ ?_
    refine e_putI (t := 0) (kz := 3) rfl dX9_readNight_2 rfl fp_685 rfl rfl (Or.inl rfl) ?_
    refine e_aload_n dX9_readNight_5 rfl ?_
    refine e_iconst dX9_readNight_6 ⟨by decide, by decide⟩ ?_
    refine e_putI (t := 0) (kz := 12) rfl dX9_readNight_7 rfl fp_694 rfl rfl (Or.inl rfl) ?_
    refine e_aload_n dX9_readNight_10 rfl ?_
    refine e_iconst dX9_readNight_11 ⟨by decide, by decide⟩ ?_
    refine e_putI (t := 0) (kz := 13) rfl dX9_readNight_12 rfl fp_695 rfl rfl (Or.inl rfl) ?_
    refine e_aload_n dX9_readNight_15 rfl ?_
    refine e_getI (kz := 2) rfl dX9_readNight_16 rfl fl_684 rfl rfl (Or.inl rfl) ?_
    refine e_if_eq (tgt := 33) dX9_readNight_19 (by decide) (fun c19 => ?_) (fun c19 => ?_)
    · replace hf := ifp hf c19
      refine e_iconst dX9_readNight_33 ⟨by decide, by decide⟩ ?_
      obtain rfl := Option.some.inj hf
      exact e_ireturn dX9_readNight_34 rfl ⟨rfl, rfl⟩
    · replace hf := ifn hf c19
      refine e_aload_n dX9_readNight_22 rfl ?_
      refine e_getR dX9_readNight_23 rfl fl_683 rfl rfl ?_
      refine e_iconst dX9_readNight_26 ⟨by decide, by decide⟩ ?_
      refine e_iald dX9_readNight_27 rfl (by decide) ?_
      refine e_bipush dX9_readNight_28 ⟨by decide, by decide, by decide⟩ ?_
      refine e_icmp_eq (tgt := 35) dX9_readNight_30 (by decide) (fun c30 => ?_) (fun c30 => ?_)
      · replace hf := ifp hf c30
        refine e_aload_n dX9_readNight_35 rfl ?_
        refine e_iconst dX9_readNight_36 ⟨by decide, by decide⟩ ?_
        refine e_putI (t := 0) (kz := 3) rfl dX9_readNight_37 rfl fp_685 rfl rfl (Or.inl rfl) ?_
        refine e_aload_n dX9_readNight_40 rfl ?_
        refine e_aload_n dX9_readNight_41 rfl ?_
        refine e_iconst dX9_readNight_42 ⟨by decide, by decide⟩ ?_
        refine e_iconst dX9_readNight_43 ⟨by decide, by decide⟩ ?_
        obtain ⟨q44, e44, hf⟩ := bd_some hf
        refine e_callV2i dX9_readNight_44 rfl lk_814 ⟨rfl, rfl, Nat.le_of_ble_eq_true rfl, Nat.le_of_ble_eq_true rfl⟩ rfl rfl (Nat.le_of_ble_eq_true rfl) (q_X9_figure (up (up (up (up h 45 3 0) 45 12 0) 45 13 0) 45 3 1)   0 2 e44) ?_
        refine e_putI (t := 0) (kz := 11) rfl dX9_readNight_47 rfl fp_693 rfl rfl (Or.inl rfl) ?_
        refine e_aload_n dX9_readNight_50 rfl ?_
        refine e_getI (kz := 11) rfl dX9_readNight_51 rfl fl_693 rfl rfl (Or.inl rfl) ?_
        refine e_bipush dX9_readNight_54 ⟨by decide, by decide, by decide⟩ ?_
        refine e_icmp_ne (tgt := 64) dX9_readNight_56 (by decide) (fun c56 => ?_) (fun c56 => ?_)
        · replace hf := ifn hf c56
          exact e_mask [true] (q_X9_readNight_L64        300 (up q44.2 45 11 q44.1)  hf)
        · replace hf := ifp hf c56
          refine e_aload_n dX9_readNight_59 rfl ?_
          refine e_getI (kz := 3) rfl dX9_readNight_60 rfl fl_685 rfl rfl (Or.inl rfl) ?_
          obtain rfl := Option.some.inj hf
          exact e_ireturn dX9_readNight_63 rfl ⟨rfl, rfl⟩
      · replace hf := ifn hf c30
        refine e_iconst dX9_readNight_33 ⟨by decide, by decide⟩ ?_
        obtain rfl := Option.some.inj hf
        exact e_ireturn dX9_readNight_34 rfl ⟨rfl, rfl⟩
  exact Cn_of rfl (fun _ => Nat.le_of_ble_eq_true rfl) ⟨rfl, rfl⟩ (e_pad 0 key)
theorem lk_810 : VLk "StarRightModel" 109 m_X9_readNight 0 := ⟨tw_810, tw_812, twp_20, tw_10, tw_813, by decide +kernel⟩
abbrev m_X9_fault : MI := (yX9_fault, cX9_fault, 1, some .int, { frames := 5, cells := 0, slots := 0, locals := 110 })
def p_X9_fault (h : Mem)   : Option (Int × Mem) :=
  bd (p_X9_readNight (up h 45 0 0) ) (fun q6 => some (q6.1, q6.2))
set_option maxRecDepth 20000 in
theorem q_X9_fault (h : Mem)    {X : Int × Mem} (hf : p_X9_fault h   = some X) : Cn m_X9_fault [vr 45] h (fun r h' => r = some (vi X.1) ∧ h' = X.2) := by
  unfold p_X9_fault at hf
  have key : E m_X9_fault none (fun r h' => r = some (vi X.1) ∧ h' = X.2) 0 [some (vr 45)] [] h := by
    refine e_aload_n dX9_fault_0 rfl ?_
    refine e_iconst dX9_fault_1 ⟨by decide, by decide⟩ ?_
    refine e_putI (t := 0) (kz := 0) rfl dX9_fault_2 rfl fp_682 rfl rfl (Or.inl rfl) ?_
    refine e_aload_n dX9_fault_5 rfl ?_
    obtain ⟨q6, e6, hf⟩ := bd_some hf
    refine e_callV0i dX9_fault_6 rfl lk_810 ⟨rfl, rfl, Nat.le_of_ble_eq_true rfl, Nat.le_of_ble_eq_true rfl⟩ rfl rfl (Nat.le_of_ble_eq_true rfl) (q_X9_readNight (up h 45 0 0)    e6) ?_
    obtain rfl := Option.some.inj hf
    exact e_ireturn dX9_fault_9 rfl ⟨rfl, rfl⟩
  exact Cn_of rfl (fun _ => Nat.le_of_ble_eq_true rfl) ⟨rfl, rfl⟩ (e_pad 0 key)
abbrev m_X9_night : MI := (yX9_night, cX9_night, 2, some .int, { frames := 5, cells := 0, slots := 0, locals := 110 })
def p_X9_night_210  (h : Mem)    : Option (Int × Mem) :=
  some (wr ((wr (10 * ((up (up (up h 45 19 0) 57 0 0) 57 1 0) 45 5))) + ((up (up (up h 45 19 0) 57 0 0) 57 1 0) 45 6)), (up (up (up h 45 19 0) 57 0 0) 57 1 0))
set_option maxRecDepth 20000 in
theorem q_X9_night_210  (h : Mem)      {X : Int × Mem}  (hf : p_X9_night_210  h    = some X) : E m_X9_night none (fun r h' => r = some (vi X.1) ∧ h' = X.2) 210 [some (vr 45), none] [] h := by
  unfold p_X9_night_210 at hf
  refine e_aload_n dX9_night_210 rfl ?_
  refine e_iconst dX9_night_211 ⟨by decide, by decide⟩ ?_
  refine e_putI (t := 0) (kz := 19) rfl dX9_night_212 rfl fp_701 rfl rfl (Or.inl rfl) ?_
  refine e_aload_n dX9_night_215 rfl ?_
  refine e_getR dX9_night_216 rfl fl_703 rfl rfl ?_
  refine e_iconst dX9_night_219 ⟨by decide, by decide⟩ ?_
  refine e_iconst dX9_night_220 ⟨by decide, by decide⟩ ?_
  refine e_bast dX9_night_221 rfl (by decide) (by decide) ?_
  refine e_aload_n dX9_night_222 rfl ?_
  refine e_getR dX9_night_223 rfl fl_703 rfl rfl ?_
  refine e_iconst dX9_night_226 ⟨by decide, by decide⟩ ?_
  refine e_iconst dX9_night_227 ⟨by decide, by decide⟩ ?_
  refine e_bast dX9_night_228 rfl (by decide) (by decide) ?_
  refine e_bipush dX9_night_229 ⟨by decide, by decide, by decide⟩ ?_
  refine e_aload_n dX9_night_231 rfl ?_
  refine e_getI (kz := 5) rfl dX9_night_232 rfl fl_687 rfl rfl (Or.inl rfl) ?_
  refine e_imul dX9_night_235 ?_
  refine e_aload_n dX9_night_236 rfl ?_
  refine e_getI (kz := 6) rfl dX9_night_237 rfl fl_688 rfl rfl (Or.inl rfl) ?_
  refine e_iadd dX9_night_240 ?_
  obtain rfl := Option.some.inj hf
  exact e_ireturn dX9_night_241 rfl ⟨rfl, rfl⟩
def p_X9_night_204 (K150 : Mem → Int → Option (Int × Mem)) (h : Mem)   (l1 : Int) : Option (Int × Mem) :=
  K150 h (wr (l1 + 1))
set_option maxRecDepth 20000 in
theorem q_X9_night_204 (K150 : Mem → Int → Option (Int × Mem)) (h : Mem)     (l1 : Int) {X : Int × Mem} (hK150 : ∀ (h : Mem) (l1 : Int), K150 h l1 = some X → E m_X9_night none (fun r h' => r = some (vi X.1) ∧ h' = X.2) 150 [some (vr 45), some (vi l1)] [] h) (hf : p_X9_night_204 K150 h   l1 = some X) : E m_X9_night none (fun r h' => r = some (vi X.1) ∧ h' = X.2) 204 [some (vr 45), some (vi l1)] [] h := by
  unfold p_X9_night_204 at hf
  refine e_iinc (ls' := [some (vr 45), some (vi (wr (l1 + 1)))]) dX9_night_204 rfl (Nat.le_of_ble_eq_true rfl) rfl ?_
  refine e_goto (tgt := 150) dX9_night_207 (by decide) ?_
  exact e_mask [true, true] (hK150 h (wr (l1 + 1)) hf)
def p_X9_night_150 (K150 : Mem → Int → Option (Int × Mem)) (h : Mem)   (l1 : Int) : Option (Int × Mem) :=
  if h 45 6 ≤ l1 then (p_X9_night_210  h   ) else (gd (0 ≤ wr (3 * l1) ∧ wr (3 * l1) < 12) (gd (0 ≤ l1 ∧ l1 < 4) (gd (0 ≤ wr ((wr (3 * l1)) + 1) ∧ wr ((wr (3 * l1)) + 1) < 12) (gd (0 ≤ l1 ∧ l1 < 4) (gd (0 ≤ wr ((wr (3 * l1)) + 2) ∧ wr ((wr (3 * l1)) + 2) < 12) (gd (0 ≤ l1 ∧ l1 < 4) (p_X9_night_204 K150 (up (up (up h 48 l1 (h 52 (wr (3 * l1)))) 49 l1 ((up h 48 l1 (h 52 (wr (3 * l1)))) 52 (wr ((wr (3 * l1)) + 1)))) 50 l1 ((up (up h 48 l1 (h 52 (wr (3 * l1)))) 49 l1 ((up h 48 l1 (h 52 (wr (3 * l1)))) 52 (wr ((wr (3 * l1)) + 1)))) 52 (wr ((wr (3 * l1)) + 2))))   l1)))))))
set_option maxRecDepth 20000 in
theorem q_X9_night_150 (K150 : Mem → Int → Option (Int × Mem)) (h : Mem)     (l1 : Int) {X : Int × Mem} (hK150 : ∀ (h : Mem) (l1 : Int), K150 h l1 = some X → E m_X9_night none (fun r h' => r = some (vi X.1) ∧ h' = X.2) 150 [some (vr 45), some (vi l1)] [] h) (hf : p_X9_night_150 K150 h   l1 = some X) : E m_X9_night none (fun r h' => r = some (vi X.1) ∧ h' = X.2) 150 [some (vr 45), some (vi l1)] [] h := by
  unfold p_X9_night_150 at hf
  refine e_iload_n dX9_night_150 rfl ?_
  refine e_aload_n dX9_night_151 rfl ?_
  refine e_getI (kz := 6) rfl dX9_night_152 rfl fl_688 rfl rfl (Or.inl rfl) ?_
  refine e_icmp_ge (tgt := 210) dX9_night_155 (by decide) (fun c155 => ?_) (fun c155 => ?_)
  · replace hf := ifp hf c155
    exact e_mask [true, false] (q_X9_night_210  h       hf)
  · replace hf := ifn hf c155
    refine e_aload_n dX9_night_158 rfl ?_
    refine e_getR dX9_night_159 rfl fl_690 rfl rfl ?_
    refine e_iload_n dX9_night_162 rfl ?_
    refine e_aload_n dX9_night_163 rfl ?_
    refine e_getR dX9_night_164 rfl fl_697 rfl rfl ?_
    refine e_iconst dX9_night_167 ⟨by decide, by decide⟩ ?_
    refine e_iload_n dX9_night_168 rfl ?_
    refine e_imul dX9_night_169 ?_
    obtain ⟨g170, hf⟩ := gd_some hf
    refine e_iald dX9_night_170 rfl g170 ?_
    obtain ⟨g171, hf⟩ := gd_some hf
    refine e_iast dX9_night_171 rfl g171 ?_
    refine e_aload_n dX9_night_172 rfl ?_
    refine e_getR dX9_night_173 rfl fl_691 rfl rfl ?_
    refine e_iload_n dX9_night_176 rfl ?_
    refine e_aload_n dX9_night_177 rfl ?_
    refine e_getR dX9_night_178 rfl fl_697 rfl rfl ?_
    refine e_iconst dX9_night_181 ⟨by decide, by decide⟩ ?_
    refine e_iload_n dX9_night_182 rfl ?_
    refine e_imul dX9_night_183 ?_
    refine e_iconst dX9_night_184 ⟨by decide, by decide⟩ ?_
    refine e_iadd dX9_night_185 ?_
    obtain ⟨g186, hf⟩ := gd_some hf
    refine e_iald dX9_night_186 rfl g186 ?_
    obtain ⟨g187, hf⟩ := gd_some hf
    refine e_iast dX9_night_187 rfl g187 ?_
    refine e_aload_n dX9_night_188 rfl ?_
    refine e_getR dX9_night_189 rfl fl_692 rfl rfl ?_
    refine e_iload_n dX9_night_192 rfl ?_
    refine e_aload_n dX9_night_193 rfl ?_
    refine e_getR dX9_night_194 rfl fl_697 rfl rfl ?_
    refine e_iconst dX9_night_197 ⟨by decide, by decide⟩ ?_
    refine e_iload_n dX9_night_198 rfl ?_
    refine e_imul dX9_night_199 ?_
    refine e_iconst dX9_night_200 ⟨by decide, by decide⟩ ?_
    refine e_iadd dX9_night_201 ?_
    obtain ⟨g202, hf⟩ := gd_some hf
    refine e_iald dX9_night_202 rfl g202 ?_
    obtain ⟨g203, hf⟩ := gd_some hf
    refine e_iast dX9_night_203 rfl g203 ?_
    exact e_mask [true, true] (q_X9_night_204 K150 (up (up (up h 48 l1 (h 52 (wr (3 * l1)))) 49 l1 ((up h 48 l1 (h 52 (wr (3 * l1)))) 52 (wr ((wr (3 * l1)) + 1)))) 50 l1 ((up (up h 48 l1 (h 52 (wr (3 * l1)))) 49 l1 ((up h 48 l1 (h 52 (wr (3 * l1)))) 52 (wr ((wr (3 * l1)) + 1)))) 52 (wr ((wr (3 * l1)) + 2))))     l1 hK150 hf)
def p_X9_night_L150     : Nat → Mem → Int → Option (Int × Mem)
  | 0, _, _ => none
  | n + 1, h, l1 => p_X9_night_150 (fun (h : Mem) (l1 : Int) => p_X9_night_L150     n h l1) h   l1
theorem q_X9_night_L150       {X : Int × Mem}  : ∀ (n : Nat) (h : Mem) (l1 : Int), p_X9_night_L150     n h l1 = some X → E m_X9_night none (fun r h' => r = some (vi X.1) ∧ h' = X.2) 150 [some (vr 45), some (vi l1)] [] h := by
  intro n
  induction n with
  | zero => intro h l1 hf; have hf2 : (none : Option (Int × Mem)) = some X := hf; cases hf2
  | succ n ih => intro h l1 hf; exact q_X9_night_150 (fun (h : Mem) (l1 : Int) => p_X9_night_L150     n h l1) h     l1 (fun h l1 hf => ih h l1 hf) hf
def p_X9_night_148  (h : Mem)    : Option (Int × Mem) :=
  p_X9_night_L150     300 h 0
set_option maxRecDepth 20000 in
theorem q_X9_night_148  (h : Mem)      {X : Int × Mem}  (hf : p_X9_night_148  h    = some X) : E m_X9_night none (fun r h' => r = some (vi X.1) ∧ h' = X.2) 148 [some (vr 45), none] [] h := by
  unfold p_X9_night_148 at hf
  refine e_iconst dX9_night_148 ⟨by decide, by decide⟩ ?_
  refine e_istore_n (ls' := [some (vr 45), some (vi 0)]) dX9_night_149 (Nat.le_of_ble_eq_true rfl) rfl ?_
  exact e_mask [true, true] (q_X9_night_L150        300 h 0 hf)
def p_X9_night_123 (K64 : Mem → Int → Option (Int × Mem)) (h : Mem)   (l1 : Int) : Option (Int × Mem) :=
  gd (0 ≤ wr ((wr (4 * l1)) + 3) ∧ wr ((wr (4 * l1)) + 3) < 20) (gd (0 ≤ wr (6 + l1) ∧ wr (6 + l1) < 17) (K64 (up h 53 (wr (6 + l1)) (h 51 (wr ((wr (4 * l1)) + 3)))) (wr (l1 + 1))))
set_option maxRecDepth 20000 in
theorem q_X9_night_123 (K64 : Mem → Int → Option (Int × Mem)) (h : Mem)     (l1 : Int) {X : Int × Mem} (hK64 : ∀ (h : Mem) (l1 : Int), K64 h l1 = some X → E m_X9_night none (fun r h' => r = some (vi X.1) ∧ h' = X.2) 64 [some (vr 45), some (vi l1)] [] h) (hf : p_X9_night_123 K64 h   l1 = some X) : E m_X9_night none (fun r h' => r = some (vi X.1) ∧ h' = X.2) 123 [some (vr 45), some (vi l1)] [] h := by
  unfold p_X9_night_123 at hf
  refine e_aload_n dX9_night_123 rfl ?_
  refine e_getR dX9_night_124 rfl fl_698 rfl rfl ?_
  refine e_bipush dX9_night_127 ⟨by decide, by decide, by decide⟩ ?_
  refine e_iload_n dX9_night_129 rfl ?_
  refine e_iadd dX9_night_130 ?_
  refine e_aload_n dX9_night_131 rfl ?_
  refine e_getR dX9_night_132 rfl fl_696 rfl rfl ?_
  refine e_iconst dX9_night_135 ⟨by decide, by decide⟩ ?_
  refine e_iload_n dX9_night_136 rfl ?_
  refine e_imul dX9_night_137 ?_
  refine e_iconst dX9_night_138 ⟨by decide, by decide⟩ ?_
  refine e_iadd dX9_night_139 ?_
  obtain ⟨g140, hf⟩ := gd_some hf
  refine e_iald dX9_night_140 rfl g140 ?_
  obtain ⟨g141, hf⟩ := gd_some hf
  refine e_iast dX9_night_141 rfl g141 ?_
  refine e_iinc (ls' := [some (vr 45), some (vi (wr (l1 + 1)))]) dX9_night_142 rfl (Nat.le_of_ble_eq_true rfl) rfl ?_
  refine e_goto (tgt := 64) dX9_night_145 (by decide) ?_
  exact e_mask [true, true] (hK64 (up h 53 (wr (6 + l1)) (h 51 (wr ((wr (4 * l1)) + 3)))) (wr (l1 + 1)) hf)
def p_X9_night_64 (K64 : Mem → Int → Option (Int × Mem)) (h : Mem)   (l1 : Int) : Option (Int × Mem) :=
  if h 45 5 ≤ l1 then (p_X9_night_148  h   ) else (gd (0 ≤ wr (4 * l1) ∧ wr (4 * l1) < 20) (gd (0 ≤ l1 ∧ l1 < 5) (gd (0 ≤ wr ((wr (4 * l1)) + 1) ∧ wr ((wr (4 * l1)) + 1) < 20) (gd (0 ≤ l1 ∧ l1 < 17) (gd (0 ≤ wr ((wr (4 * l1)) + 2) ∧ wr ((wr (4 * l1)) + 2) < 20) (p_X9_night_123 K64 (up (up (up h 47 l1 (h 51 (wr (4 * l1)))) 53 l1 ((up h 47 l1 (h 51 (wr (4 * l1)))) 51 (wr ((wr (4 * l1)) + 1)))) 53 5 (bor ((up (up h 47 l1 (h 51 (wr (4 * l1)))) 53 l1 ((up h 47 l1 (h 51 (wr (4 * l1)))) 51 (wr ((wr (4 * l1)) + 1)))) 53 5) (bshl ((up (up h 47 l1 (h 51 (wr (4 * l1)))) 53 l1 ((up h 47 l1 (h 51 (wr (4 * l1)))) 51 (wr ((wr (4 * l1)) + 1)))) 51 (wr ((wr (4 * l1)) + 2))) l1)))   l1))))))
set_option maxRecDepth 20000 in
theorem q_X9_night_64 (K64 : Mem → Int → Option (Int × Mem)) (h : Mem)     (l1 : Int) {X : Int × Mem} (hK64 : ∀ (h : Mem) (l1 : Int), K64 h l1 = some X → E m_X9_night none (fun r h' => r = some (vi X.1) ∧ h' = X.2) 64 [some (vr 45), some (vi l1)] [] h) (hf : p_X9_night_64 K64 h   l1 = some X) : E m_X9_night none (fun r h' => r = some (vi X.1) ∧ h' = X.2) 64 [some (vr 45), some (vi l1)] [] h := by
  unfold p_X9_night_64 at hf
  refine e_iload_n dX9_night_64 rfl ?_
  refine e_aload_n dX9_night_65 rfl ?_
  refine e_getI (kz := 5) rfl dX9_night_66 rfl fl_687 rfl rfl (Or.inl rfl) ?_
  refine e_icmp_ge (tgt := 148) dX9_night_69 (by decide) (fun c69 => ?_) (fun c69 => ?_)
  · replace hf := ifp hf c69
    exact e_mask [true, false] (q_X9_night_148  h       hf)
  · replace hf := ifn hf c69
    refine e_aload_n dX9_night_72 rfl ?_
    refine e_getR dX9_night_73 rfl fl_689 rfl rfl ?_
    refine e_iload_n dX9_night_76 rfl ?_
    refine e_aload_n dX9_night_77 rfl ?_
    refine e_getR dX9_night_78 rfl fl_696 rfl rfl ?_
    refine e_iconst dX9_night_81 ⟨by decide, by decide⟩ ?_
    refine e_iload_n dX9_night_82 rfl ?_
    refine e_imul dX9_night_83 ?_
    obtain ⟨g84, hf⟩ := gd_some hf
    refine e_iald dX9_night_84 rfl g84 ?_
    obtain ⟨g85, hf⟩ := gd_some hf
    refine e_iast dX9_night_85 rfl g85 ?_
    refine e_aload_n dX9_night_86 rfl ?_
    refine e_getR dX9_night_87 rfl fl_698 rfl rfl ?_
    refine e_iload_n dX9_night_90 rfl ?_
    refine e_aload_n dX9_night_91 rfl ?_
    refine e_getR dX9_night_92 rfl fl_696 rfl rfl ?_
    refine e_iconst dX9_night_95 ⟨by decide, by decide⟩ ?_
    refine e_iload_n dX9_night_96 rfl ?_
    refine e_imul dX9_night_97 ?_
    refine e_iconst dX9_night_98 ⟨by decide, by decide⟩ ?_
    refine e_iadd dX9_night_99 ?_
    obtain ⟨g100, hf⟩ := gd_some hf
    refine e_iald dX9_night_100 rfl g100 ?_
    obtain ⟨g101, hf⟩ := gd_some hf
    refine e_iast dX9_night_101 rfl g101 ?_
    refine e_aload_n dX9_night_102 rfl ?_
    refine e_getR dX9_night_103 rfl fl_698 rfl rfl ?_
    refine e_iconst dX9_night_106 ⟨by decide, by decide⟩ ?_
    refine e_dup2 dX9_night_107 (fun _ => rfl) (fun _ => rfl) ?_
    refine e_iald dX9_night_108 rfl (by decide) ?_
    refine e_aload_n dX9_night_109 rfl ?_
    refine e_getR dX9_night_110 rfl fl_696 rfl rfl ?_
    refine e_iconst dX9_night_113 ⟨by decide, by decide⟩ ?_
    refine e_iload_n dX9_night_114 rfl ?_
    refine e_imul dX9_night_115 ?_
    refine e_iconst dX9_night_116 ⟨by decide, by decide⟩ ?_
    refine e_iadd dX9_night_117 ?_
    obtain ⟨g118, hf⟩ := gd_some hf
    refine e_iald dX9_night_118 rfl g118 ?_
    refine e_iload_n dX9_night_119 rfl ?_
    refine e_ishl dX9_night_120 ?_
    refine e_ior dX9_night_121 ?_
    refine e_iast dX9_night_122 rfl (by decide) ?_
    exact e_mask [true, true] (q_X9_night_123 K64 (up (up (up h 47 l1 (h 51 (wr (4 * l1)))) 53 l1 ((up h 47 l1 (h 51 (wr (4 * l1)))) 51 (wr ((wr (4 * l1)) + 1)))) 53 5 (bor ((up (up h 47 l1 (h 51 (wr (4 * l1)))) 53 l1 ((up h 47 l1 (h 51 (wr (4 * l1)))) 51 (wr ((wr (4 * l1)) + 1)))) 53 5) (bshl ((up (up h 47 l1 (h 51 (wr (4 * l1)))) 53 l1 ((up h 47 l1 (h 51 (wr (4 * l1)))) 51 (wr ((wr (4 * l1)) + 1)))) 51 (wr ((wr (4 * l1)) + 2))) l1)))     l1 hK64 hf)
def p_X9_night_L64     : Nat → Mem → Int → Option (Int × Mem)
  | 0, _, _ => none
  | n + 1, h, l1 => p_X9_night_64 (fun (h : Mem) (l1 : Int) => p_X9_night_L64     n h l1) h   l1
theorem q_X9_night_L64       {X : Int × Mem}  : ∀ (n : Nat) (h : Mem) (l1 : Int), p_X9_night_L64     n h l1 = some X → E m_X9_night none (fun r h' => r = some (vi X.1) ∧ h' = X.2) 64 [some (vr 45), some (vi l1)] [] h := by
  intro n
  induction n with
  | zero => intro h l1 hf; have hf2 : (none : Option (Int × Mem)) = some X := hf; cases hf2
  | succ n ih => intro h l1 hf; exact q_X9_night_64 (fun (h : Mem) (l1 : Int) => p_X9_night_L64     n h l1) h     l1 (fun h l1 hf => ih h l1 hf) hf
def p_X9_night_62  (h : Mem)    : Option (Int × Mem) :=
  p_X9_night_L64     300 h 0
set_option maxRecDepth 20000 in
theorem q_X9_night_62  (h : Mem)      {X : Int × Mem}  (hf : p_X9_night_62  h    = some X) : E m_X9_night none (fun r h' => r = some (vi X.1) ∧ h' = X.2) 62 [some (vr 45), none] [] h := by
  unfold p_X9_night_62 at hf
  refine e_iconst dX9_night_62 ⟨by decide, by decide⟩ ?_
  refine e_istore_n (ls' := [some (vr 45), some (vi 0)]) dX9_night_63 (Nat.le_of_ble_eq_true rfl) rfl ?_
  exact e_mask [true, true] (q_X9_night_L64        300 h 0 hf)
def p_X9_night_43 (K43 : Mem → Int → Option (Int × Mem)) (h : Mem)   (l1 : Int) : Option (Int × Mem) :=
  if 17 ≤ l1 then (p_X9_night_62  h   ) else (gd (0 ≤ l1 ∧ l1 < 17) (K43 (up h 53 l1 0) (wr (l1 + 1))))
set_option maxRecDepth 20000 in
theorem q_X9_night_43 (K43 : Mem → Int → Option (Int × Mem)) (h : Mem)     (l1 : Int) {X : Int × Mem} (hK43 : ∀ (h : Mem) (l1 : Int), K43 h l1 = some X → E m_X9_night none (fun r h' => r = some (vi X.1) ∧ h' = X.2) 43 [some (vr 45), some (vi l1)] [] h) (hf : p_X9_night_43 K43 h   l1 = some X) : E m_X9_night none (fun r h' => r = some (vi X.1) ∧ h' = X.2) 43 [some (vr 45), some (vi l1)] [] h := by
  unfold p_X9_night_43 at hf
  refine e_iload_n dX9_night_43 rfl ?_
  refine e_bipush dX9_night_44 ⟨by decide, by decide, by decide⟩ ?_
  refine e_icmp_ge (tgt := 62) dX9_night_46 (by decide) (fun c46 => ?_) (fun c46 => ?_)
  · replace hf := ifp hf c46
    exact e_mask [true, false] (q_X9_night_62  h       hf)
  · replace hf := ifn hf c46
    refine e_aload_n dX9_night_49 rfl ?_
    refine e_getR dX9_night_50 rfl fl_698 rfl rfl ?_
    refine e_iload_n dX9_night_53 rfl ?_
    refine e_iconst dX9_night_54 ⟨by decide, by decide⟩ ?_
    obtain ⟨g55, hf⟩ := gd_some hf
    refine e_iast dX9_night_55 rfl g55 ?_
    refine e_iinc (ls' := [some (vr 45), some (vi (wr (l1 + 1)))]) dX9_night_56 rfl (Nat.le_of_ble_eq_true rfl) rfl ?_
    refine e_goto (tgt := 43) dX9_night_59 (by decide) ?_
    exact e_mask [true, true] (hK43 (up h 53 l1 0) (wr (l1 + 1)) hf)
def p_X9_night_L43     : Nat → Mem → Int → Option (Int × Mem)
  | 0, _, _ => none
  | n + 1, h, l1 => p_X9_night_43 (fun (h : Mem) (l1 : Int) => p_X9_night_L43     n h l1) h   l1
theorem q_X9_night_L43       {X : Int × Mem}  : ∀ (n : Nat) (h : Mem) (l1 : Int), p_X9_night_L43     n h l1 = some X → E m_X9_night none (fun r h' => r = some (vi X.1) ∧ h' = X.2) 43 [some (vr 45), some (vi l1)] [] h := by
  intro n
  induction n with
  | zero => intro h l1 hf; have hf2 : (none : Option (Int × Mem)) = some X := hf; cases hf2
  | succ n ih => intro h l1 hf; exact q_X9_night_43 (fun (h : Mem) (l1 : Int) => p_X9_night_L43     n h l1) h     l1 (fun h l1 hf => ih h l1 hf) hf
def p_X9_night_41  (h : Mem)    : Option (Int × Mem) :=
  p_X9_night_L43     300 h 0
set_option maxRecDepth 20000 in
theorem q_X9_night_41  (h : Mem)      {X : Int × Mem}  (hf : p_X9_night_41  h    = some X) : E m_X9_night none (fun r h' => r = some (vi X.1) ∧ h' = X.2) 41 [some (vr 45), none] [] h := by
  unfold p_X9_night_41 at hf
  refine e_iconst dX9_night_41 ⟨by decide, by decide⟩ ?_
  refine e_istore_n (ls' := [some (vr 45), some (vi 0)]) dX9_night_42 (Nat.le_of_ble_eq_true rfl) rfl ?_
  exact e_mask [true, true] (q_X9_night_L43        300 h 0 hf)
def p_X9_night (h : Mem)   : Option (Int × Mem) :=
  bd (p_X9_readNight (up h 45 0 0) ) (fun q6 => if q6.1 = (-9) then (p_X9_night_41  (up (up (up q6.2 45 4 (q6.2 45 11)) 45 5 ((up q6.2 45 4 (q6.2 45 11)) 45 12)) 45 6 ((up (up q6.2 45 4 (q6.2 45 11)) 45 5 ((up q6.2 45 4 (q6.2 45 11)) 45 12)) 45 13))   ) else (some ((-3), q6.2)))
set_option maxRecDepth 20000 in
theorem q_X9_night (h : Mem)    {X : Int × Mem} (hf : p_X9_night h   = some X) : Cn m_X9_night [vr 45] h (fun r h' => r = some (vi X.1) ∧ h' = X.2) := by
  unfold p_X9_night at hf
  have key : E m_X9_night none (fun r h' => r = some (vi X.1) ∧ h' = X.2) 0 [some (vr 45), none] [] h := by
    refine e_aload_n dX9_night_0 rfl ?_
    refine e_iconst dX9_night_1 ⟨by decide, by decide⟩ ?_
    refine e_putI (t := 0) (kz := 0) rfl dX9_night_2 rfl fp_682 rfl rfl (Or.inl rfl) ?_
    refine e_aload_n dX9_night_5 rfl ?_
    obtain ⟨q6, e6, hf⟩ := bd_some hf
    refine e_callV0i dX9_night_6 rfl lk_810 ⟨rfl, rfl, Nat.le_of_ble_eq_true rfl, Nat.le_of_ble_eq_true rfl⟩ rfl rfl (Nat.le_of_ble_eq_true rfl) (q_X9_readNight (up h 45 0 0)    e6) ?_
    refine e_bipush dX9_night_9 ⟨by decide, by decide, by decide⟩ ?_
    refine e_icmp_eq (tgt := 17) dX9_night_11 (by decide) (fun c11 => ?_) (fun c11 => ?_)
    · replace hf := ifp hf c11
      refine e_aload_n dX9_night_17 rfl ?_
      refine e_aload_n dX9_night_18 rfl ?_
      refine e_getI (kz := 11) rfl dX9_night_19 rfl fl_693 rfl rfl (Or.inl rfl) ?_
      refine e_putI (t := 0) (kz := 4) rfl dX9_night_22 rfl fp_686 rfl rfl (Or.inl rfl) ?_
      refine e_aload_n dX9_night_25 rfl ?_
      refine e_aload_n dX9_night_26 rfl ?_
      refine e_getI (kz := 12) rfl dX9_night_27 rfl fl_694 rfl rfl (Or.inl rfl) ?_
      refine e_putI (t := 0) (kz := 5) rfl dX9_night_30 rfl fp_687 rfl rfl (Or.inl rfl) ?_
      refine e_aload_n dX9_night_33 rfl ?_
      refine e_aload_n dX9_night_34 rfl ?_
      refine e_getI (kz := 13) rfl dX9_night_35 rfl fl_695 rfl rfl (Or.inl rfl) ?_
      refine e_putI (t := 0) (kz := 6) rfl dX9_night_38 rfl fp_688 rfl rfl (Or.inl rfl) ?_
      exact e_mask [true, false] (q_X9_night_41  (up (up (up q6.2 45 4 (q6.2 45 11)) 45 5 ((up q6.2 45 4 (q6.2 45 11)) 45 12)) 45 6 ((up (up q6.2 45 4 (q6.2 45 11)) 45 5 ((up q6.2 45 4 (q6.2 45 11)) 45 12)) 45 13))       hf)
    · replace hf := ifn hf c11
      refine e_bipush dX9_night_14 ⟨by decide, by decide, by decide⟩ ?_
      obtain rfl := Option.some.inj hf
      exact e_ireturn dX9_night_16 rfl ⟨rfl, rfl⟩
  exact Cn_of rfl (fun _ => Nat.le_of_ble_eq_true rfl) ⟨rfl, rfl⟩ (e_pad 1 key)
abbrev m_X9_all : MI := (yX9_all, cX9_all, 1, some .int, { frames := 0, cells := 0, slots := 0, locals := 0 })
def p_X9_all (h : Mem)   : Option (Int) :=
  some (wr ((bshl 1 (h 45 5)) - 1))
set_option maxRecDepth 20000 in
theorem q_X9_all (h : Mem)    {X : Int} (hf : p_X9_all h   = some X) : Cn m_X9_all [vr 45] h (fun r h' => r = some (vi X) ∧ h' = h) := by
  unfold p_X9_all at hf
  have key : E m_X9_all none (fun r h' => r = some (vi X) ∧ h' = h) 0 [some (vr 45)] [] h := by
    refine e_iconst dX9_all_0 ⟨by decide, by decide⟩ ?_
    refine e_aload_n dX9_all_1 rfl ?_
    refine e_getI (kz := 5) rfl dX9_all_2 rfl fl_687 rfl rfl (Or.inl rfl) ?_
    refine e_ishl dX9_all_5 ?_
    refine e_iconst dX9_all_6 ⟨by decide, by decide⟩ ?_
    refine e_isub dX9_all_7 ?_
    obtain rfl := Option.some.inj hf
    exact e_ireturn dX9_all_8 rfl ⟨rfl, rfl⟩
  exact Cn_of rfl (fun _ => Nat.le_of_ble_eq_true rfl) ⟨rfl, rfl⟩ (e_pad 0 key)
abbrev m_X9_has : MI := (yX9_has, cX9_has, 2, some .boolean, { frames := 0, cells := 0, slots := 0, locals := 0 })
def p_X9_has (h : Mem)  (l0 l1 : Int) : Option (Int) :=
  if band (bshr l0 l1) 1 = 1 then (some 1) else (some 0)
set_option maxRecDepth 20000 in
theorem q_X9_has (h : Mem)   (l0 l1 : Int) {X : Int} (hf : p_X9_has h  l0 l1 = some X) : Cn m_X9_has [vi l0, vi l1] h (fun r h' => r = some (vi X) ∧ h' = h) := by
  unfold p_X9_has at hf
  have key : E m_X9_has none (fun r h' => r = some (vi X) ∧ h' = h) 0 [some (vi l0), some (vi l1)] [] h := by
    refine e_iload_n dX9_has_0 rfl ?_
    refine e_iload_n dX9_has_1 rfl ?_
    refine e_ishr dX9_has_2 ?_
    refine e_iconst dX9_has_3 ⟨by decide, by decide⟩ ?_
    refine e_iand dX9_has_4 ?_
    refine e_iconst dX9_has_5 ⟨by decide, by decide⟩ ?_
    refine e_icmp_ne (tgt := 13) dX9_has_6 (by decide) (fun c6 => ?_) (fun c6 => ?_)
    · replace hf := ifn hf c6
      refine e_iconst dX9_has_13 ⟨by decide, by decide⟩ ?_
      obtain rfl := Option.some.inj hf
      exact e_zreturn dX9_has_14 rfl (by decide) ⟨rfl, rfl⟩
    · replace hf := ifp hf c6
      refine e_iconst dX9_has_9 ⟨by decide, by decide⟩ ?_
      refine e_goto (tgt := 14) dX9_has_10 (by decide) ?_
      obtain rfl := Option.some.inj hf
      exact e_zreturn dX9_has_14 rfl (by decide) ⟨rfl, rfl⟩
  exact Cn_of rfl (fun _ => Nat.le_of_ble_eq_true rfl) ⟨rfl, rfl⟩ (e_pad 0 key)
abbrev m_X9_far : MI := (yX9_far, cX9_far, 2, some .int, { frames := 0, cells := 0, slots := 0, locals := 0 })
def p_X9_far (h : Mem)  (l0 l1 : Int) : Option (Int) :=
  if l1 ≤ l0 then (some (wr (l0 - l1))) else (some (wr (l1 - l0)))
set_option maxRecDepth 20000 in
theorem q_X9_far (h : Mem)   (l0 l1 : Int) {X : Int} (hf : p_X9_far h  l0 l1 = some X) : Cn m_X9_far [vi l0, vi l1] h (fun r h' => r = some (vi X) ∧ h' = h) := by
  unfold p_X9_far at hf
  have key : E m_X9_far none (fun r h' => r = some (vi X) ∧ h' = h) 0 [some (vi l0), some (vi l1)] [] h := by
    refine e_iload_n dX9_far_0 rfl ?_
    refine e_iload_n dX9_far_1 rfl ?_
    refine e_icmp_ge (tgt := 11) dX9_far_2 (by decide) (fun c2 => ?_) (fun c2 => ?_)
    · replace hf := ifp hf c2
      refine e_iload_n dX9_far_11 rfl ?_
      refine e_iload_n dX9_far_12 rfl ?_
      refine e_isub dX9_far_13 ?_
      obtain rfl := Option.some.inj hf
      exact e_ireturn dX9_far_14 rfl ⟨rfl, rfl⟩
    · replace hf := ifn hf c2
      refine e_iload_n dX9_far_5 rfl ?_
      refine e_iload_n dX9_far_6 rfl ?_
      refine e_isub dX9_far_7 ?_
      refine e_goto (tgt := 14) dX9_far_8 (by decide) ?_
      obtain rfl := Option.some.inj hf
      exact e_ireturn dX9_far_14 rfl ⟨rfl, rfl⟩
  exact Cn_of rfl (fun _ => Nat.le_of_ble_eq_true rfl) ⟨rfl, rfl⟩ (e_pad 0 key)
theorem lk_850 : SLk "StarRightModel" 119 m_X9_has 2 := ⟨tw_850, tw_851, tw_10, tw_852, by decide +kernel⟩
theorem lk_853 : SLk "StarRightModel" 123 m_X9_far 2 := ⟨tw_853, tw_854, tw_10, tw_855, by decide +kernel⟩
abbrev m_X9_isShaded : MI := (yX9_isShaded, cX9_isShaded, 6, some .boolean, { frames := 1, cells := 0, slots := 0, locals := 21 })
def p_X9_isShaded_66 (K6 : Int → Int → Int → Int → Option (Int)) (h : Mem) (p : Nat)  (l2 l3 l5 s0 : Int) : Option (Int) :=
  K6 l2 l3 s0 (wr (l5 + 1))
set_option maxRecDepth 20000 in
theorem q_X9_isShaded_66 (K6 : Int → Int → Int → Int → Option (Int)) (h : Mem) (p : Nat) (hp : kd[p]? = some (.inr (17, false)))   (l2 l3 l5 s0 : Int) {X : Int} (hK6 : ∀ (l2 l3 l4 l5 : Int), K6 l2 l3 l4 l5 = some X → E m_X9_isShaded none (fun r h' => r = some (vi X) ∧ h' = h) 6 [some (vr 45), some (vr p), some (vi l2), some (vi l3), some (vi l4), some (vi l5)] [] h) (hf : p_X9_isShaded_66 K6 h p  l2 l3 l5 s0 = some X) : E m_X9_isShaded none (fun r h' => r = some (vi X) ∧ h' = h) 66 [some (vr 45), some (vr p), some (vi l2), some (vi l3), none, some (vi l5)] [vi s0] h := by
  unfold p_X9_isShaded_66 at hf
  refine e_istore (ls' := [some (vr 45), some (vr p), some (vi l2), some (vi l3), some (vi s0), some (vi l5)]) dX9_isShaded_66 (Nat.le_of_ble_eq_true rfl) rfl ?_
  refine e_iinc (ls' := [some (vr 45), some (vr p), some (vi l2), some (vi l3), some (vi s0), some (vi (wr (l5 + 1)))]) dX9_isShaded_68 rfl (Nat.le_of_ble_eq_true rfl) rfl ?_
  refine e_goto (tgt := 6) dX9_isShaded_71 (by decide) ?_
  exact e_mask [true, true, true, true, true, true] (hK6 l2 l3 s0 (wr (l5 + 1)) hf)
def p_X9_isShaded_61 (K6 : Int → Int → Int → Int → Option (Int)) (h : Mem) (p : Nat)  (l2 l3 l5 : Int) : Option (Int) :=
  p_X9_isShaded_66 K6 h p  l2 l3 l5 1
set_option maxRecDepth 20000 in
theorem q_X9_isShaded_61 (K6 : Int → Int → Int → Int → Option (Int)) (h : Mem) (p : Nat) (hp : kd[p]? = some (.inr (17, false)))   (l2 l3 l5 : Int) {X : Int} (hK6 : ∀ (l2 l3 l4 l5 : Int), K6 l2 l3 l4 l5 = some X → E m_X9_isShaded none (fun r h' => r = some (vi X) ∧ h' = h) 6 [some (vr 45), some (vr p), some (vi l2), some (vi l3), some (vi l4), some (vi l5)] [] h) (hf : p_X9_isShaded_61 K6 h p  l2 l3 l5 = some X) : E m_X9_isShaded none (fun r h' => r = some (vi X) ∧ h' = h) 61 [some (vr 45), some (vr p), some (vi l2), some (vi l3), none, some (vi l5)] [] h := by
  unfold p_X9_isShaded_61 at hf
  refine e_iconst dX9_isShaded_61 ⟨by decide, by decide⟩ ?_
  refine e_goto (tgt := 66) dX9_isShaded_62 (by decide) ?_
  exact e_mask [true, true, true, true, false, true] (q_X9_isShaded_66 K6 h p hp   l2 l3 l5 1 hK6 hf)
def p_X9_isShaded_65 (K6 : Int → Int → Int → Int → Option (Int)) (h : Mem) (p : Nat)  (l2 l3 l5 : Int) : Option (Int) :=
  p_X9_isShaded_66 K6 h p  l2 l3 l5 0
set_option maxRecDepth 20000 in
theorem q_X9_isShaded_65 (K6 : Int → Int → Int → Int → Option (Int)) (h : Mem) (p : Nat) (hp : kd[p]? = some (.inr (17, false)))   (l2 l3 l5 : Int) {X : Int} (hK6 : ∀ (l2 l3 l4 l5 : Int), K6 l2 l3 l4 l5 = some X → E m_X9_isShaded none (fun r h' => r = some (vi X) ∧ h' = h) 6 [some (vr 45), some (vr p), some (vi l2), some (vi l3), some (vi l4), some (vi l5)] [] h) (hf : p_X9_isShaded_65 K6 h p  l2 l3 l5 = some X) : E m_X9_isShaded none (fun r h' => r = some (vi X) ∧ h' = h) 65 [some (vr 45), some (vr p), some (vi l2), some (vi l3), none, some (vi l5)] [] h := by
  unfold p_X9_isShaded_65 at hf
  refine e_iconst dX9_isShaded_65 ⟨by decide, by decide⟩ ?_
  exact e_mask [true, true, true, true, false, true] (q_X9_isShaded_66 K6 h p hp   l2 l3 l5 0 hK6 hf)
def p_X9_isShaded_6 (K6 : Int → Int → Int → Int → Option (Int)) (h : Mem) (p : Nat)  (l2 l3 l4 l5 : Int) : Option (Int) :=
  if h 45 5 ≤ l5 then (gd (l4 = 0 ∨ l4 = 1) (some l4)) else (if l4 = 0 then (bd (p_X9_has h l2 l5) (fun r23 => if r23 = 0 then (p_X9_isShaded_65 K6 h p  l2 l3 l5) else (gd (0 ≤ l5 ∧ l5 < 5) (gd (0 ≤ l3 ∧ l3 < 5) (bd (p_X9_far h (h 47 l5) (h 47 l3)) (fun r42 => if r42 = 1 then (gd (0 ≤ l5 ∧ l5 < 17) (gd (0 ≤ l3 ∧ l3 < 17) (if h p l5 ≤ wr ((h p l3) + 3) then (p_X9_isShaded_65 K6 h p  l2 l3 l5) else (p_X9_isShaded_61 K6 h p  l2 l3 l5)))) else (p_X9_isShaded_65 K6 h p  l2 l3 l5))))))) else (p_X9_isShaded_61 K6 h p  l2 l3 l5))
set_option maxRecDepth 20000 in
theorem q_X9_isShaded_6 (K6 : Int → Int → Int → Int → Option (Int)) (h : Mem) (p : Nat) (hp : kd[p]? = some (.inr (17, false)))   (l2 l3 l4 l5 : Int) {X : Int} (hK6 : ∀ (l2 l3 l4 l5 : Int), K6 l2 l3 l4 l5 = some X → E m_X9_isShaded none (fun r h' => r = some (vi X) ∧ h' = h) 6 [some (vr 45), some (vr p), some (vi l2), some (vi l3), some (vi l4), some (vi l5)] [] h) (hf : p_X9_isShaded_6 K6 h p  l2 l3 l4 l5 = some X) : E m_X9_isShaded none (fun r h' => r = some (vi X) ∧ h' = h) 6 [some (vr 45), some (vr p), some (vi l2), some (vi l3), some (vi l4), some (vi l5)] [] h := by
  unfold p_X9_isShaded_6 at hf
  refine e_iload dX9_isShaded_6 rfl ?_
  refine e_aload_n dX9_isShaded_8 rfl ?_
  refine e_getI (kz := 5) rfl dX9_isShaded_9 rfl fl_687 rfl rfl (Or.inl rfl) ?_
  refine e_icmp_ge (tgt := 74) dX9_isShaded_12 (by decide) (fun c12 => ?_) (fun c12 => ?_)
  · replace hf := ifp hf c12
    refine e_iload dX9_isShaded_74 rfl ?_
    obtain ⟨g76, hf⟩ := gd_some hf
    obtain rfl := Option.some.inj hf
    exact e_zreturn dX9_isShaded_76 rfl g76 ⟨rfl, rfl⟩
  · replace hf := ifn hf c12
    refine e_iload dX9_isShaded_15 rfl ?_
    refine e_if_ne (tgt := 61) dX9_isShaded_17 (by decide) (fun c17 => ?_) (fun c17 => ?_)
    · replace hf := ifn hf c17
      exact e_mask [true, true, true, true, false, true] (q_X9_isShaded_61 K6 h p hp   l2 l3 l5 hK6 hf)
    · replace hf := ifp hf c17
      refine e_iload_n dX9_isShaded_20 rfl ?_
      refine e_iload dX9_isShaded_21 rfl ?_
      obtain ⟨r23, e23, hf⟩ := bd_some hf
      refine e_callS2i dX9_isShaded_23 rfl lk_850 ⟨rfl, rfl, Nat.le_of_ble_eq_true rfl, Nat.le_of_ble_eq_true rfl⟩ (Nat.le_of_ble_eq_true rfl) (q_X9_has h   l2 l5 e23) ?_
      refine e_if_eq (tgt := 65) dX9_isShaded_26 (by decide) (fun c26 => ?_) (fun c26 => ?_)
      · replace hf := ifp hf c26
        exact e_mask [true, true, true, true, false, true] (q_X9_isShaded_65 K6 h p hp   l2 l3 l5 hK6 hf)
      · replace hf := ifn hf c26
        refine e_aload_n dX9_isShaded_29 rfl ?_
        refine e_getR dX9_isShaded_30 rfl fl_689 rfl rfl ?_
        refine e_iload dX9_isShaded_33 rfl ?_
        obtain ⟨g35, hf⟩ := gd_some hf
        refine e_iald dX9_isShaded_35 rfl g35 ?_
        refine e_aload_n dX9_isShaded_36 rfl ?_
        refine e_getR dX9_isShaded_37 rfl fl_689 rfl rfl ?_
        refine e_iload_n dX9_isShaded_40 rfl ?_
        obtain ⟨g41, hf⟩ := gd_some hf
        refine e_iald dX9_isShaded_41 rfl g41 ?_
        obtain ⟨r42, e42, hf⟩ := bd_some hf
        refine e_callS2i dX9_isShaded_42 rfl lk_853 ⟨rfl, rfl, Nat.le_of_ble_eq_true rfl, Nat.le_of_ble_eq_true rfl⟩ (Nat.le_of_ble_eq_true rfl) (q_X9_far h   (h 47 l5) (h 47 l3) e42) ?_
        refine e_iconst dX9_isShaded_45 ⟨by decide, by decide⟩ ?_
        refine e_icmp_ne (tgt := 65) dX9_isShaded_46 (by decide) (fun c46 => ?_) (fun c46 => ?_)
        · replace hf := ifn hf c46
          exact e_mask [true, true, true, true, false, true] (q_X9_isShaded_65 K6 h p hp   l2 l3 l5 hK6 hf)
        · replace hf := ifp hf c46
          refine e_aload_n dX9_isShaded_49 rfl ?_
          refine e_iload dX9_isShaded_50 rfl ?_
          obtain ⟨g52, hf⟩ := gd_some hf
          refine e_iald dX9_isShaded_52 hp g52 ?_
          refine e_aload_n dX9_isShaded_53 rfl ?_
          refine e_iload_n dX9_isShaded_54 rfl ?_
          obtain ⟨g55, hf⟩ := gd_some hf
          refine e_iald dX9_isShaded_55 hp g55 ?_
          refine e_iconst dX9_isShaded_56 ⟨by decide, by decide⟩ ?_
          refine e_iadd dX9_isShaded_57 ?_
          refine e_icmp_le (tgt := 65) dX9_isShaded_58 (by decide) (fun c58 => ?_) (fun c58 => ?_)
          · replace hf := ifp hf c58
            exact e_mask [true, true, true, true, false, true] (q_X9_isShaded_65 K6 h p hp   l2 l3 l5 hK6 hf)
          · replace hf := ifn hf c58
            exact e_mask [true, true, true, true, false, true] (q_X9_isShaded_61 K6 h p hp   l2 l3 l5 hK6 hf)
def p_X9_isShaded_L6  (h : Mem) (p : Nat)  : Nat → Int → Int → Int → Int → Option (Int)
  | 0, _, _, _, _ => none
  | n + 1, l2, l3, l4, l5 => p_X9_isShaded_6 (fun (l2 l3 l4 l5 : Int) => p_X9_isShaded_L6  h p  n l2 l3 l4 l5) h p  l2 l3 l4 l5
theorem q_X9_isShaded_L6  (h : Mem) (p : Nat) (hp : kd[p]? = some (.inr (17, false)))   {X : Int}  : ∀ (n : Nat) (l2 l3 l4 l5 : Int), p_X9_isShaded_L6  h p  n l2 l3 l4 l5 = some X → E m_X9_isShaded none (fun r h' => r = some (vi X) ∧ h' = h) 6 [some (vr 45), some (vr p), some (vi l2), some (vi l3), some (vi l4), some (vi l5)] [] h := by
  intro n
  induction n with
  | zero => intro l2 l3 l4 l5 hf; have hf2 : (none : Option (Int)) = some X := hf; cases hf2
  | succ n ih => intro l2 l3 l4 l5 hf; exact q_X9_isShaded_6 (fun (l2 l3 l4 l5 : Int) => p_X9_isShaded_L6  h p  n l2 l3 l4 l5) h p hp   l2 l3 l4 l5 (fun l2 l3 l4 l5 hf => ih l2 l3 l4 l5 hf) hf
def p_X9_isShaded (h : Mem) (p : Nat) (l2 l3 : Int) : Option (Int) :=
  p_X9_isShaded_L6  h p  300  l2 l3 0 0
set_option maxRecDepth 20000 in
theorem q_X9_isShaded (h : Mem) (p : Nat) (hp : kd[p]? = some (.inr (17, false))) (l2 l3 : Int) {X : Int} (hf : p_X9_isShaded h p l2 l3 = some X) : Cn m_X9_isShaded [vr 45, vr p, vi l2, vi l3] h (fun r h' => r = some (vi X) ∧ h' = h) := by
  unfold p_X9_isShaded at hf
  have key : E m_X9_isShaded none (fun r h' => r = some (vi X) ∧ h' = h) 0 [some (vr 45), some (vr p), some (vi l2), some (vi l3), none, none] [] h := by
    refine e_iconst dX9_isShaded_0 ⟨by decide, by decide⟩ ?_
    refine e_istore (ls' := [some (vr 45), some (vr p), some (vi l2), some (vi l3), some (vi 0), none]) dX9_isShaded_1 (Nat.le_of_ble_eq_true rfl) rfl ?_
    refine e_iconst dX9_isShaded_3 ⟨by decide, by decide⟩ ?_
    refine e_istore (ls' := [some (vr 45), some (vr p), some (vi l2), some (vi l3), some (vi 0), some (vi 0)]) dX9_isShaded_4 (Nat.le_of_ble_eq_true rfl) rfl ?_
    exact e_mask [true, true, true, true, true, true] (q_X9_isShaded_L6  h p hp    300  l2 l3 0 0 hf)
  exact Cn_of rfl (fun _ => Nat.le_of_ble_eq_true rfl) ⟨rfl, rfl⟩ (e_pad 2 key)
theorem lk_846 : VLk "StarRightModel" 126 m_X9_isShaded 3 := ⟨tw_846, tw_848, twp_27, tw_10, tw_849, by decide +kernel⟩
theorem lk_842 : VLk "StarRightModel" 145 m_X9_all 0 := ⟨tw_842, tw_844, twp_26, tw_10, tw_845, by decide +kernel⟩
abbrev m_X9_about : MI := (yX9_about, cX9_about, 4, some .int, { frames := 2, cells := 0, slots := 0, locals := 46 })
def p_X9_about_49  (h : Mem)   (l1 l2 : Int) : Option (Int × Mem) :=
  if l1 = 0 then (some (h 45 5, h)) else (if l1 = 1 then (some (h 45 6, h)) else (if l1 = 2 then (some (h 45 4, h)) else (if l1 = 3 then (some (h 53 16, h)) else (if l1 = 4 then (some (h 53 11, h)) else (if l1 = 5 then (some (h 53 5, h)) else (if l1 = 6 then (some (l2, h)) else (if l1 = 7 then (some (h 45 19, h)) else (if l1 = 8 then (some (h 45 22, h)) else (if l1 = 9 then (some (h 45 2, h)) else (some ((-2), h)))))))))))
set_option maxRecDepth 20000 in
theorem q_X9_about_49  (h : Mem)     (l1 l2 : Int) {X : Int × Mem}  (hf : p_X9_about_49  h   l1 l2 = some X) : E m_X9_about none (fun r h' => r = some (vi X.1) ∧ h' = X.2) 49 [some (vr 45), some (vi l1), some (vi l2), none] [] h := by
  unfold p_X9_about_49 at hf
  refine e_iload_n dX9_about_49 rfl ?_
  by_cases c50_0 : l1 = 0
  · replace hf := ifp hf c50_0
    refine e_tswIn (off := 54) (tgt := 104) dX9_about_50 (by omega) (by omega) (by rw [c50_0]; rfl) (by decide) ?_
    refine e_aload_n dX9_about_104 rfl ?_
    refine e_getI (kz := 5) rfl dX9_about_105 rfl fl_687 rfl rfl (Or.inl rfl) ?_
    obtain rfl := Option.some.inj hf
    exact e_ireturn dX9_about_108 rfl ⟨rfl, rfl⟩
  replace hf := ifn hf c50_0
  by_cases c50_1 : l1 = 1
  · replace hf := ifp hf c50_1
    refine e_tswIn (off := 59) (tgt := 109) dX9_about_50 (by omega) (by omega) (by rw [c50_1]; rfl) (by decide) ?_
    refine e_aload_n dX9_about_109 rfl ?_
    refine e_getI (kz := 6) rfl dX9_about_110 rfl fl_688 rfl rfl (Or.inl rfl) ?_
    obtain rfl := Option.some.inj hf
    exact e_ireturn dX9_about_113 rfl ⟨rfl, rfl⟩
  replace hf := ifn hf c50_1
  by_cases c50_2 : l1 = 2
  · replace hf := ifp hf c50_2
    refine e_tswIn (off := 64) (tgt := 114) dX9_about_50 (by omega) (by omega) (by rw [c50_2]; rfl) (by decide) ?_
    refine e_aload_n dX9_about_114 rfl ?_
    refine e_getI (kz := 4) rfl dX9_about_115 rfl fl_686 rfl rfl (Or.inl rfl) ?_
    obtain rfl := Option.some.inj hf
    exact e_ireturn dX9_about_118 rfl ⟨rfl, rfl⟩
  replace hf := ifn hf c50_2
  by_cases c50_3 : l1 = 3
  · replace hf := ifp hf c50_3
    refine e_tswIn (off := 69) (tgt := 119) dX9_about_50 (by omega) (by omega) (by rw [c50_3]; rfl) (by decide) ?_
    refine e_aload_n dX9_about_119 rfl ?_
    refine e_getR dX9_about_120 rfl fl_698 rfl rfl ?_
    refine e_bipush dX9_about_123 ⟨by decide, by decide, by decide⟩ ?_
    refine e_iald dX9_about_125 rfl (by decide) ?_
    obtain rfl := Option.some.inj hf
    exact e_ireturn dX9_about_126 rfl ⟨rfl, rfl⟩
  replace hf := ifn hf c50_3
  by_cases c50_4 : l1 = 4
  · replace hf := ifp hf c50_4
    refine e_tswIn (off := 77) (tgt := 127) dX9_about_50 (by omega) (by omega) (by rw [c50_4]; rfl) (by decide) ?_
    refine e_aload_n dX9_about_127 rfl ?_
    refine e_getR dX9_about_128 rfl fl_698 rfl rfl ?_
    refine e_bipush dX9_about_131 ⟨by decide, by decide, by decide⟩ ?_
    refine e_iald dX9_about_133 rfl (by decide) ?_
    obtain rfl := Option.some.inj hf
    exact e_ireturn dX9_about_134 rfl ⟨rfl, rfl⟩
  replace hf := ifn hf c50_4
  by_cases c50_5 : l1 = 5
  · replace hf := ifp hf c50_5
    refine e_tswIn (off := 85) (tgt := 135) dX9_about_50 (by omega) (by omega) (by rw [c50_5]; rfl) (by decide) ?_
    refine e_aload_n dX9_about_135 rfl ?_
    refine e_getR dX9_about_136 rfl fl_698 rfl rfl ?_
    refine e_iconst dX9_about_139 ⟨by decide, by decide⟩ ?_
    refine e_iald dX9_about_140 rfl (by decide) ?_
    obtain rfl := Option.some.inj hf
    exact e_ireturn dX9_about_141 rfl ⟨rfl, rfl⟩
  replace hf := ifn hf c50_5
  by_cases c50_6 : l1 = 6
  · replace hf := ifp hf c50_6
    refine e_tswIn (off := 92) (tgt := 142) dX9_about_50 (by omega) (by omega) (by rw [c50_6]; rfl) (by decide) ?_
    refine e_iload_n dX9_about_142 rfl ?_
    obtain rfl := Option.some.inj hf
    exact e_ireturn dX9_about_143 rfl ⟨rfl, rfl⟩
  replace hf := ifn hf c50_6
  by_cases c50_7 : l1 = 7
  · replace hf := ifp hf c50_7
    refine e_tswIn (off := 94) (tgt := 144) dX9_about_50 (by omega) (by omega) (by rw [c50_7]; rfl) (by decide) ?_
    refine e_aload_n dX9_about_144 rfl ?_
    refine e_getI (kz := 19) rfl dX9_about_145 rfl fl_701 rfl rfl (Or.inl rfl) ?_
    obtain rfl := Option.some.inj hf
    exact e_ireturn dX9_about_148 rfl ⟨rfl, rfl⟩
  replace hf := ifn hf c50_7
  by_cases c50_8 : l1 = 8
  · replace hf := ifp hf c50_8
    refine e_tswIn (off := 99) (tgt := 149) dX9_about_50 (by omega) (by omega) (by rw [c50_8]; rfl) (by decide) ?_
    refine e_aload_n dX9_about_149 rfl ?_
    refine e_getI (kz := 22) rfl dX9_about_150 rfl fl_704 rfl rfl (Or.inl rfl) ?_
    obtain rfl := Option.some.inj hf
    exact e_ireturn dX9_about_153 rfl ⟨rfl, rfl⟩
  replace hf := ifn hf c50_8
  by_cases c50_9 : l1 = 9
  · replace hf := ifp hf c50_9
    refine e_tswIn (off := 104) (tgt := 154) dX9_about_50 (by omega) (by omega) (by rw [c50_9]; rfl) (by decide) ?_
    refine e_aload_n dX9_about_154 rfl ?_
    refine e_getI (kz := 2) rfl dX9_about_155 rfl fl_684 rfl rfl (Or.inl rfl) ?_
    obtain rfl := Option.some.inj hf
    exact e_ireturn dX9_about_158 rfl ⟨rfl, rfl⟩
  replace hf := ifn hf c50_9
  refine e_tswOut (tgt := 159) dX9_about_50 (by omega) (by decide) ?_
  refine e_bipush dX9_about_159 ⟨by decide, by decide, by decide⟩ ?_
  obtain rfl := Option.some.inj hf
  exact e_ireturn dX9_about_161 rfl ⟨rfl, rfl⟩
def p_X9_about_41 (K9 : Mem → Int → Int → Int → Option (Int × Mem)) (h : Mem)   (l1 l3 s0 s1 : Int) : Option (Int × Mem) :=
  K9 h l1 (bor s0 s1) (wr (l3 + 1))
set_option maxRecDepth 20000 in
theorem q_X9_about_41 (K9 : Mem → Int → Int → Int → Option (Int × Mem)) (h : Mem)     (l1 l3 s0 s1 : Int) {X : Int × Mem} (hK9 : ∀ (h : Mem) (l1 l2 l3 : Int), K9 h l1 l2 l3 = some X → E m_X9_about none (fun r h' => r = some (vi X.1) ∧ h' = X.2) 9 [some (vr 45), some (vi l1), some (vi l2), some (vi l3)] [] h) (hf : p_X9_about_41 K9 h   l1 l3 s0 s1 = some X) : E m_X9_about none (fun r h' => r = some (vi X.1) ∧ h' = X.2) 41 [some (vr 45), some (vi l1), none, some (vi l3)] [vi s1, vi s0] h := by
  unfold p_X9_about_41 at hf
  refine e_ior dX9_about_41 ?_
  refine e_istore_n (ls' := [some (vr 45), some (vi l1), some (vi (bor s0 s1)), some (vi l3)]) dX9_about_42 (Nat.le_of_ble_eq_true rfl) rfl ?_
  refine e_iinc (ls' := [some (vr 45), some (vi l1), some (vi (bor s0 s1)), some (vi (wr (l3 + 1)))]) dX9_about_43 rfl (Nat.le_of_ble_eq_true rfl) rfl ?_
  refine e_goto (tgt := 9) dX9_about_46 (by decide) ?_
  exact e_mask [true, true, true, true] (hK9 h l1 (bor s0 s1) (wr (l3 + 1)) hf)
def p_X9_about_9 (K9 : Mem → Int → Int → Int → Option (Int × Mem)) (h : Mem)   (l1 l2 l3 : Int) : Option (Int × Mem) :=
  if h 45 5 ≤ l3 then (p_X9_about_49  h   l1 l2) else (bd (p_X9_all h ) (fun r24 => bd (p_X9_isShaded h 53 r24 l3) (fun r28 => if r28 = 0 then (p_X9_about_41 K9 h   l1 l3 l2 0) else (p_X9_about_41 K9 h   l1 l3 l2 (bshl 1 l3)))))
set_option maxRecDepth 20000 in
theorem q_X9_about_9 (K9 : Mem → Int → Int → Int → Option (Int × Mem)) (h : Mem)     (l1 l2 l3 : Int) {X : Int × Mem} (hK9 : ∀ (h : Mem) (l1 l2 l3 : Int), K9 h l1 l2 l3 = some X → E m_X9_about none (fun r h' => r = some (vi X.1) ∧ h' = X.2) 9 [some (vr 45), some (vi l1), some (vi l2), some (vi l3)] [] h) (hf : p_X9_about_9 K9 h   l1 l2 l3 = some X) : E m_X9_about none (fun r h' => r = some (vi X.1) ∧ h' = X.2) 9 [some (vr 45), some (vi l1), some (vi l2), some (vi l3)] [] h := by
  unfold p_X9_about_9 at hf
  refine e_iload_n dX9_about_9 rfl ?_
  refine e_aload_n dX9_about_10 rfl ?_
  refine e_getI (kz := 5) rfl dX9_about_11 rfl fl_687 rfl rfl (Or.inl rfl) ?_
  refine e_icmp_ge (tgt := 49) dX9_about_14 (by decide) (fun c14 => ?_) (fun c14 => ?_)
  · replace hf := ifp hf c14
    exact e_mask [true, true, true, false] (q_X9_about_49  h     l1 l2  hf)
  · replace hf := ifn hf c14
    refine e_iload_n dX9_about_17 rfl ?_
    refine e_aload_n dX9_about_18 rfl ?_
    refine e_aload_n dX9_about_19 rfl ?_
    refine e_getR dX9_about_20 rfl fl_698 rfl rfl ?_
    refine e_aload_n dX9_about_23 rfl ?_
    obtain ⟨r24, e24, hf⟩ := bd_some hf
    refine e_callV0i dX9_about_24 rfl lk_842 ⟨rfl, rfl, Nat.le_of_ble_eq_true rfl, Nat.le_of_ble_eq_true rfl⟩ rfl rfl (Nat.le_of_ble_eq_true rfl) (q_X9_all h    e24) ?_
    refine e_iload_n dX9_about_27 rfl ?_
    obtain ⟨r28, e28, hf⟩ := bd_some hf
    refine e_callV3i dX9_about_28 rfl lk_846 ⟨rfl, rfl, Nat.le_of_ble_eq_true rfl, Nat.le_of_ble_eq_true rfl⟩ rfl rfl (Nat.le_of_ble_eq_true rfl) (q_X9_isShaded h 53 rfl r24 l3 e28) ?_
    refine e_if_eq (tgt := 40) dX9_about_31 (by decide) (fun c31 => ?_) (fun c31 => ?_)
    · replace hf := ifp hf c31
      refine e_iconst dX9_about_40 ⟨by decide, by decide⟩ ?_
      exact e_mask [true, true, false, true] (q_X9_about_41 K9 h     l1 l3 l2 0 hK9 hf)
    · replace hf := ifn hf c31
      refine e_iconst dX9_about_34 ⟨by decide, by decide⟩ ?_
      refine e_iload_n dX9_about_35 rfl ?_
      refine e_ishl dX9_about_36 ?_
      refine e_goto (tgt := 41) dX9_about_37 (by decide) ?_
      exact e_mask [true, true, false, true] (q_X9_about_41 K9 h     l1 l3 l2 (bshl 1 l3) hK9 hf)
def p_X9_about_L9     : Nat → Mem → Int → Int → Int → Option (Int × Mem)
  | 0, _, _, _, _ => none
  | n + 1, h, l1, l2, l3 => p_X9_about_9 (fun (h : Mem) (l1 l2 l3 : Int) => p_X9_about_L9     n h l1 l2 l3) h   l1 l2 l3
theorem q_X9_about_L9       {X : Int × Mem}  : ∀ (n : Nat) (h : Mem) (l1 l2 l3 : Int), p_X9_about_L9     n h l1 l2 l3 = some X → E m_X9_about none (fun r h' => r = some (vi X.1) ∧ h' = X.2) 9 [some (vr 45), some (vi l1), some (vi l2), some (vi l3)] [] h := by
  intro n
  induction n with
  | zero => intro h l1 l2 l3 hf; have hf2 : (none : Option (Int × Mem)) = some X := hf; cases hf2
  | succ n ih => intro h l1 l2 l3 hf; exact q_X9_about_9 (fun (h : Mem) (l1 l2 l3 : Int) => p_X9_about_L9     n h l1 l2 l3) h     l1 l2 l3 (fun h l1 l2 l3 hf => ih h l1 l2 l3 hf) hf
def p_X9_about (h : Mem)  (l1 : Int) : Option (Int × Mem) :=
  p_X9_about_L9     300 (up h 45 0 0) l1 0 0
set_option maxRecDepth 20000 in
theorem q_X9_about (h : Mem)   (l1 : Int) {X : Int × Mem} (hf : p_X9_about h  l1 = some X) : Cn m_X9_about [vr 45, vi l1] h (fun r h' => r = some (vi X.1) ∧ h' = X.2) := by
  unfold p_X9_about at hf
  have key : E m_X9_about none (fun r h' => r = some (vi X.1) ∧ h' = X.2) 0 [some (vr 45), some (vi l1), none, none] [] h := by
    refine e_aload_n dX9_about_0 rfl ?_
    refine e_iconst dX9_about_1 ⟨by decide, by decide⟩ ?_
    refine e_putI (t := 0) (kz := 0) rfl dX9_about_2 rfl fp_682 rfl rfl (Or.inl rfl) ?_
    refine e_iconst dX9_about_5 ⟨by decide, by decide⟩ ?_
    refine e_istore_n (ls' := [some (vr 45), some (vi l1), some (vi 0), none]) dX9_about_6 (Nat.le_of_ble_eq_true rfl) rfl ?_
    refine e_iconst dX9_about_7 ⟨by decide, by decide⟩ ?_
    refine e_istore_n (ls' := [some (vr 45), some (vi l1), some (vi 0), some (vi 0)]) dX9_about_8 (Nat.le_of_ble_eq_true rfl) rfl ?_
    exact e_mask [true, true, true, true] (q_X9_about_L9        300 (up h 45 0 0) l1 0 0 hf)
  exact Cn_of rfl (fun _ => Nat.le_of_ble_eq_true rfl) ⟨rfl, rfl⟩ (e_pad 2 key)
abbrev m_X9_noRoof : MI := (yX9_noRoof, cX9_noRoof, 2, some .boolean, { frames := 1, cells := 0, slots := 0, locals := 25 })
def p_X9_noRoof (h : Mem)  (l1 : Int) : Option (Int) :=
  bd (p_X9_in h l1 0 (wr ((h 45 5) - 1))) (fun r10 => if r10 = 0 then (some 1) else (some 0))
set_option maxRecDepth 20000 in
theorem q_X9_noRoof (h : Mem)   (l1 : Int) {X : Int} (hf : p_X9_noRoof h  l1 = some X) : Cn m_X9_noRoof [vr 45, vi l1] h (fun r h' => r = some (vi X) ∧ h' = h) := by
  unfold p_X9_noRoof at hf
  have key : E m_X9_noRoof none (fun r h' => r = some (vi X) ∧ h' = h) 0 [some (vr 45), some (vi l1)] [] h := by
    refine e_iload_n dX9_noRoof_0 rfl ?_
    refine e_i2l dX9_noRoof_1 ?_
    refine e_lconst (a := 0) dX9_noRoof_2 ⟨by decide, by decide, by decide⟩ ?_
    refine e_aload_n dX9_noRoof_3 rfl ?_
    refine e_getI (kz := 5) rfl dX9_noRoof_4 rfl fl_687 rfl rfl (Or.inl rfl) ?_
    refine e_iconst dX9_noRoof_7 ⟨by decide, by decide⟩ ?_
    refine e_isub dX9_noRoof_8 ?_
    refine e_i2l dX9_noRoof_9 ?_
    obtain ⟨r10, e10, hf⟩ := bd_some hf
    refine e_callS3i dX9_noRoof_10 rfl lk_799 ⟨rfl, rfl, Nat.le_of_ble_eq_true rfl, Nat.le_of_ble_eq_true rfl⟩ (Nat.le_of_ble_eq_true rfl) (q_X9_in h   l1 0 (wr ((h 45 5) - 1)) e10) ?_
    refine e_if_ne (tgt := 20) dX9_noRoof_13 (by decide) (fun c13 => ?_) (fun c13 => ?_)
    · replace hf := ifn hf c13
      refine e_iconst dX9_noRoof_20 ⟨by decide, by decide⟩ ?_
      obtain rfl := Option.some.inj hf
      exact e_zreturn dX9_noRoof_21 rfl (by decide) ⟨rfl, rfl⟩
    · replace hf := ifp hf c13
      refine e_iconst dX9_noRoof_16 ⟨by decide, by decide⟩ ?_
      refine e_goto (tgt := 21) dX9_noRoof_17 (by decide) ?_
      obtain rfl := Option.some.inj hf
      exact e_zreturn dX9_noRoof_21 rfl (by decide) ⟨rfl, rfl⟩
  exact Cn_of rfl (fun _ => Nat.le_of_ble_eq_true rfl) ⟨rfl, rfl⟩ (e_pad 0 key)
abbrev m_X9_doesSee : MI := (yX9_doesSee, cX9_doesSee, 5, some .boolean, { frames := 2, cells := 0, slots := 0, locals := 46 })
def p_X9_doesSee (h : Mem) (p : Nat) (l2 l3 l4 : Int) : Option (Int) :=
  bd (p_X9_has h l2 l3) (fun r2 => if r2 = 0 then (some 0) else (gd (0 ≤ l3 ∧ l3 < 5) (bd (p_X9_far h (h 47 l3) l4) (fun r16 => gd (0 ≤ l3 ∧ l3 < 17) (if qdiv (h p l3) 4 < r16 then (some 0) else (bd (p_X9_isShaded h p l2 l3) (fun r31 => if r31 = 0 then (some 1) else (some 0))))))))
set_option maxRecDepth 20000 in
theorem q_X9_doesSee (h : Mem) (p : Nat) (hp : kd[p]? = some (.inr (17, false))) (l2 l3 l4 : Int) {X : Int} (hf : p_X9_doesSee h p l2 l3 l4 = some X) : Cn m_X9_doesSee [vr 45, vr p, vi l2, vi l3, vi l4] h (fun r h' => r = some (vi X) ∧ h' = h) := by
  unfold p_X9_doesSee at hf
  have key : E m_X9_doesSee none (fun r h' => r = some (vi X) ∧ h' = h) 0 [some (vr 45), some (vr p), some (vi l2), some (vi l3), some (vi l4)] [] h := by
    refine e_iload_n dX9_doesSee_0 rfl ?_
    refine e_iload_n dX9_doesSee_1 rfl ?_
    obtain ⟨r2, e2, hf⟩ := bd_some hf
    refine e_callS2i dX9_doesSee_2 rfl lk_850 ⟨rfl, rfl, Nat.le_of_ble_eq_true rfl, Nat.le_of_ble_eq_true rfl⟩ (Nat.le_of_ble_eq_true rfl) (q_X9_has h   l2 l3 e2) ?_
    refine e_if_eq (tgt := 41) dX9_doesSee_5 (by decide) (fun c5 => ?_) (fun c5 => ?_)
    · replace hf := ifp hf c5
      refine e_iconst dX9_doesSee_41 ⟨by decide, by decide⟩ ?_
      obtain rfl := Option.some.inj hf
      exact e_zreturn dX9_doesSee_42 rfl (by decide) ⟨rfl, rfl⟩
    · replace hf := ifn hf c5
      refine e_aload_n dX9_doesSee_8 rfl ?_
      refine e_getR dX9_doesSee_9 rfl fl_689 rfl rfl ?_
      refine e_iload_n dX9_doesSee_12 rfl ?_
      obtain ⟨g13, hf⟩ := gd_some hf
      refine e_iald dX9_doesSee_13 rfl g13 ?_
      refine e_iload dX9_doesSee_14 rfl ?_
      obtain ⟨r16, e16, hf⟩ := bd_some hf
      refine e_callS2i dX9_doesSee_16 rfl lk_853 ⟨rfl, rfl, Nat.le_of_ble_eq_true rfl, Nat.le_of_ble_eq_true rfl⟩ (Nat.le_of_ble_eq_true rfl) (q_X9_far h   (h 47 l3) l4 e16) ?_
      refine e_aload_n dX9_doesSee_19 rfl ?_
      refine e_iload_n dX9_doesSee_20 rfl ?_
      obtain ⟨g21, hf⟩ := gd_some hf
      refine e_iald dX9_doesSee_21 hp g21 ?_
      refine e_iconst dX9_doesSee_22 ⟨by decide, by decide⟩ ?_
      refine e_idiv dX9_doesSee_23 (by decide) ?_
      refine e_icmp_gt (tgt := 41) dX9_doesSee_24 (by decide) (fun c24 => ?_) (fun c24 => ?_)
      · replace hf := ifp hf c24
        refine e_iconst dX9_doesSee_41 ⟨by decide, by decide⟩ ?_
        obtain rfl := Option.some.inj hf
        exact e_zreturn dX9_doesSee_42 rfl (by decide) ⟨rfl, rfl⟩
      · replace hf := ifn hf c24
        refine e_aload_n dX9_doesSee_27 rfl ?_
        refine e_aload_n dX9_doesSee_28 rfl ?_
        refine e_iload_n dX9_doesSee_29 rfl ?_
        refine e_iload_n dX9_doesSee_30 rfl ?_
        obtain ⟨r31, e31, hf⟩ := bd_some hf
        refine e_callV3i dX9_doesSee_31 rfl lk_846 ⟨rfl, rfl, Nat.le_of_ble_eq_true rfl, Nat.le_of_ble_eq_true rfl⟩ rfl rfl (Nat.le_of_ble_eq_true rfl) (q_X9_isShaded h p hp l2 l3 e31) ?_
        refine e_if_ne (tgt := 41) dX9_doesSee_34 (by decide) (fun c34 => ?_) (fun c34 => ?_)
        · replace hf := ifn hf c34
          refine e_iconst dX9_doesSee_41 ⟨by decide, by decide⟩ ?_
          obtain rfl := Option.some.inj hf
          exact e_zreturn dX9_doesSee_42 rfl (by decide) ⟨rfl, rfl⟩
        · replace hf := ifp hf c34
          refine e_iconst dX9_doesSee_37 ⟨by decide, by decide⟩ ?_
          refine e_goto (tgt := 42) dX9_doesSee_38 (by decide) ?_
          obtain rfl := Option.some.inj hf
          exact e_zreturn dX9_doesSee_42 rfl (by decide) ⟨rfl, rfl⟩
  exact Cn_of rfl (fun _ => Nat.le_of_ble_eq_true rfl) ⟨rfl, rfl⟩ (e_pad 0 key)
abbrev m_X9_over : MI := (yX9_over, cX9_over, 3, some .int, { frames := 0, cells := 0, slots := 0, locals := 0 })
def p_X9_over (h : Mem)  (l1 l2 : Int) : Option (Int) :=
  gd (0 ≤ l1 ∧ l1 < 4) (gd (0 ≤ l1 ∧ l1 < 4) (some (qrem (wr ((h 48 l1) + (wr ((h 49 l1) * l2)))) 10)))
set_option maxRecDepth 20000 in
theorem q_X9_over (h : Mem)   (l1 l2 : Int) {X : Int} (hf : p_X9_over h  l1 l2 = some X) : Cn m_X9_over [vr 45, vi l1, vi l2] h (fun r h' => r = some (vi X) ∧ h' = h) := by
  unfold p_X9_over at hf
  have key : E m_X9_over none (fun r h' => r = some (vi X) ∧ h' = h) 0 [some (vr 45), some (vi l1), some (vi l2)] [] h := by
    refine e_aload_n dX9_over_0 rfl ?_
    refine e_getR dX9_over_1 rfl fl_690 rfl rfl ?_
    refine e_iload_n dX9_over_4 rfl ?_
    obtain ⟨g5, hf⟩ := gd_some hf
    refine e_iald dX9_over_5 rfl g5 ?_
    refine e_aload_n dX9_over_6 rfl ?_
    refine e_getR dX9_over_7 rfl fl_691 rfl rfl ?_
    refine e_iload_n dX9_over_10 rfl ?_
    obtain ⟨g11, hf⟩ := gd_some hf
    refine e_iald dX9_over_11 rfl g11 ?_
    refine e_iload_n dX9_over_12 rfl ?_
    refine e_imul dX9_over_13 ?_
    refine e_iadd dX9_over_14 ?_
    refine e_bipush dX9_over_15 ⟨by decide, by decide, by decide⟩ ?_
    refine e_irem dX9_over_17 (by decide) ?_
    obtain rfl := Option.some.inj hf
    exact e_ireturn dX9_over_18 rfl ⟨rfl, rfl⟩
  exact Cn_of rfl (fun _ => Nat.le_of_ble_eq_true rfl) ⟨rfl, rfl⟩ (e_pad 0 key)
theorem lk_872 : VLk "StarRightModel" 130 m_X9_over 2 := ⟨tw_872, tw_874, twp_31, tw_10, tw_875, by decide +kernel⟩
theorem lk_864 : VLk "StarRightModel" 133 m_X9_doesSee 4 := ⟨tw_864, tw_866, twp_29, tw_10, tw_867, by decide +kernel⟩
abbrev m_X9_holder : MI := (yX9_holder, cX9_holder, 11, some .int, { frames := 3, cells := 0, slots := 0, locals := 70 })
def p_X9_holder_113 (K19 : Int → Int → Int → Int → Int → Int → Option (Int)) (h : Mem) (p : Nat)  (l2 l5 l6 l7 l8 l9 : Int) : Option (Int) :=
  K19 l2 l5 l6 l7 l8 (wr (l9 + 1))
set_option maxRecDepth 20000 in
theorem q_X9_holder_113 (K19 : Int → Int → Int → Int → Int → Int → Option (Int)) (h : Mem) (p : Nat) (hp : kd[p]? = some (.inr (17, false)))   (l2 l5 l6 l7 l8 l9 : Int) {X : Int} (hK19 : ∀ (l2 l5 l6 l7 l8 l9 : Int), K19 l2 l5 l6 l7 l8 l9 = some X → E m_X9_holder none (fun r h' => r = some (vi X) ∧ h' = h) 19 [some (vr 45), some (vr p), some (vi l2), none, none, some (vi l5), some (vi l6), some (vi l7), some (vi l8), some (vi l9), none] [] h) (hf : p_X9_holder_113 K19 h p  l2 l5 l6 l7 l8 l9 = some X) : E m_X9_holder none (fun r h' => r = some (vi X) ∧ h' = h) 113 [some (vr 45), some (vr p), some (vi l2), none, none, some (vi l5), some (vi l6), some (vi l7), some (vi l8), some (vi l9), none] [] h := by
  unfold p_X9_holder_113 at hf
  refine e_iinc (ls' := [some (vr 45), some (vr p), some (vi l2), none, none, some (vi l5), some (vi l6), some (vi l7), some (vi l8), some (vi (wr (l9 + 1))), none]) dX9_holder_113 rfl (Nat.le_of_ble_eq_true rfl) rfl ?_
  refine e_goto (tgt := 19) dX9_holder_116 (by decide) ?_
  exact e_mask [true, true, true, false, false, true, true, true, true, true, false] (hK19 l2 l5 l6 l7 l8 (wr (l9 + 1)) hf)
def p_X9_holder_105 (K19 : Int → Int → Int → Int → Int → Int → Option (Int)) (h : Mem) (p : Nat)  (l2 l5 l6 l9 l10 : Int) : Option (Int) :=
  p_X9_holder_113 K19 h p  l2 l5 l6 l9 l10 l9
set_option maxRecDepth 20000 in
theorem q_X9_holder_105 (K19 : Int → Int → Int → Int → Int → Int → Option (Int)) (h : Mem) (p : Nat) (hp : kd[p]? = some (.inr (17, false)))   (l2 l5 l6 l9 l10 : Int) {X : Int} (hK19 : ∀ (l2 l5 l6 l7 l8 l9 : Int), K19 l2 l5 l6 l7 l8 l9 = some X → E m_X9_holder none (fun r h' => r = some (vi X) ∧ h' = h) 19 [some (vr 45), some (vr p), some (vi l2), none, none, some (vi l5), some (vi l6), some (vi l7), some (vi l8), some (vi l9), none] [] h) (hf : p_X9_holder_105 K19 h p  l2 l5 l6 l9 l10 = some X) : E m_X9_holder none (fun r h' => r = some (vi X) ∧ h' = h) 105 [some (vr 45), some (vr p), some (vi l2), none, none, some (vi l5), some (vi l6), none, none, some (vi l9), some (vi l10)] [] h := by
  unfold p_X9_holder_105 at hf
  refine e_iload dX9_holder_105 rfl ?_
  refine e_istore (ls' := [some (vr 45), some (vr p), some (vi l2), none, none, some (vi l5), some (vi l6), some (vi l9), none, some (vi l9), some (vi l10)]) dX9_holder_107 (Nat.le_of_ble_eq_true rfl) rfl ?_
  refine e_iload dX9_holder_109 rfl ?_
  refine e_istore (ls' := [some (vr 45), some (vr p), some (vi l2), none, none, some (vi l5), some (vi l6), some (vi l9), some (vi l10), some (vi l9), some (vi l10)]) dX9_holder_111 (Nat.le_of_ble_eq_true rfl) rfl ?_
  exact e_mask [true, true, true, false, false, true, true, true, true, true, false] (q_X9_holder_113 K19 h p hp   l2 l5 l6 l9 l10 l9 hK19 hf)
def p_X9_holder_81 (K19 : Int → Int → Int → Int → Int → Int → Option (Int)) (h : Mem) (p : Nat)  (l2 l5 l6 l7 l8 l9 s0 : Int) : Option (Int) :=
  gd (0 ≤ l9 ∧ l9 < 17) (if l7 = (-9) then (p_X9_holder_105 K19 h p  l2 l5 l6 l9 (wr ((wr (s0 * 10)) + (h p l9)))) else (if l8 ≤ wr ((wr (s0 * 10)) + (h p l9)) then (p_X9_holder_113 K19 h p  l2 l5 l6 l7 l8 l9) else (p_X9_holder_105 K19 h p  l2 l5 l6 l9 (wr ((wr (s0 * 10)) + (h p l9))))))
set_option maxRecDepth 20000 in
theorem q_X9_holder_81 (K19 : Int → Int → Int → Int → Int → Int → Option (Int)) (h : Mem) (p : Nat) (hp : kd[p]? = some (.inr (17, false)))   (l2 l5 l6 l7 l8 l9 s0 : Int) {X : Int} (hK19 : ∀ (l2 l5 l6 l7 l8 l9 : Int), K19 l2 l5 l6 l7 l8 l9 = some X → E m_X9_holder none (fun r h' => r = some (vi X) ∧ h' = h) 19 [some (vr 45), some (vr p), some (vi l2), none, none, some (vi l5), some (vi l6), some (vi l7), some (vi l8), some (vi l9), none] [] h) (hf : p_X9_holder_81 K19 h p  l2 l5 l6 l7 l8 l9 s0 = some X) : E m_X9_holder none (fun r h' => r = some (vi X) ∧ h' = h) 81 [some (vr 45), some (vr p), some (vi l2), none, none, some (vi l5), some (vi l6), some (vi l7), some (vi l8), some (vi l9), none] [vi s0] h := by
  unfold p_X9_holder_81 at hf
  refine e_bipush dX9_holder_81 ⟨by decide, by decide, by decide⟩ ?_
  refine e_imul dX9_holder_83 ?_
  refine e_aload_n dX9_holder_84 rfl ?_
  refine e_iload dX9_holder_85 rfl ?_
  obtain ⟨g87, hf⟩ := gd_some hf
  refine e_iald dX9_holder_87 hp g87 ?_
  refine e_iadd dX9_holder_88 ?_
  refine e_istore (ls' := [some (vr 45), some (vr p), some (vi l2), none, none, some (vi l5), some (vi l6), some (vi l7), some (vi l8), some (vi l9), some (vi (wr ((wr (s0 * 10)) + (h p l9))))]) dX9_holder_89 (Nat.le_of_ble_eq_true rfl) rfl ?_
  refine e_iload dX9_holder_91 rfl ?_
  refine e_bipush dX9_holder_93 ⟨by decide, by decide, by decide⟩ ?_
  refine e_icmp_eq (tgt := 105) dX9_holder_95 (by decide) (fun c95 => ?_) (fun c95 => ?_)
  · replace hf := ifp hf c95
    exact e_mask [true, true, true, false, false, true, true, false, false, true, true] (q_X9_holder_105 K19 h p hp   l2 l5 l6 l9 (wr ((wr (s0 * 10)) + (h p l9))) hK19 hf)
  · replace hf := ifn hf c95
    refine e_iload dX9_holder_98 rfl ?_
    refine e_iload dX9_holder_100 rfl ?_
    refine e_icmp_ge (tgt := 113) dX9_holder_102 (by decide) (fun c102 => ?_) (fun c102 => ?_)
    · replace hf := ifp hf c102
      exact e_mask [true, true, true, false, false, true, true, true, true, true, false] (q_X9_holder_113 K19 h p hp   l2 l5 l6 l7 l8 l9 hK19 hf)
    · replace hf := ifn hf c102
      exact e_mask [true, true, true, false, false, true, true, false, false, true, true] (q_X9_holder_105 K19 h p hp   l2 l5 l6 l9 (wr ((wr (s0 * 10)) + (h p l9))) hK19 hf)
def p_X9_holder_19 (K19 : Int → Int → Int → Int → Int → Int → Option (Int)) (h : Mem) (p : Nat)  (l2 l5 l6 l7 l8 l9 : Int) : Option (Int) :=
  if h 45 5 ≤ l9 then (some l7) else (bd (p_X9_doesSee h p l2 l9 l6) (fun r35 => if r35 = 0 then (p_X9_holder_113 K19 h p  l2 l5 l6 l7 l8 l9) else (if l5 = 0 then (gd (0 ≤ l9 ∧ l9 < 5) (bd (p_X9_far h (h 47 l9) l6) (fun r55 => p_X9_holder_81 K19 h p  l2 l5 l6 l7 l8 l9 r55))) else (if l5 = 1 then (gd (0 ≤ l9 ∧ l9 < 17) (p_X9_holder_81 K19 h p  l2 l5 l6 l7 l8 l9 (wr (9 - (h p l9))))) else (gd (0 ≤ l9 ∧ l9 < 17) (p_X9_holder_81 K19 h p  l2 l5 l6 l7 l8 l9 (h p l9)))))))
set_option maxRecDepth 20000 in
theorem q_X9_holder_19 (K19 : Int → Int → Int → Int → Int → Int → Option (Int)) (h : Mem) (p : Nat) (hp : kd[p]? = some (.inr (17, false)))   (l2 l5 l6 l7 l8 l9 : Int) {X : Int} (hK19 : ∀ (l2 l5 l6 l7 l8 l9 : Int), K19 l2 l5 l6 l7 l8 l9 = some X → E m_X9_holder none (fun r h' => r = some (vi X) ∧ h' = h) 19 [some (vr 45), some (vr p), some (vi l2), none, none, some (vi l5), some (vi l6), some (vi l7), some (vi l8), some (vi l9), none] [] h) (hf : p_X9_holder_19 K19 h p  l2 l5 l6 l7 l8 l9 = some X) : E m_X9_holder none (fun r h' => r = some (vi X) ∧ h' = h) 19 [some (vr 45), some (vr p), some (vi l2), none, none, some (vi l5), some (vi l6), some (vi l7), some (vi l8), some (vi l9), none] [] h := by
  unfold p_X9_holder_19 at hf
  refine e_iload dX9_holder_19 rfl ?_
  refine e_aload_n dX9_holder_21 rfl ?_
  refine e_getI (kz := 5) rfl dX9_holder_22 rfl fl_687 rfl rfl (Or.inl rfl) ?_
  refine e_icmp_ge (tgt := 119) dX9_holder_25 (by decide) (fun c25 => ?_) (fun c25 => ?_)
  · replace hf := ifp hf c25
    refine e_iload dX9_holder_119 rfl ?_
    obtain rfl := Option.some.inj hf
    exact e_ireturn dX9_holder_121 rfl ⟨rfl, rfl⟩
  · replace hf := ifn hf c25
    refine e_aload_n dX9_holder_28 rfl ?_
    refine e_aload_n dX9_holder_29 rfl ?_
    refine e_iload_n dX9_holder_30 rfl ?_
    refine e_iload dX9_holder_31 rfl ?_
    refine e_iload dX9_holder_33 rfl ?_
    obtain ⟨r35, e35, hf⟩ := bd_some hf
    refine e_callV4i dX9_holder_35 rfl lk_864 ⟨rfl, rfl, Nat.le_of_ble_eq_true rfl, Nat.le_of_ble_eq_true rfl⟩ rfl rfl (Nat.le_of_ble_eq_true rfl) (q_X9_doesSee h p hp l2 l9 l6 e35) ?_
    refine e_if_eq (tgt := 113) dX9_holder_38 (by decide) (fun c38 => ?_) (fun c38 => ?_)
    · replace hf := ifp hf c38
      exact e_mask [true, true, true, false, false, true, true, true, true, true, false] (q_X9_holder_113 K19 h p hp   l2 l5 l6 l7 l8 l9 hK19 hf)
    · replace hf := ifn hf c38
      refine e_iload dX9_holder_41 rfl ?_
      refine e_if_ne (tgt := 61) dX9_holder_43 (by decide) (fun c43 => ?_) (fun c43 => ?_)
      · replace hf := ifn hf c43
        refine e_iload dX9_holder_61 rfl ?_
        refine e_iconst dX9_holder_63 ⟨by decide, by decide⟩ ?_
        refine e_icmp_ne (tgt := 77) dX9_holder_64 (by decide) (fun c64 => ?_) (fun c64 => ?_)
        · replace hf := ifn hf c64
          refine e_aload_n dX9_holder_77 rfl ?_
          refine e_iload dX9_holder_78 rfl ?_
          obtain ⟨g80, hf⟩ := gd_some hf
          refine e_iald dX9_holder_80 hp g80 ?_
          exact e_mask [true, true, true, false, false, true, true, true, true, true, false] (q_X9_holder_81 K19 h p hp   l2 l5 l6 l7 l8 l9 (h p l9) hK19 hf)
        · replace hf := ifp hf c64
          refine e_bipush dX9_holder_67 ⟨by decide, by decide, by decide⟩ ?_
          refine e_aload_n dX9_holder_69 rfl ?_
          refine e_iload dX9_holder_70 rfl ?_
          obtain ⟨g72, hf⟩ := gd_some hf
          refine e_iald dX9_holder_72 hp g72 ?_
          refine e_isub dX9_holder_73 ?_
          refine e_goto (tgt := 81) dX9_holder_74 (by decide) ?_
          exact e_mask [true, true, true, false, false, true, true, true, true, true, false] (q_X9_holder_81 K19 h p hp   l2 l5 l6 l7 l8 l9 (wr (9 - (h p l9))) hK19 hf)
      · replace hf := ifp hf c43
        refine e_aload_n dX9_holder_46 rfl ?_
        refine e_getR dX9_holder_47 rfl fl_689 rfl rfl ?_
        refine e_iload dX9_holder_50 rfl ?_
        obtain ⟨g52, hf⟩ := gd_some hf
        refine e_iald dX9_holder_52 rfl g52 ?_
        refine e_iload dX9_holder_53 rfl ?_
        obtain ⟨r55, e55, hf⟩ := bd_some hf
        refine e_callS2i dX9_holder_55 rfl lk_853 ⟨rfl, rfl, Nat.le_of_ble_eq_true rfl, Nat.le_of_ble_eq_true rfl⟩ (Nat.le_of_ble_eq_true rfl) (q_X9_far h   (h 47 l9) l6 e55) ?_
        refine e_goto (tgt := 81) dX9_holder_58 (by decide) ?_
        exact e_mask [true, true, true, false, false, true, true, true, true, true, false] (q_X9_holder_81 K19 h p hp   l2 l5 l6 l7 l8 l9 r55 hK19 hf)
def p_X9_holder_L19  (h : Mem) (p : Nat)  : Nat → Int → Int → Int → Int → Int → Int → Option (Int)
  | 0, _, _, _, _, _, _ => none
  | n + 1, l2, l5, l6, l7, l8, l9 => p_X9_holder_19 (fun (l2 l5 l6 l7 l8 l9 : Int) => p_X9_holder_L19  h p  n l2 l5 l6 l7 l8 l9) h p  l2 l5 l6 l7 l8 l9
theorem q_X9_holder_L19  (h : Mem) (p : Nat) (hp : kd[p]? = some (.inr (17, false)))   {X : Int}  : ∀ (n : Nat) (l2 l5 l6 l7 l8 l9 : Int), p_X9_holder_L19  h p  n l2 l5 l6 l7 l8 l9 = some X → E m_X9_holder none (fun r h' => r = some (vi X) ∧ h' = h) 19 [some (vr 45), some (vr p), some (vi l2), none, none, some (vi l5), some (vi l6), some (vi l7), some (vi l8), some (vi l9), none] [] h := by
  intro n
  induction n with
  | zero => intro l2 l5 l6 l7 l8 l9 hf; have hf2 : (none : Option (Int)) = some X := hf; cases hf2
  | succ n ih => intro l2 l5 l6 l7 l8 l9 hf; exact q_X9_holder_19 (fun (l2 l5 l6 l7 l8 l9 : Int) => p_X9_holder_L19  h p  n l2 l5 l6 l7 l8 l9) h p hp   l2 l5 l6 l7 l8 l9 (fun l2 l5 l6 l7 l8 l9 hf => ih l2 l5 l6 l7 l8 l9 hf) hf
def p_X9_holder (h : Mem) (p : Nat) (l2 l3 l4 l5 : Int) : Option (Int) :=
  bd (p_X9_over h l3 l4) (fun r4 => p_X9_holder_L19  h p  300  l2 l5 r4 (-9) 0 0)
set_option maxRecDepth 20000 in
theorem q_X9_holder (h : Mem) (p : Nat) (hp : kd[p]? = some (.inr (17, false))) (l2 l3 l4 l5 : Int) {X : Int} (hf : p_X9_holder h p l2 l3 l4 l5 = some X) : Cn m_X9_holder [vr 45, vr p, vi l2, vi l3, vi l4, vi l5] h (fun r h' => r = some (vi X) ∧ h' = h) := by
  unfold p_X9_holder at hf
  have key : E m_X9_holder none (fun r h' => r = some (vi X) ∧ h' = h) 0 [some (vr 45), some (vr p), some (vi l2), some (vi l3), some (vi l4), some (vi l5), none, none, none, none, none] [] h := by
    refine e_aload_n dX9_holder_0 rfl ?_
    refine e_iload_n dX9_holder_1 rfl ?_
    refine e_iload dX9_holder_2 rfl ?_
    obtain ⟨r4, e4, hf⟩ := bd_some hf
    refine e_callV2i dX9_holder_4 rfl lk_872 ⟨rfl, rfl, Nat.le_of_ble_eq_true rfl, Nat.le_of_ble_eq_true rfl⟩ rfl rfl (Nat.le_of_ble_eq_true rfl) (q_X9_over h   l3 l4 e4) ?_
    refine e_istore (ls' := [some (vr 45), some (vr p), some (vi l2), some (vi l3), some (vi l4), some (vi l5), some (vi r4), none, none, none, none]) dX9_holder_7 (Nat.le_of_ble_eq_true rfl) rfl ?_
    refine e_bipush dX9_holder_9 ⟨by decide, by decide, by decide⟩ ?_
    refine e_istore (ls' := [some (vr 45), some (vr p), some (vi l2), some (vi l3), some (vi l4), some (vi l5), some (vi r4), some (vi (-9)), none, none, none]) dX9_holder_11 (Nat.le_of_ble_eq_true rfl) rfl ?_
    refine e_iconst dX9_holder_13 ⟨by decide, by decide⟩ ?_
    refine e_istore (ls' := [some (vr 45), some (vr p), some (vi l2), some (vi l3), some (vi l4), some (vi l5), some (vi r4), some (vi (-9)), some (vi 0), none, none]) dX9_holder_14 (Nat.le_of_ble_eq_true rfl) rfl ?_
    refine e_iconst dX9_holder_16 ⟨by decide, by decide⟩ ?_
    refine e_istore (ls' := [some (vr 45), some (vr p), some (vi l2), some (vi l3), some (vi l4), some (vi l5), some (vi r4), some (vi (-9)), some (vi 0), some (vi 0), none]) dX9_holder_17 (Nat.le_of_ble_eq_true rfl) rfl ?_
    exact e_mask [true, true, true, false, false, true, true, true, true, true, false] (q_X9_holder_L19  h p hp    300  l2 l5 r4 (-9) 0 0 hf)
  exact Cn_of rfl (fun _ => Nat.le_of_ble_eq_true rfl) ⟨rfl, rfl⟩ (e_pad 5 key)
theorem lk_868 : VLk "StarRightModel" 137 m_X9_holder 5 := ⟨tw_868, tw_870, twp_30, tw_10, tw_871, by decide +kernel⟩
theorem lk_860 : VLk "StarRightModel" 151 m_X9_noRoof 1 := ⟨tw_860, tw_862, twp_28, tw_10, tw_863, by decide +kernel⟩
abbrev m_X9_roof : MI := (yX9_roof, cX9_roof, 5, some .int, { frames := 4, cells := 0, slots := 0, locals := 100 })
def p_X9_roof_113 (K79 : Mem → Int → Int → Int → Option (Int × Mem)) (h : Mem)   (l1 l4 s0 s1 : Int) : Option (Int × Mem) :=
  K79 h l1 (bor s0 s1) (wr (l4 + 1))
set_option maxRecDepth 20000 in
theorem q_X9_roof_113 (K79 : Mem → Int → Int → Int → Option (Int × Mem)) (h : Mem)     (l1 l4 s0 s1 : Int) {X : Int × Mem} (hK79 : ∀ (h : Mem) (l1 l3 l4 : Int), K79 h l1 l3 l4 = some X → E m_X9_roof none (fun r h' => r = some (vi X.1) ∧ h' = X.2) 79 [some (vr 45), some (vi l1), none, some (vi l3), some (vi l4)] [] h) (hf : p_X9_roof_113 K79 h   l1 l4 s0 s1 = some X) : E m_X9_roof none (fun r h' => r = some (vi X.1) ∧ h' = X.2) 113 [some (vr 45), some (vi l1), none, none, some (vi l4)] [vi s1, vi s0] h := by
  unfold p_X9_roof_113 at hf
  refine e_ior dX9_roof_113 ?_
  refine e_istore_n (ls' := [some (vr 45), some (vi l1), none, some (vi (bor s0 s1)), some (vi l4)]) dX9_roof_114 (Nat.le_of_ble_eq_true rfl) rfl ?_
  refine e_iinc (ls' := [some (vr 45), some (vi l1), none, some (vi (bor s0 s1)), some (vi (wr (l4 + 1)))]) dX9_roof_115 rfl (Nat.le_of_ble_eq_true rfl) rfl ?_
  refine e_goto (tgt := 79) dX9_roof_118 (by decide) ?_
  exact e_mask [true, true, false, true, true] (hK79 h l1 (bor s0 s1) (wr (l4 + 1)) hf)
def p_X9_roof_79 (K79 : Mem → Int → Int → Int → Option (Int × Mem)) (h : Mem)   (l1 l3 l4 : Int) : Option (Int × Mem) :=
  if 10 ≤ l4 then (some (l3, h)) else (bd (p_X9_all h ) (fun r93 => bd (p_X9_doesSee h 53 r93 l1 l4) (fun r99 => if r99 = 0 then (p_X9_roof_113 K79 h   l1 l4 l3 0) else (p_X9_roof_113 K79 h   l1 l4 l3 (bshl 1 l4)))))
set_option maxRecDepth 20000 in
theorem q_X9_roof_79 (K79 : Mem → Int → Int → Int → Option (Int × Mem)) (h : Mem)     (l1 l3 l4 : Int) {X : Int × Mem} (hK79 : ∀ (h : Mem) (l1 l3 l4 : Int), K79 h l1 l3 l4 = some X → E m_X9_roof none (fun r h' => r = some (vi X.1) ∧ h' = X.2) 79 [some (vr 45), some (vi l1), none, some (vi l3), some (vi l4)] [] h) (hf : p_X9_roof_79 K79 h   l1 l3 l4 = some X) : E m_X9_roof none (fun r h' => r = some (vi X.1) ∧ h' = X.2) 79 [some (vr 45), some (vi l1), none, some (vi l3), some (vi l4)] [] h := by
  unfold p_X9_roof_79 at hf
  refine e_iload dX9_roof_79 rfl ?_
  refine e_bipush dX9_roof_81 ⟨by decide, by decide, by decide⟩ ?_
  refine e_icmp_ge (tgt := 121) dX9_roof_83 (by decide) (fun c83 => ?_) (fun c83 => ?_)
  · replace hf := ifp hf c83
    refine e_iload_n dX9_roof_121 rfl ?_
    obtain rfl := Option.some.inj hf
    exact e_ireturn dX9_roof_122 rfl ⟨rfl, rfl⟩
  · replace hf := ifn hf c83
    refine e_iload_n dX9_roof_86 rfl ?_
    refine e_aload_n dX9_roof_87 rfl ?_
    refine e_aload_n dX9_roof_88 rfl ?_
    refine e_getR dX9_roof_89 rfl fl_698 rfl rfl ?_
    refine e_aload_n dX9_roof_92 rfl ?_
    obtain ⟨r93, e93, hf⟩ := bd_some hf
    refine e_callV0i dX9_roof_93 rfl lk_842 ⟨rfl, rfl, Nat.le_of_ble_eq_true rfl, Nat.le_of_ble_eq_true rfl⟩ rfl rfl (Nat.le_of_ble_eq_true rfl) (q_X9_all h    e93) ?_
    refine e_iload_n dX9_roof_96 rfl ?_
    refine e_iload dX9_roof_97 rfl ?_
    obtain ⟨r99, e99, hf⟩ := bd_some hf
    refine e_callV4i dX9_roof_99 rfl lk_864 ⟨rfl, rfl, Nat.le_of_ble_eq_true rfl, Nat.le_of_ble_eq_true rfl⟩ rfl rfl (Nat.le_of_ble_eq_true rfl) (q_X9_doesSee h 53 rfl r93 l1 l4 e99) ?_
    refine e_if_eq (tgt := 112) dX9_roof_102 (by decide) (fun c102 => ?_) (fun c102 => ?_)
    · replace hf := ifp hf c102
      refine e_iconst dX9_roof_112 ⟨by decide, by decide⟩ ?_
      exact e_mask [true, true, false, false, true] (q_X9_roof_113 K79 h     l1 l4 l3 0 hK79 hf)
    · replace hf := ifn hf c102
      refine e_iconst dX9_roof_105 ⟨by decide, by decide⟩ ?_
      refine e_iload dX9_roof_106 rfl ?_
      refine e_ishl dX9_roof_108 ?_
      refine e_goto (tgt := 113) dX9_roof_109 (by decide) ?_
      exact e_mask [true, true, false, false, true] (q_X9_roof_113 K79 h     l1 l4 l3 (bshl 1 l4) hK79 hf)
def p_X9_roof_L79     : Nat → Mem → Int → Int → Int → Option (Int × Mem)
  | 0, _, _, _, _ => none
  | n + 1, h, l1, l3, l4 => p_X9_roof_79 (fun (h : Mem) (l1 l3 l4 : Int) => p_X9_roof_L79     n h l1 l3 l4) h   l1 l3 l4
theorem q_X9_roof_L79       {X : Int × Mem}  : ∀ (n : Nat) (h : Mem) (l1 l3 l4 : Int), p_X9_roof_L79     n h l1 l3 l4 = some X → E m_X9_roof none (fun r h' => r = some (vi X.1) ∧ h' = X.2) 79 [some (vr 45), some (vi l1), none, some (vi l3), some (vi l4)] [] h := by
  intro n
  induction n with
  | zero => intro h l1 l3 l4 hf; have hf2 : (none : Option (Int × Mem)) = some X := hf; cases hf2
  | succ n ih => intro h l1 l3 l4 hf; exact q_X9_roof_79 (fun (h : Mem) (l1 l3 l4 : Int) => p_X9_roof_L79     n h l1 l3 l4) h     l1 l3 l4 (fun h l1 l3 l4 hf => ih h l1 l3 l4 hf) hf
def p_X9_roof_173 (K126 : Mem → Int → Int → Int → Option (Int × Mem)) (h : Mem)   (l1 l4 s0 s1 : Int) : Option (Int × Mem) :=
  K126 h l1 (bor s0 s1) (wr (l4 + 1))
set_option maxRecDepth 20000 in
theorem q_X9_roof_173 (K126 : Mem → Int → Int → Int → Option (Int × Mem)) (h : Mem)     (l1 l4 s0 s1 : Int) {X : Int × Mem} (hK126 : ∀ (h : Mem) (l1 l3 l4 : Int), K126 h l1 l3 l4 = some X → E m_X9_roof none (fun r h' => r = some (vi X.1) ∧ h' = X.2) 126 [some (vr 45), some (vi l1), none, some (vi l3), some (vi l4)] [] h) (hf : p_X9_roof_173 K126 h   l1 l4 s0 s1 = some X) : E m_X9_roof none (fun r h' => r = some (vi X.1) ∧ h' = X.2) 173 [some (vr 45), some (vi l1), none, none, some (vi l4)] [vi s1, vi s0] h := by
  unfold p_X9_roof_173 at hf
  refine e_ior dX9_roof_173 ?_
  refine e_istore_n (ls' := [some (vr 45), some (vi l1), none, some (vi (bor s0 s1)), some (vi l4)]) dX9_roof_174 (Nat.le_of_ble_eq_true rfl) rfl ?_
  refine e_iinc (ls' := [some (vr 45), some (vi l1), none, some (vi (bor s0 s1)), some (vi (wr (l4 + 1)))]) dX9_roof_175 rfl (Nat.le_of_ble_eq_true rfl) rfl ?_
  refine e_goto (tgt := 126) dX9_roof_178 (by decide) ?_
  exact e_mask [true, true, false, true, true] (hK126 h l1 (bor s0 s1) (wr (l4 + 1)) hf)
def p_X9_roof_126 (K126 : Mem → Int → Int → Int → Option (Int × Mem)) (h : Mem)   (l1 l3 l4 : Int) : Option (Int × Mem) :=
  if h 45 6 ≤ l4 then (some (l3, h)) else (bd (p_X9_all h ) (fun r142 => bd (p_X9_holder h 53 r142 l4 (h 53 16) (h 45 4)) (fun r158 => if r158 = l1 then (p_X9_roof_173 K126 h   l1 l4 l3 (bshl 1 l4)) else (p_X9_roof_173 K126 h   l1 l4 l3 0))))
set_option maxRecDepth 20000 in
theorem q_X9_roof_126 (K126 : Mem → Int → Int → Int → Option (Int × Mem)) (h : Mem)     (l1 l3 l4 : Int) {X : Int × Mem} (hK126 : ∀ (h : Mem) (l1 l3 l4 : Int), K126 h l1 l3 l4 = some X → E m_X9_roof none (fun r h' => r = some (vi X.1) ∧ h' = X.2) 126 [some (vr 45), some (vi l1), none, some (vi l3), some (vi l4)] [] h) (hf : p_X9_roof_126 K126 h   l1 l3 l4 = some X) : E m_X9_roof none (fun r h' => r = some (vi X.1) ∧ h' = X.2) 126 [some (vr 45), some (vi l1), none, some (vi l3), some (vi l4)] [] h := by
  unfold p_X9_roof_126 at hf
  refine e_iload dX9_roof_126 rfl ?_
  refine e_aload_n dX9_roof_128 rfl ?_
  refine e_getI (kz := 6) rfl dX9_roof_129 rfl fl_688 rfl rfl (Or.inl rfl) ?_
  refine e_icmp_ge (tgt := 181) dX9_roof_132 (by decide) (fun c132 => ?_) (fun c132 => ?_)
  · replace hf := ifp hf c132
    refine e_iload_n dX9_roof_181 rfl ?_
    obtain rfl := Option.some.inj hf
    exact e_ireturn dX9_roof_182 rfl ⟨rfl, rfl⟩
  · replace hf := ifn hf c132
    refine e_iload_n dX9_roof_135 rfl ?_
    refine e_aload_n dX9_roof_136 rfl ?_
    refine e_aload_n dX9_roof_137 rfl ?_
    refine e_getR dX9_roof_138 rfl fl_698 rfl rfl ?_
    refine e_aload_n dX9_roof_141 rfl ?_
    obtain ⟨r142, e142, hf⟩ := bd_some hf
    refine e_callV0i dX9_roof_142 rfl lk_842 ⟨rfl, rfl, Nat.le_of_ble_eq_true rfl, Nat.le_of_ble_eq_true rfl⟩ rfl rfl (Nat.le_of_ble_eq_true rfl) (q_X9_all h    e142) ?_
    refine e_iload dX9_roof_145 rfl ?_
    refine e_aload_n dX9_roof_147 rfl ?_
    refine e_getR dX9_roof_148 rfl fl_698 rfl rfl ?_
    refine e_bipush dX9_roof_151 ⟨by decide, by decide, by decide⟩ ?_
    refine e_iald dX9_roof_153 rfl (by decide) ?_
    refine e_aload_n dX9_roof_154 rfl ?_
    refine e_getI (kz := 4) rfl dX9_roof_155 rfl fl_686 rfl rfl (Or.inl rfl) ?_
    obtain ⟨r158, e158, hf⟩ := bd_some hf
    refine e_callV5i dX9_roof_158 rfl lk_868 ⟨rfl, rfl, Nat.le_of_ble_eq_true rfl, Nat.le_of_ble_eq_true rfl⟩ rfl rfl (Nat.le_of_ble_eq_true rfl) (q_X9_holder h 53 rfl r142 l4 (h 53 16) (h 45 4) e158) ?_
    refine e_iload_n dX9_roof_161 rfl ?_
    refine e_icmp_ne (tgt := 172) dX9_roof_162 (by decide) (fun c162 => ?_) (fun c162 => ?_)
    · replace hf := ifn hf c162
      refine e_iconst dX9_roof_172 ⟨by decide, by decide⟩ ?_
      exact e_mask [true, true, false, false, true] (q_X9_roof_173 K126 h     l1 l4 l3 0 hK126 hf)
    · replace hf := ifp hf c162
      refine e_iconst dX9_roof_165 ⟨by decide, by decide⟩ ?_
      refine e_iload dX9_roof_166 rfl ?_
      refine e_ishl dX9_roof_168 ?_
      refine e_goto (tgt := 173) dX9_roof_169 (by decide) ?_
      exact e_mask [true, true, false, false, true] (q_X9_roof_173 K126 h     l1 l4 l3 (bshl 1 l4) hK126 hf)
def p_X9_roof_L126     : Nat → Mem → Int → Int → Int → Option (Int × Mem)
  | 0, _, _, _, _ => none
  | n + 1, h, l1, l3, l4 => p_X9_roof_126 (fun (h : Mem) (l1 l3 l4 : Int) => p_X9_roof_L126     n h l1 l3 l4) h   l1 l3 l4
theorem q_X9_roof_L126       {X : Int × Mem}  : ∀ (n : Nat) (h : Mem) (l1 l3 l4 : Int), p_X9_roof_L126     n h l1 l3 l4 = some X → E m_X9_roof none (fun r h' => r = some (vi X.1) ∧ h' = X.2) 126 [some (vr 45), some (vi l1), none, some (vi l3), some (vi l4)] [] h := by
  intro n
  induction n with
  | zero => intro h l1 l3 l4 hf; have hf2 : (none : Option (Int × Mem)) = some X := hf; cases hf2
  | succ n ih => intro h l1 l3 l4 hf; exact q_X9_roof_126 (fun (h : Mem) (l1 l3 l4 : Int) => p_X9_roof_L126     n h l1 l3 l4) h     l1 l3 l4 (fun h l1 l3 l4 hf => ih h l1 l3 l4 hf) hf
def p_X9_roof (h : Mem)  (l1 l2 : Int) : Option (Int × Mem) :=
  bd (p_X9_noRoof (up h 45 0 0) l1) (fun r7 => if r7 = 0 then (if l2 = 0 then (gd (0 ≤ l1 ∧ l1 < 5) (some ((up h 45 0 0) 47 l1, (up h 45 0 0)))) else (if l2 = 1 then (gd (0 ≤ l1 ∧ l1 < 17) (some ((up h 45 0 0) 53 l1, (up h 45 0 0)))) else (if l2 = 2 then (gd (0 ≤ wr (6 + l1) ∧ wr (6 + l1) < 17) (some ((up h 45 0 0) 53 (wr (6 + l1)), (up h 45 0 0)))) else (if l2 = 3 then (p_X9_roof_L79     300 (up h 45 0 0) l1 0 0) else (if l2 = 4 then (p_X9_roof_L126     300 (up h 45 0 0) l1 0 0) else (some ((-2), (up h 45 0 0)))))))) else (some ((-1), (up h 45 0 0))))
set_option maxRecDepth 20000 in
theorem q_X9_roof (h : Mem)   (l1 l2 : Int) {X : Int × Mem} (hf : p_X9_roof h  l1 l2 = some X) : Cn m_X9_roof [vr 45, vi l1, vi l2] h (fun r h' => r = some (vi X.1) ∧ h' = X.2) := by
  unfold p_X9_roof at hf
  have key : E m_X9_roof none (fun r h' => r = some (vi X.1) ∧ h' = X.2) 0 [some (vr 45), some (vi l1), some (vi l2), none, none] [] h := by
    refine e_aload_n dX9_roof_0 rfl ?_
    refine e_iconst dX9_roof_1 ⟨by decide, by decide⟩ ?_
    refine e_putI (t := 0) (kz := 0) rfl dX9_roof_2 rfl fp_682 rfl rfl (Or.inl rfl) ?_
    refine e_aload_n dX9_roof_5 rfl ?_
    refine e_iload_n dX9_roof_6 rfl ?_
    obtain ⟨r7, e7, hf⟩ := bd_some hf
    refine e_callV1i dX9_roof_7 rfl lk_860 ⟨rfl, rfl, Nat.le_of_ble_eq_true rfl, Nat.le_of_ble_eq_true rfl⟩ rfl rfl (Nat.le_of_ble_eq_true rfl) (q_X9_noRoof (up h 45 0 0)   l1 e7) ?_
    refine e_if_eq (tgt := 15) dX9_roof_10 (by decide) (fun c10 => ?_) (fun c10 => ?_)
    · replace hf := ifp hf c10
      refine e_iconst dX9_roof_15 ⟨by decide, by decide⟩ ?_
      refine e_istore_n (ls' := [some (vr 45), some (vi l1), some (vi l2), some (vi 0), none]) dX9_roof_16 (Nat.le_of_ble_eq_true rfl) rfl ?_
      refine e_iload_n dX9_roof_17 rfl ?_
      by_cases c18_0 : l2 = 0
      · replace hf := ifp hf c18_0
        refine e_tswIn (off := 34) (tgt := 52) dX9_roof_18 (by omega) (by omega) (by rw [c18_0]; rfl) (by decide) ?_
        refine e_aload_n dX9_roof_52 rfl ?_
        refine e_getR dX9_roof_53 rfl fl_689 rfl rfl ?_
        refine e_iload_n dX9_roof_56 rfl ?_
        obtain ⟨g57, hf⟩ := gd_some hf
        refine e_iald dX9_roof_57 rfl g57 ?_
        obtain rfl := Option.some.inj hf
        exact e_ireturn dX9_roof_58 rfl ⟨rfl, rfl⟩
      replace hf := ifn hf c18_0
      by_cases c18_1 : l2 = 1
      · replace hf := ifp hf c18_1
        refine e_tswIn (off := 41) (tgt := 59) dX9_roof_18 (by omega) (by omega) (by rw [c18_1]; rfl) (by decide) ?_
        refine e_aload_n dX9_roof_59 rfl ?_
        refine e_getR dX9_roof_60 rfl fl_698 rfl rfl ?_
        refine e_iload_n dX9_roof_63 rfl ?_
        obtain ⟨g64, hf⟩ := gd_some hf
        refine e_iald dX9_roof_64 rfl g64 ?_
        obtain rfl := Option.some.inj hf
        exact e_ireturn dX9_roof_65 rfl ⟨rfl, rfl⟩
      replace hf := ifn hf c18_1
      by_cases c18_2 : l2 = 2
      · replace hf := ifp hf c18_2
        refine e_tswIn (off := 48) (tgt := 66) dX9_roof_18 (by omega) (by omega) (by rw [c18_2]; rfl) (by decide) ?_
        refine e_aload_n dX9_roof_66 rfl ?_
        refine e_getR dX9_roof_67 rfl fl_698 rfl rfl ?_
        refine e_bipush dX9_roof_70 ⟨by decide, by decide, by decide⟩ ?_
        refine e_iload_n dX9_roof_72 rfl ?_
        refine e_iadd dX9_roof_73 ?_
        obtain ⟨g74, hf⟩ := gd_some hf
        refine e_iald dX9_roof_74 rfl g74 ?_
        obtain rfl := Option.some.inj hf
        exact e_ireturn dX9_roof_75 rfl ⟨rfl, rfl⟩
      replace hf := ifn hf c18_2
      by_cases c18_3 : l2 = 3
      · replace hf := ifp hf c18_3
        refine e_tswIn (off := 58) (tgt := 76) dX9_roof_18 (by omega) (by omega) (by rw [c18_3]; rfl) (by decide) ?_
        refine e_iconst dX9_roof_76 ⟨by decide, by decide⟩ ?_
        refine e_istore (ls' := [some (vr 45), some (vi l1), some (vi l2), some (vi 0), some (vi 0)]) dX9_roof_77 (Nat.le_of_ble_eq_true rfl) rfl ?_
        exact e_mask [true, true, false, true, true] (q_X9_roof_L79        300 (up h 45 0 0) l1 0 0 hf)
      replace hf := ifn hf c18_3
      by_cases c18_4 : l2 = 4
      · replace hf := ifp hf c18_4
        refine e_tswIn (off := 105) (tgt := 123) dX9_roof_18 (by omega) (by omega) (by rw [c18_4]; rfl) (by decide) ?_
        refine e_iconst dX9_roof_123 ⟨by decide, by decide⟩ ?_
        refine e_istore (ls' := [some (vr 45), some (vi l1), some (vi l2), some (vi 0), some (vi 0)]) dX9_roof_124 (Nat.le_of_ble_eq_true rfl) rfl ?_
        exact e_mask [true, true, false, true, true] (q_X9_roof_L126        300 (up h 45 0 0) l1 0 0 hf)
      replace hf := ifn hf c18_4
      refine e_tswOut (tgt := 183) dX9_roof_18 (by omega) (by decide) ?_
      refine e_bipush dX9_roof_183 ⟨by decide, by decide, by decide⟩ ?_
      obtain rfl := Option.some.inj hf
      exact e_ireturn dX9_roof_185 rfl ⟨rfl, rfl⟩
    · replace hf := ifn hf c10
      refine e_iconst dX9_roof_13 ⟨by decide, by decide⟩ ?_
      obtain rfl := Option.some.inj hf
      exact e_ireturn dX9_roof_14 rfl ⟨rfl, rfl⟩
  exact Cn_of rfl (fun _ => Nat.le_of_ble_eq_true rfl) ⟨rfl, rfl⟩ (e_pad 2 key)
abbrev m_X9_noStar : MI := (yX9_noStar, cX9_noStar, 2, some .boolean, { frames := 1, cells := 0, slots := 0, locals := 25 })
def p_X9_noStar (h : Mem)  (l1 : Int) : Option (Int) :=
  bd (p_X9_in h l1 0 (wr ((h 45 6) - 1))) (fun r10 => if r10 = 0 then (some 1) else (some 0))
set_option maxRecDepth 20000 in
theorem q_X9_noStar (h : Mem)   (l1 : Int) {X : Int} (hf : p_X9_noStar h  l1 = some X) : Cn m_X9_noStar [vr 45, vi l1] h (fun r h' => r = some (vi X) ∧ h' = h) := by
  unfold p_X9_noStar at hf
  have key : E m_X9_noStar none (fun r h' => r = some (vi X) ∧ h' = h) 0 [some (vr 45), some (vi l1)] [] h := by
    refine e_iload_n dX9_noStar_0 rfl ?_
    refine e_i2l dX9_noStar_1 ?_
    refine e_lconst (a := 0) dX9_noStar_2 ⟨by decide, by decide, by decide⟩ ?_
    refine e_aload_n dX9_noStar_3 rfl ?_
    refine e_getI (kz := 6) rfl dX9_noStar_4 rfl fl_688 rfl rfl (Or.inl rfl) ?_
    refine e_iconst dX9_noStar_7 ⟨by decide, by decide⟩ ?_
    refine e_isub dX9_noStar_8 ?_
    refine e_i2l dX9_noStar_9 ?_
    obtain ⟨r10, e10, hf⟩ := bd_some hf
    refine e_callS3i dX9_noStar_10 rfl lk_799 ⟨rfl, rfl, Nat.le_of_ble_eq_true rfl, Nat.le_of_ble_eq_true rfl⟩ (Nat.le_of_ble_eq_true rfl) (q_X9_in h   l1 0 (wr ((h 45 6) - 1)) e10) ?_
    refine e_if_ne (tgt := 20) dX9_noStar_13 (by decide) (fun c13 => ?_) (fun c13 => ?_)
    · replace hf := ifn hf c13
      refine e_iconst dX9_noStar_20 ⟨by decide, by decide⟩ ?_
      obtain rfl := Option.some.inj hf
      exact e_zreturn dX9_noStar_21 rfl (by decide) ⟨rfl, rfl⟩
    · replace hf := ifp hf c13
      refine e_iconst dX9_noStar_16 ⟨by decide, by decide⟩ ?_
      refine e_goto (tgt := 21) dX9_noStar_17 (by decide) ?_
      obtain rfl := Option.some.inj hf
      exact e_zreturn dX9_noStar_21 rfl (by decide) ⟨rfl, rfl⟩
  exact Cn_of rfl (fun _ => Nat.le_of_ble_eq_true rfl) ⟨rfl, rfl⟩ (e_pad 0 key)
abbrev m_X9_pays : MI := (yX9_pays, cX9_pays, 7, some .int, { frames := 1, cells := 0, slots := 0, locals := 21 })
def p_X9_pays_68  (h : Mem)   (l5 : Int) : Option (Int) :=
  if 0 ≤ l5 then (some l5) else (some 0)
set_option maxRecDepth 20000 in
theorem q_X9_pays_68  (h : Mem)     (l5 : Int) {X : Int}  (hf : p_X9_pays_68  h   l5 = some X) : E m_X9_pays none (fun r h' => r = some (vi X) ∧ h' = h) 68 [some (vr 45), none, none, none, none, some (vi l5), none] [] h := by
  unfold p_X9_pays_68 at hf
  refine e_iload dX9_pays_68 rfl ?_
  refine e_if_ge (tgt := 77) dX9_pays_70 (by decide) (fun c70 => ?_) (fun c70 => ?_)
  · replace hf := ifp hf c70
    refine e_iload dX9_pays_77 rfl ?_
    obtain rfl := Option.some.inj hf
    exact e_ireturn dX9_pays_79 rfl ⟨rfl, rfl⟩
  · replace hf := ifn hf c70
    refine e_iconst dX9_pays_73 ⟨by decide, by decide⟩ ?_
    refine e_goto (tgt := 79) dX9_pays_74 (by decide) ?_
    obtain rfl := Option.some.inj hf
    exact e_ireturn dX9_pays_79 rfl ⟨rfl, rfl⟩
def p_X9_pays_59 (K11 : Int → Int → Int → Int → Int → Option (Int)) (h : Mem)   (l2 l3 l4 l6 s0 s1 : Int) : Option (Int) :=
  K11 l2 l3 l4 (wr (s0 - s1)) (wr (l6 + 1))
set_option maxRecDepth 20000 in
theorem q_X9_pays_59 (K11 : Int → Int → Int → Int → Int → Option (Int)) (h : Mem)     (l2 l3 l4 l6 s0 s1 : Int) {X : Int} (hK11 : ∀ (l2 l3 l4 l5 l6 : Int), K11 l2 l3 l4 l5 l6 = some X → E m_X9_pays none (fun r h' => r = some (vi X) ∧ h' = h) 11 [some (vr 45), none, some (vi l2), some (vi l3), some (vi l4), some (vi l5), some (vi l6)] [] h) (hf : p_X9_pays_59 K11 h   l2 l3 l4 l6 s0 s1 = some X) : E m_X9_pays none (fun r h' => r = some (vi X) ∧ h' = h) 59 [some (vr 45), none, some (vi l2), some (vi l3), some (vi l4), none, some (vi l6)] [vi s1, vi s0] h := by
  unfold p_X9_pays_59 at hf
  refine e_isub dX9_pays_59 ?_
  refine e_istore (ls' := [some (vr 45), none, some (vi l2), some (vi l3), some (vi l4), some (vi (wr (s0 - s1))), some (vi l6)]) dX9_pays_60 (Nat.le_of_ble_eq_true rfl) rfl ?_
  refine e_iinc (ls' := [some (vr 45), none, some (vi l2), some (vi l3), some (vi l4), some (vi (wr (s0 - s1))), some (vi (wr (l6 + 1)))]) dX9_pays_62 rfl (Nat.le_of_ble_eq_true rfl) rfl ?_
  refine e_goto (tgt := 11) dX9_pays_65 (by decide) ?_
  exact e_mask [true, false, true, true, true, true, true] (hK11 l2 l3 l4 (wr (s0 - s1)) (wr (l6 + 1)) hf)
def p_X9_pays_58 (K11 : Int → Int → Int → Int → Int → Option (Int)) (h : Mem)   (l2 l3 l4 l6 s0 : Int) : Option (Int) :=
  p_X9_pays_59 K11 h   l2 l3 l4 l6 s0 0
set_option maxRecDepth 20000 in
theorem q_X9_pays_58 (K11 : Int → Int → Int → Int → Int → Option (Int)) (h : Mem)     (l2 l3 l4 l6 s0 : Int) {X : Int} (hK11 : ∀ (l2 l3 l4 l5 l6 : Int), K11 l2 l3 l4 l5 l6 = some X → E m_X9_pays none (fun r h' => r = some (vi X) ∧ h' = h) 11 [some (vr 45), none, some (vi l2), some (vi l3), some (vi l4), some (vi l5), some (vi l6)] [] h) (hf : p_X9_pays_58 K11 h   l2 l3 l4 l6 s0 = some X) : E m_X9_pays none (fun r h' => r = some (vi X) ∧ h' = h) 58 [some (vr 45), none, some (vi l2), some (vi l3), some (vi l4), none, some (vi l6)] [vi s0] h := by
  unfold p_X9_pays_58 at hf
  refine e_iconst dX9_pays_58 ⟨by decide, by decide⟩ ?_
  exact e_mask [true, false, true, true, true, false, true] (q_X9_pays_59 K11 h     l2 l3 l4 l6 s0 0 hK11 hf)
def p_X9_pays_11 (K11 : Int → Int → Int → Int → Int → Option (Int)) (h : Mem)   (l2 l3 l4 l5 l6 : Int) : Option (Int) :=
  if h 45 5 ≤ l6 then (p_X9_pays_68  h   l5) else (bd (p_X9_has h (band l2 l3) l6) (fun r27 => if r27 = 0 then (p_X9_pays_58 K11 h   l2 l3 l4 l6 l5) else (gd (0 ≤ l6 ∧ l6 < 5) (gd (0 ≤ l4 ∧ l4 < 5) (bd (p_X9_far h (h 47 l6) (h 47 l4)) (fun r47 => if 1 < r47 then (p_X9_pays_58 K11 h   l2 l3 l4 l6 l5) else (p_X9_pays_59 K11 h   l2 l3 l4 l6 l5 1)))))))
set_option maxRecDepth 20000 in
theorem q_X9_pays_11 (K11 : Int → Int → Int → Int → Int → Option (Int)) (h : Mem)     (l2 l3 l4 l5 l6 : Int) {X : Int} (hK11 : ∀ (l2 l3 l4 l5 l6 : Int), K11 l2 l3 l4 l5 l6 = some X → E m_X9_pays none (fun r h' => r = some (vi X) ∧ h' = h) 11 [some (vr 45), none, some (vi l2), some (vi l3), some (vi l4), some (vi l5), some (vi l6)] [] h) (hf : p_X9_pays_11 K11 h   l2 l3 l4 l5 l6 = some X) : E m_X9_pays none (fun r h' => r = some (vi X) ∧ h' = h) 11 [some (vr 45), none, some (vi l2), some (vi l3), some (vi l4), some (vi l5), some (vi l6)] [] h := by
  unfold p_X9_pays_11 at hf
  refine e_iload dX9_pays_11 rfl ?_
  refine e_aload_n dX9_pays_13 rfl ?_
  refine e_getI (kz := 5) rfl dX9_pays_14 rfl fl_687 rfl rfl (Or.inl rfl) ?_
  refine e_icmp_ge (tgt := 68) dX9_pays_17 (by decide) (fun c17 => ?_) (fun c17 => ?_)
  · replace hf := ifp hf c17
    exact e_mask [true, false, false, false, false, true, false] (q_X9_pays_68  h     l5  hf)
  · replace hf := ifn hf c17
    refine e_iload dX9_pays_20 rfl ?_
    refine e_iload_n dX9_pays_22 rfl ?_
    refine e_iload_n dX9_pays_23 rfl ?_
    refine e_iand dX9_pays_24 ?_
    refine e_iload dX9_pays_25 rfl ?_
    obtain ⟨r27, e27, hf⟩ := bd_some hf
    refine e_callS2i dX9_pays_27 rfl lk_850 ⟨rfl, rfl, Nat.le_of_ble_eq_true rfl, Nat.le_of_ble_eq_true rfl⟩ (Nat.le_of_ble_eq_true rfl) (q_X9_has h   (band l2 l3) l6 e27) ?_
    refine e_if_eq (tgt := 58) dX9_pays_30 (by decide) (fun c30 => ?_) (fun c30 => ?_)
    · replace hf := ifp hf c30
      exact e_mask [true, false, true, true, true, false, true] (q_X9_pays_58 K11 h     l2 l3 l4 l6 l5 hK11 hf)
    · replace hf := ifn hf c30
      refine e_aload_n dX9_pays_33 rfl ?_
      refine e_getR dX9_pays_34 rfl fl_689 rfl rfl ?_
      refine e_iload dX9_pays_37 rfl ?_
      obtain ⟨g39, hf⟩ := gd_some hf
      refine e_iald dX9_pays_39 rfl g39 ?_
      refine e_aload_n dX9_pays_40 rfl ?_
      refine e_getR dX9_pays_41 rfl fl_689 rfl rfl ?_
      refine e_iload dX9_pays_44 rfl ?_
      obtain ⟨g46, hf⟩ := gd_some hf
      refine e_iald dX9_pays_46 rfl g46 ?_
      obtain ⟨r47, e47, hf⟩ := bd_some hf
      refine e_callS2i dX9_pays_47 rfl lk_853 ⟨rfl, rfl, Nat.le_of_ble_eq_true rfl, Nat.le_of_ble_eq_true rfl⟩ (Nat.le_of_ble_eq_true rfl) (q_X9_far h   (h 47 l6) (h 47 l4) e47) ?_
      refine e_iconst dX9_pays_50 ⟨by decide, by decide⟩ ?_
      refine e_icmp_gt (tgt := 58) dX9_pays_51 (by decide) (fun c51 => ?_) (fun c51 => ?_)
      · replace hf := ifp hf c51
        exact e_mask [true, false, true, true, true, false, true] (q_X9_pays_58 K11 h     l2 l3 l4 l6 l5 hK11 hf)
      · replace hf := ifn hf c51
        refine e_iconst dX9_pays_54 ⟨by decide, by decide⟩ ?_
        refine e_goto (tgt := 59) dX9_pays_55 (by decide) ?_
        exact e_mask [true, false, true, true, true, false, true] (q_X9_pays_59 K11 h     l2 l3 l4 l6 l5 1 hK11 hf)
def p_X9_pays_L11  (h : Mem)   : Nat → Int → Int → Int → Int → Int → Option (Int)
  | 0, _, _, _, _, _ => none
  | n + 1, l2, l3, l4, l5, l6 => p_X9_pays_11 (fun (l2 l3 l4 l5 l6 : Int) => p_X9_pays_L11  h   n l2 l3 l4 l5 l6) h   l2 l3 l4 l5 l6
theorem q_X9_pays_L11  (h : Mem)     {X : Int}  : ∀ (n : Nat) (l2 l3 l4 l5 l6 : Int), p_X9_pays_L11  h   n l2 l3 l4 l5 l6 = some X → E m_X9_pays none (fun r h' => r = some (vi X) ∧ h' = h) 11 [some (vr 45), none, some (vi l2), some (vi l3), some (vi l4), some (vi l5), some (vi l6)] [] h := by
  intro n
  induction n with
  | zero => intro l2 l3 l4 l5 l6 hf; have hf2 : (none : Option (Int)) = some X := hf; cases hf2
  | succ n ih => intro l2 l3 l4 l5 l6 hf; exact q_X9_pays_11 (fun (l2 l3 l4 l5 l6 : Int) => p_X9_pays_L11  h   n l2 l3 l4 l5 l6) h     l2 l3 l4 l5 l6 (fun l2 l3 l4 l5 l6 hf => ih l2 l3 l4 l5 l6 hf) hf
def p_X9_pays (h : Mem)  (l1 l2 l3 l4 : Int) : Option (Int) :=
  gd (0 ≤ l1 ∧ l1 < 4) (p_X9_pays_L11  h   300  l2 l3 l4 (h 50 l1) 0)
set_option maxRecDepth 20000 in
theorem q_X9_pays (h : Mem)   (l1 l2 l3 l4 : Int) {X : Int} (hf : p_X9_pays h  l1 l2 l3 l4 = some X) : Cn m_X9_pays [vr 45, vi l1, vi l2, vi l3, vi l4] h (fun r h' => r = some (vi X) ∧ h' = h) := by
  unfold p_X9_pays at hf
  have key : E m_X9_pays none (fun r h' => r = some (vi X) ∧ h' = h) 0 [some (vr 45), some (vi l1), some (vi l2), some (vi l3), some (vi l4), none, none] [] h := by
    refine e_aload_n dX9_pays_0 rfl ?_
    refine e_getR dX9_pays_1 rfl fl_692 rfl rfl ?_
    refine e_iload_n dX9_pays_4 rfl ?_
    obtain ⟨g5, hf⟩ := gd_some hf
    refine e_iald dX9_pays_5 rfl g5 ?_
    refine e_istore (ls' := [some (vr 45), some (vi l1), some (vi l2), some (vi l3), some (vi l4), some (vi (h 50 l1)), none]) dX9_pays_6 (Nat.le_of_ble_eq_true rfl) rfl ?_
    refine e_iconst dX9_pays_8 ⟨by decide, by decide⟩ ?_
    refine e_istore (ls' := [some (vr 45), some (vi l1), some (vi l2), some (vi l3), some (vi l4), some (vi (h 50 l1)), some (vi 0)]) dX9_pays_9 (Nat.le_of_ble_eq_true rfl) rfl ?_
    exact e_mask [true, false, true, true, true, true, true] (q_X9_pays_L11  h      300  l2 l3 l4 (h 50 l1) 0 hf)
  exact Cn_of rfl (fun _ => Nat.le_of_ble_eq_true rfl) ⟨rfl, rfl⟩ (e_pad 2 key)
theorem lk_884 : VLk "StarRightModel" 141 m_X9_pays 4 := ⟨tw_884, tw_886, twp_33, tw_10, tw_887, by decide +kernel⟩
theorem lk_880 : VLk "StarRightModel" 154 m_X9_noStar 1 := ⟨tw_880, tw_882, twp_32, tw_10, tw_883, by decide +kernel⟩
abbrev m_X9_star : MI := (yX9_star, cX9_star, 4, some .int, { frames := 4, cells := 0, slots := 0, locals := 100 })
def p_X9_star_122  (h : Mem)    : Option (Int × Mem) :=
  some (0, h)
set_option maxRecDepth 20000 in
theorem q_X9_star_122  (h : Mem)      {X : Int × Mem}  (hf : p_X9_star_122  h    = some X) : E m_X9_star none (fun r h' => r = some (vi X.1) ∧ h' = X.2) 122 [some (vr 45), none, none, none] [] h := by
  unfold p_X9_star_122 at hf
  refine e_iconst dX9_star_122 ⟨by decide, by decide⟩ ?_
  refine e_goto (tgt := 142) dX9_star_123 (by decide) ?_
  obtain rfl := Option.some.inj hf
  exact e_ireturn dX9_star_142 rfl ⟨rfl, rfl⟩
def p_X9_star (h : Mem)  (l1 l2 : Int) : Option (Int × Mem) :=
  bd (p_X9_noStar (up h 45 0 0) l1) (fun r7 => if r7 = 0 then (bd (p_X9_all (up h 45 0 0) ) (fun r21 => bd (p_X9_holder (up h 45 0 0) 53 r21 l1 ((up h 45 0 0) 53 16) ((up h 45 0 0) 45 4)) (fun r36 => if l2 = 0 then (bd (p_X9_over (up h 45 0 0) l1 ((up h 45 0 0) 53 16)) (fun r85 => some (r85, (up h 45 0 0)))) else (if l2 = 1 then (gd (0 ≤ l1 ∧ l1 < 4) (some ((up h 45 0 0) 49 l1, (up h 45 0 0)))) else (if l2 = 2 then (gd (0 ≤ l1 ∧ l1 < 4) (some ((up h 45 0 0) 50 l1, (up h 45 0 0)))) else (if l2 = 3 then (some (r36, (up h 45 0 0))) else (if l2 = 4 then (if r36 = (-9) then (p_X9_star_122  (up h 45 0 0)   ) else (if (up h 45 0 0) 53 11 = 1 then (p_X9_star_122  (up h 45 0 0)   ) else (bd (p_X9_all (up h 45 0 0) ) (fun r129 => bd (p_X9_pays (up h 45 0 0) l1 r129 ((up h 45 0 0) 53 5) r36) (fun r139 => some (r139, (up h 45 0 0))))))) else (some ((-2), (up h 45 0 0)))))))))) else (some ((-1), (up h 45 0 0))))
set_option maxRecDepth 20000 in
theorem q_X9_star (h : Mem)   (l1 l2 : Int) {X : Int × Mem} (hf : p_X9_star h  l1 l2 = some X) : Cn m_X9_star [vr 45, vi l1, vi l2] h (fun r h' => r = some (vi X.1) ∧ h' = X.2) := by
  unfold p_X9_star at hf
  have key : E m_X9_star none (fun r h' => r = some (vi X.1) ∧ h' = X.2) 0 [some (vr 45), some (vi l1), some (vi l2), none] [] h := by
    refine e_aload_n dX9_star_0 rfl ?_
    refine e_iconst dX9_star_1 ⟨by decide, by decide⟩ ?_
    refine e_putI (t := 0) (kz := 0) rfl dX9_star_2 rfl fp_682 rfl rfl (Or.inl rfl) ?_
    refine e_aload_n dX9_star_5 rfl ?_
    refine e_iload_n dX9_star_6 rfl ?_
    obtain ⟨r7, e7, hf⟩ := bd_some hf
    refine e_callV1i dX9_star_7 rfl lk_880 ⟨rfl, rfl, Nat.le_of_ble_eq_true rfl, Nat.le_of_ble_eq_true rfl⟩ rfl rfl (Nat.le_of_ble_eq_true rfl) (q_X9_noStar (up h 45 0 0)   l1 e7) ?_
    refine e_if_eq (tgt := 15) dX9_star_10 (by decide) (fun c10 => ?_) (fun c10 => ?_)
    · replace hf := ifp hf c10
      refine e_aload_n dX9_star_15 rfl ?_
      refine e_aload_n dX9_star_16 rfl ?_
      refine e_getR dX9_star_17 rfl fl_698 rfl rfl ?_
      refine e_aload_n dX9_star_20 rfl ?_
      obtain ⟨r21, e21, hf⟩ := bd_some hf
      refine e_callV0i dX9_star_21 rfl lk_842 ⟨rfl, rfl, Nat.le_of_ble_eq_true rfl, Nat.le_of_ble_eq_true rfl⟩ rfl rfl (Nat.le_of_ble_eq_true rfl) (q_X9_all (up h 45 0 0)    e21) ?_
      refine e_iload_n dX9_star_24 rfl ?_
      refine e_aload_n dX9_star_25 rfl ?_
      refine e_getR dX9_star_26 rfl fl_698 rfl rfl ?_
      refine e_bipush dX9_star_29 ⟨by decide, by decide, by decide⟩ ?_
      refine e_iald dX9_star_31 rfl (by decide) ?_
      refine e_aload_n dX9_star_32 rfl ?_
      refine e_getI (kz := 4) rfl dX9_star_33 rfl fl_686 rfl rfl (Or.inl rfl) ?_
      obtain ⟨r36, e36, hf⟩ := bd_some hf
      refine e_callV5i dX9_star_36 rfl lk_868 ⟨rfl, rfl, Nat.le_of_ble_eq_true rfl, Nat.le_of_ble_eq_true rfl⟩ rfl rfl (Nat.le_of_ble_eq_true rfl) (q_X9_holder (up h 45 0 0) 53 rfl r21 l1 ((up h 45 0 0) 53 16) ((up h 45 0 0) 45 4) e36) ?_
      refine e_istore_n (ls' := [some (vr 45), some (vi l1), some (vi l2), some (vi r36)]) dX9_star_39 (Nat.le_of_ble_eq_true rfl) rfl ?_
      refine e_iload_n dX9_star_40 rfl ?_
      by_cases c41_0 : l2 = 0
      · replace hf := ifp hf c41_0
        refine e_tswIn (off := 35) (tgt := 76) dX9_star_41 (by omega) (by omega) (by rw [c41_0]; rfl) (by decide) ?_
        refine e_aload_n dX9_star_76 rfl ?_
        refine e_iload_n dX9_star_77 rfl ?_
        refine e_aload_n dX9_star_78 rfl ?_
        refine e_getR dX9_star_79 rfl fl_698 rfl rfl ?_
        refine e_bipush dX9_star_82 ⟨by decide, by decide, by decide⟩ ?_
        refine e_iald dX9_star_84 rfl (by decide) ?_
        obtain ⟨r85, e85, hf⟩ := bd_some hf
        refine e_callV2i dX9_star_85 rfl lk_872 ⟨rfl, rfl, Nat.le_of_ble_eq_true rfl, Nat.le_of_ble_eq_true rfl⟩ rfl rfl (Nat.le_of_ble_eq_true rfl) (q_X9_over (up h 45 0 0)   l1 ((up h 45 0 0) 53 16) e85) ?_
        obtain rfl := Option.some.inj hf
        exact e_ireturn dX9_star_88 rfl ⟨rfl, rfl⟩
      replace hf := ifn hf c41_0
      by_cases c41_1 : l2 = 1
      · replace hf := ifp hf c41_1
        refine e_tswIn (off := 48) (tgt := 89) dX9_star_41 (by omega) (by omega) (by rw [c41_1]; rfl) (by decide) ?_
        refine e_aload_n dX9_star_89 rfl ?_
        refine e_getR dX9_star_90 rfl fl_691 rfl rfl ?_
        refine e_iload_n dX9_star_93 rfl ?_
        obtain ⟨g94, hf⟩ := gd_some hf
        refine e_iald dX9_star_94 rfl g94 ?_
        obtain rfl := Option.some.inj hf
        exact e_ireturn dX9_star_95 rfl ⟨rfl, rfl⟩
      replace hf := ifn hf c41_1
      by_cases c41_2 : l2 = 2
      · replace hf := ifp hf c41_2
        refine e_tswIn (off := 55) (tgt := 96) dX9_star_41 (by omega) (by omega) (by rw [c41_2]; rfl) (by decide) ?_
        refine e_aload_n dX9_star_96 rfl ?_
        refine e_getR dX9_star_97 rfl fl_692 rfl rfl ?_
        refine e_iload_n dX9_star_100 rfl ?_
        obtain ⟨g101, hf⟩ := gd_some hf
        refine e_iald dX9_star_101 rfl g101 ?_
        obtain rfl := Option.some.inj hf
        exact e_ireturn dX9_star_102 rfl ⟨rfl, rfl⟩
      replace hf := ifn hf c41_2
      by_cases c41_3 : l2 = 3
      · replace hf := ifp hf c41_3
        refine e_tswIn (off := 62) (tgt := 103) dX9_star_41 (by omega) (by omega) (by rw [c41_3]; rfl) (by decide) ?_
        refine e_iload_n dX9_star_103 rfl ?_
        obtain rfl := Option.some.inj hf
        exact e_ireturn dX9_star_104 rfl ⟨rfl, rfl⟩
      replace hf := ifn hf c41_3
      by_cases c41_4 : l2 = 4
      · replace hf := ifp hf c41_4
        refine e_tswIn (off := 64) (tgt := 105) dX9_star_41 (by omega) (by omega) (by rw [c41_4]; rfl) (by decide) ?_
        refine e_iload_n dX9_star_105 rfl ?_
        refine e_bipush dX9_star_106 ⟨by decide, by decide, by decide⟩ ?_
        refine e_icmp_eq (tgt := 122) dX9_star_108 (by decide) (fun c108 => ?_) (fun c108 => ?_)
        · replace hf := ifp hf c108
          exact e_mask [true, false, false, false] (q_X9_star_122  (up h 45 0 0)       hf)
        · replace hf := ifn hf c108
          refine e_aload_n dX9_star_111 rfl ?_
          refine e_getR dX9_star_112 rfl fl_698 rfl rfl ?_
          refine e_bipush dX9_star_115 ⟨by decide, by decide, by decide⟩ ?_
          refine e_iald dX9_star_117 rfl (by decide) ?_
          refine e_iconst dX9_star_118 ⟨by decide, by decide⟩ ?_
          refine e_icmp_ne (tgt := 126) dX9_star_119 (by decide) (fun c119 => ?_) (fun c119 => ?_)
          · replace hf := ifn hf c119
            refine e_aload_n dX9_star_126 rfl ?_
            refine e_iload_n dX9_star_127 rfl ?_
            refine e_aload_n dX9_star_128 rfl ?_
            obtain ⟨r129, e129, hf⟩ := bd_some hf
            refine e_callV0i dX9_star_129 rfl lk_842 ⟨rfl, rfl, Nat.le_of_ble_eq_true rfl, Nat.le_of_ble_eq_true rfl⟩ rfl rfl (Nat.le_of_ble_eq_true rfl) (q_X9_all (up h 45 0 0)    e129) ?_
            refine e_aload_n dX9_star_132 rfl ?_
            refine e_getR dX9_star_133 rfl fl_698 rfl rfl ?_
            refine e_iconst dX9_star_136 ⟨by decide, by decide⟩ ?_
            refine e_iald dX9_star_137 rfl (by decide) ?_
            refine e_iload_n dX9_star_138 rfl ?_
            obtain ⟨r139, e139, hf⟩ := bd_some hf
            refine e_callV4i dX9_star_139 rfl lk_884 ⟨rfl, rfl, Nat.le_of_ble_eq_true rfl, Nat.le_of_ble_eq_true rfl⟩ rfl rfl (Nat.le_of_ble_eq_true rfl) (q_X9_pays (up h 45 0 0)   l1 r129 ((up h 45 0 0) 53 5) r36 e139) ?_
            obtain rfl := Option.some.inj hf
            exact e_ireturn dX9_star_142 rfl ⟨rfl, rfl⟩
          · replace hf := ifp hf c119
            exact e_mask [true, false, false, false] (q_X9_star_122  (up h 45 0 0)       hf)
      replace hf := ifn hf c41_4
      refine e_tswOut (tgt := 143) dX9_star_41 (by omega) (by decide) ?_
      refine e_bipush dX9_star_143 ⟨by decide, by decide, by decide⟩ ?_
      obtain rfl := Option.some.inj hf
      exact e_ireturn dX9_star_145 rfl ⟨rfl, rfl⟩
    · replace hf := ifn hf c10
      refine e_iconst dX9_star_13 ⟨by decide, by decide⟩ ?_
      obtain rfl := Option.some.inj hf
      exact e_ireturn dX9_star_14 rfl ⟨rfl, rfl⟩
  exact Cn_of rfl (fun _ => Nat.le_of_ble_eq_true rfl) ⟨rfl, rfl⟩ (e_pad 1 key)
abbrev m_X9_purse : MI := (yX9_purse, cX9_purse, 2, some .int, { frames := 1, cells := 0, slots := 0, locals := 25 })
def p_X9_purse (h : Mem)  (l1 : Int) : Option (Int × Mem) :=
  bd (p_X9_in (up h 45 0 0) l1 0 3) (fun r11 => if r11 = 0 then (some ((-1), (up h 45 0 0))) else (gd (0 ≤ wr (12 + l1) ∧ wr (12 + l1) < 17) (some ((up h 45 0 0) 53 (wr (12 + l1)), (up h 45 0 0)))))
set_option maxRecDepth 20000 in
theorem q_X9_purse (h : Mem)   (l1 : Int) {X : Int × Mem} (hf : p_X9_purse h  l1 = some X) : Cn m_X9_purse [vr 45, vi l1] h (fun r h' => r = some (vi X.1) ∧ h' = X.2) := by
  unfold p_X9_purse at hf
  have key : E m_X9_purse none (fun r h' => r = some (vi X.1) ∧ h' = X.2) 0 [some (vr 45), some (vi l1)] [] h := by
    refine e_aload_n dX9_purse_0 rfl ?_
    refine e_iconst dX9_purse_1 ⟨by decide, by decide⟩ ?_
    refine e_putI (t := 0) (kz := 0) rfl dX9_purse_2 rfl fp_682 rfl rfl (Or.inl rfl) ?_
    refine e_iload_n dX9_purse_5 rfl ?_
    refine e_i2l dX9_purse_6 ?_
    refine e_lconst (a := 0) dX9_purse_7 ⟨by decide, by decide, by decide⟩ ?_
    refine e_ldc2 (a := 3) dX9_purse_8 rfl tw_892 ⟨by decide, by decide⟩ ?_
    obtain ⟨r11, e11, hf⟩ := bd_some hf
    refine e_callS3i dX9_purse_11 rfl lk_799 ⟨rfl, rfl, Nat.le_of_ble_eq_true rfl, Nat.le_of_ble_eq_true rfl⟩ (Nat.le_of_ble_eq_true rfl) (q_X9_in (up h 45 0 0)   l1 0 3 e11) ?_
    refine e_if_eq (tgt := 29) dX9_purse_14 (by decide) (fun c14 => ?_) (fun c14 => ?_)
    · replace hf := ifp hf c14
      refine e_iconst dX9_purse_29 ⟨by decide, by decide⟩ ?_
      obtain rfl := Option.some.inj hf
      exact e_ireturn dX9_purse_30 rfl ⟨rfl, rfl⟩
    · replace hf := ifn hf c14
      refine e_aload_n dX9_purse_17 rfl ?_
      refine e_getR dX9_purse_18 rfl fl_698 rfl rfl ?_
      refine e_bipush dX9_purse_21 ⟨by decide, by decide, by decide⟩ ?_
      refine e_iload_n dX9_purse_23 rfl ?_
      refine e_iadd dX9_purse_24 ?_
      obtain ⟨g25, hf⟩ := gd_some hf
      refine e_iald dX9_purse_25 rfl g25 ?_
      refine e_goto (tgt := 30) dX9_purse_26 (by decide) ?_
      obtain rfl := Option.some.inj hf
      exact e_ireturn dX9_purse_30 rfl ⟨rfl, rfl⟩
  exact Cn_of rfl (fun _ => Nat.le_of_ble_eq_true rfl) ⟨rfl, rfl⟩ (e_pad 0 key)
abbrev m_X9_note : MI := (yX9_note, cX9_note, 2, none, { frames := 0, cells := 0, slots := 0, locals := 0 })
def p_X9_note_83  (h : Mem)    : Option (Mem) :=
  some (up h 45 19 (wr ((h 45 19) + 1)))
set_option maxRecDepth 20000 in
theorem q_X9_note_83  (h : Mem)      {X : Mem}  (hf : p_X9_note_83  h    = some X) : E m_X9_note none (fun r h' => r = none ∧ h' = X) 83 [some (vr 45), none] [] h := by
  unfold p_X9_note_83 at hf
  refine e_aload_n dX9_note_83 rfl ?_
  refine e_dup dX9_note_84 (fun _ => rfl) ?_
  refine e_getI (kz := 19) rfl dX9_note_85 rfl fl_701 rfl rfl (Or.inl rfl) ?_
  refine e_iconst dX9_note_88 ⟨by decide, by decide⟩ ?_
  refine e_iadd dX9_note_89 ?_
  refine e_putI (t := 0) (kz := 19) rfl dX9_note_90 rfl fp_701 rfl rfl (Or.inl rfl) ?_
  obtain rfl := Option.some.inj hf
  exact e_return dX9_note_93 rfl ⟨rfl, rfl⟩
def p_X9_note_51 (K51 : Mem → Int → Option (Mem)) (h : Mem)   (l1 : Int) : Option (Mem) :=
  if 17 ≤ l1 then (p_X9_note_83  h   ) else (gd (0 ≤ l1 ∧ l1 < 17) (gd (0 ≤ wr ((wr (17 * (h 45 19))) + l1) ∧ wr ((wr (17 * (h 45 19))) + l1) < 238) (K51 (up h 55 (wr ((wr (17 * (h 45 19))) + l1)) (h 53 l1)) (wr (l1 + 1)))))
set_option maxRecDepth 20000 in
theorem q_X9_note_51 (K51 : Mem → Int → Option (Mem)) (h : Mem)     (l1 : Int) {X : Mem} (hK51 : ∀ (h : Mem) (l1 : Int), K51 h l1 = some X → E m_X9_note none (fun r h' => r = none ∧ h' = X) 51 [some (vr 45), some (vi l1)] [] h) (hf : p_X9_note_51 K51 h   l1 = some X) : E m_X9_note none (fun r h' => r = none ∧ h' = X) 51 [some (vr 45), some (vi l1)] [] h := by
  unfold p_X9_note_51 at hf
  refine e_iload_n dX9_note_51 rfl ?_
  refine e_bipush dX9_note_52 ⟨by decide, by decide, by decide⟩ ?_
  refine e_icmp_ge (tgt := 83) dX9_note_54 (by decide) (fun c54 => ?_) (fun c54 => ?_)
  · replace hf := ifp hf c54
    exact e_mask [true, false] (q_X9_note_83  h       hf)
  · replace hf := ifn hf c54
    refine e_aload_n dX9_note_57 rfl ?_
    refine e_getR dX9_note_58 rfl fl_700 rfl rfl ?_
    refine e_bipush dX9_note_61 ⟨by decide, by decide, by decide⟩ ?_
    refine e_aload_n dX9_note_63 rfl ?_
    refine e_getI (kz := 19) rfl dX9_note_64 rfl fl_701 rfl rfl (Or.inl rfl) ?_
    refine e_imul dX9_note_67 ?_
    refine e_iload_n dX9_note_68 rfl ?_
    refine e_iadd dX9_note_69 ?_
    refine e_aload_n dX9_note_70 rfl ?_
    refine e_getR dX9_note_71 rfl fl_698 rfl rfl ?_
    refine e_iload_n dX9_note_74 rfl ?_
    obtain ⟨g75, hf⟩ := gd_some hf
    refine e_iald dX9_note_75 rfl g75 ?_
    obtain ⟨g76, hf⟩ := gd_some hf
    refine e_iast dX9_note_76 rfl g76 ?_
    refine e_iinc (ls' := [some (vr 45), some (vi (wr (l1 + 1)))]) dX9_note_77 rfl (Nat.le_of_ble_eq_true rfl) rfl ?_
    refine e_goto (tgt := 51) dX9_note_80 (by decide) ?_
    exact e_mask [true, true] (hK51 (up h 55 (wr ((wr (17 * (h 45 19))) + l1)) (h 53 l1)) (wr (l1 + 1)) hf)
def p_X9_note_L51     : Nat → Mem → Int → Option (Mem)
  | 0, _, _ => none
  | n + 1, h, l1 => p_X9_note_51 (fun (h : Mem) (l1 : Int) => p_X9_note_L51     n h l1) h   l1
theorem q_X9_note_L51       {X : Mem}  : ∀ (n : Nat) (h : Mem) (l1 : Int), p_X9_note_L51     n h l1 = some X → E m_X9_note none (fun r h' => r = none ∧ h' = X) 51 [some (vr 45), some (vi l1)] [] h := by
  intro n
  induction n with
  | zero => intro h l1 hf; have hf2 : (none : Option (Mem)) = some X := hf; cases hf2
  | succ n ih => intro h l1 hf; exact q_X9_note_51 (fun (h : Mem) (l1 : Int) => p_X9_note_L51     n h l1) h     l1 (fun h l1 hf => ih h l1 hf) hf
def p_X9_note_49  (h : Mem)    : Option (Mem) :=
  p_X9_note_L51     300 h 0
set_option maxRecDepth 20000 in
theorem q_X9_note_49  (h : Mem)      {X : Mem}  (hf : p_X9_note_49  h    = some X) : E m_X9_note none (fun r h' => r = none ∧ h' = X) 49 [some (vr 45), none] [] h := by
  unfold p_X9_note_49 at hf
  refine e_iconst dX9_note_49 ⟨by decide, by decide⟩ ?_
  refine e_istore_n (ls' := [some (vr 45), some (vi 0)]) dX9_note_50 (Nat.le_of_ble_eq_true rfl) rfl ?_
  exact e_mask [true, true] (q_X9_note_L51        300 h 0 hf)
def p_X9_note_39  (h : Mem)    : Option (Mem) :=
  p_X9_note_49  (up h 45 19 (wr ((h 45 19) - 1)))   
set_option maxRecDepth 20000 in
theorem q_X9_note_39  (h : Mem)      {X : Mem}  (hf : p_X9_note_39  h    = some X) : E m_X9_note none (fun r h' => r = none ∧ h' = X) 39 [some (vr 45), none] [] h := by
  unfold p_X9_note_39 at hf
  refine e_aload_n dX9_note_39 rfl ?_
  refine e_dup dX9_note_40 (fun _ => rfl) ?_
  refine e_getI (kz := 19) rfl dX9_note_41 rfl fl_701 rfl rfl (Or.inl rfl) ?_
  refine e_iconst dX9_note_44 ⟨by decide, by decide⟩ ?_
  refine e_isub dX9_note_45 ?_
  refine e_putI (t := 0) (kz := 19) rfl dX9_note_46 rfl fp_701 rfl rfl (Or.inl rfl) ?_
  exact e_mask [true, false] (q_X9_note_49  (up h 45 19 (wr ((h 45 19) - 1)))       hf)
def p_X9_note_11 (K11 : Mem → Int → Option (Mem)) (h : Mem)   (l1 : Int) : Option (Mem) :=
  if 221 ≤ l1 then (p_X9_note_39  h   ) else (gd (0 ≤ wr (l1 + 17) ∧ wr (l1 + 17) < 238) (gd (0 ≤ l1 ∧ l1 < 238) (K11 (up h 55 l1 (h 55 (wr (l1 + 17)))) (wr (l1 + 1)))))
set_option maxRecDepth 20000 in
theorem q_X9_note_11 (K11 : Mem → Int → Option (Mem)) (h : Mem)     (l1 : Int) {X : Mem} (hK11 : ∀ (h : Mem) (l1 : Int), K11 h l1 = some X → E m_X9_note none (fun r h' => r = none ∧ h' = X) 11 [some (vr 45), some (vi l1)] [] h) (hf : p_X9_note_11 K11 h   l1 = some X) : E m_X9_note none (fun r h' => r = none ∧ h' = X) 11 [some (vr 45), some (vi l1)] [] h := by
  unfold p_X9_note_11 at hf
  refine e_iload_n dX9_note_11 rfl ?_
  refine e_sipush dX9_note_12 ⟨by decide, by decide, by decide⟩ ?_
  refine e_icmp_ge (tgt := 39) dX9_note_15 (by decide) (fun c15 => ?_) (fun c15 => ?_)
  · replace hf := ifp hf c15
    exact e_mask [true, false] (q_X9_note_39  h       hf)
  · replace hf := ifn hf c15
    refine e_aload_n dX9_note_18 rfl ?_
    refine e_getR dX9_note_19 rfl fl_700 rfl rfl ?_
    refine e_iload_n dX9_note_22 rfl ?_
    refine e_aload_n dX9_note_23 rfl ?_
    refine e_getR dX9_note_24 rfl fl_700 rfl rfl ?_
    refine e_iload_n dX9_note_27 rfl ?_
    refine e_bipush dX9_note_28 ⟨by decide, by decide, by decide⟩ ?_
    refine e_iadd dX9_note_30 ?_
    obtain ⟨g31, hf⟩ := gd_some hf
    refine e_iald dX9_note_31 rfl g31 ?_
    obtain ⟨g32, hf⟩ := gd_some hf
    refine e_iast dX9_note_32 rfl g32 ?_
    refine e_iinc (ls' := [some (vr 45), some (vi (wr (l1 + 1)))]) dX9_note_33 rfl (Nat.le_of_ble_eq_true rfl) rfl ?_
    refine e_goto (tgt := 11) dX9_note_36 (by decide) ?_
    exact e_mask [true, true] (hK11 (up h 55 l1 (h 55 (wr (l1 + 17)))) (wr (l1 + 1)) hf)
def p_X9_note_L11     : Nat → Mem → Int → Option (Mem)
  | 0, _, _ => none
  | n + 1, h, l1 => p_X9_note_11 (fun (h : Mem) (l1 : Int) => p_X9_note_L11     n h l1) h   l1
theorem q_X9_note_L11       {X : Mem}  : ∀ (n : Nat) (h : Mem) (l1 : Int), p_X9_note_L11     n h l1 = some X → E m_X9_note none (fun r h' => r = none ∧ h' = X) 11 [some (vr 45), some (vi l1)] [] h := by
  intro n
  induction n with
  | zero => intro h l1 hf; have hf2 : (none : Option (Mem)) = some X := hf; cases hf2
  | succ n ih => intro h l1 hf; exact q_X9_note_11 (fun (h : Mem) (l1 : Int) => p_X9_note_L11     n h l1) h     l1 (fun h l1 hf => ih h l1 hf) hf
def p_X9_note (h : Mem)   : Option (Mem) :=
  if h 45 19 = 14 then (p_X9_note_L11     300 h 0) else (p_X9_note_49  h   )
set_option maxRecDepth 20000 in
theorem q_X9_note (h : Mem)    {X : Mem} (hf : p_X9_note h   = some X) : Cn m_X9_note [vr 45] h (fun r h' => r = none ∧ h' = X) := by
  unfold p_X9_note at hf
  have key : E m_X9_note none (fun r h' => r = none ∧ h' = X) 0 [some (vr 45), none] [] h := by
    refine e_aload_n dX9_note_0 rfl ?_
    refine e_getI (kz := 19) rfl dX9_note_1 rfl fl_701 rfl rfl (Or.inl rfl) ?_
    refine e_bipush dX9_note_4 ⟨by decide, by decide, by decide⟩ ?_
    refine e_icmp_ne (tgt := 49) dX9_note_6 (by decide) (fun c6 => ?_) (fun c6 => ?_)
    · replace hf := ifn hf c6
      exact e_mask [true, false] (q_X9_note_49  h       hf)
    · replace hf := ifp hf c6
      refine e_iconst dX9_note_9 ⟨by decide, by decide⟩ ?_
      refine e_istore_n (ls' := [some (vr 45), some (vi 0)]) dX9_note_10 (Nat.le_of_ble_eq_true rfl) rfl ?_
      exact e_mask [true, true] (q_X9_note_L11        300 h 0 hf)
  exact Cn_of rfl (fun _ => Nat.le_of_ble_eq_true rfl) ⟨rfl, rfl⟩ (e_pad 1 key)
theorem lk_898 : VLk "StarRightModel" 161 m_X9_note 0 := ⟨tw_898, tw_900, twp_34, tw_10, tw_901, by decide +kernel⟩
abbrev m_X9_build : MI := (yX9_build, cX9_build, 4, some .int, { frames := 2, cells := 0, slots := 0, locals := 46 })
def p_X9_build (h : Mem)  (l1 l2 : Int) : Option (Int × Mem) :=
  bd (p_X9_noRoof (up h 45 0 0) l1) (fun r7 => if r7 = 0 then (bd (p_X9_in (up h 45 0 0) l2 0 9) (fun r21 => if r21 = 0 then (some ((-2), (up h 45 0 0))) else (gd (0 ≤ l1 ∧ l1 < 17) (if (up h 45 0 0) 53 l1 = l2 then (some ((-3), (up h 45 0 0))) else (bd (p_X9_note (up h 45 0 0) ) (fun h46 => gd (0 ≤ l1 ∧ l1 < 17) (some ((up h 45 0 0) 53 l1, (up h46 53 l1 l2))))))))) else (some ((-1), (up h 45 0 0))))
set_option maxRecDepth 20000 in
theorem q_X9_build (h : Mem)   (l1 l2 : Int) {X : Int × Mem} (hf : p_X9_build h  l1 l2 = some X) : Cn m_X9_build [vr 45, vi l1, vi l2] h (fun r h' => r = some (vi X.1) ∧ h' = X.2) := by
  unfold p_X9_build at hf
  have key : E m_X9_build none (fun r h' => r = some (vi X.1) ∧ h' = X.2) 0 [some (vr 45), some (vi l1), some (vi l2), none] [] h := by
    refine e_aload_n dX9_build_0 rfl ?_
    refine e_iconst dX9_build_1 ⟨by decide, by decide⟩ ?_
    refine e_putI (t := 0) (kz := 0) rfl dX9_build_2 rfl fp_682 rfl rfl (Or.inl rfl) ?_
    refine e_aload_n dX9_build_5 rfl ?_
    refine e_iload_n dX9_build_6 rfl ?_
    obtain ⟨r7, e7, hf⟩ := bd_some hf
    refine e_callV1i dX9_build_7 rfl lk_860 ⟨rfl, rfl, Nat.le_of_ble_eq_true rfl, Nat.le_of_ble_eq_true rfl⟩ rfl rfl (Nat.le_of_ble_eq_true rfl) (q_X9_noRoof (up h 45 0 0)   l1 e7) ?_
    refine e_if_eq (tgt := 15) dX9_build_10 (by decide) (fun c10 => ?_) (fun c10 => ?_)
    · replace hf := ifp hf c10
      refine e_iload_n dX9_build_15 rfl ?_
      refine e_i2l dX9_build_16 ?_
      refine e_lconst (a := 0) dX9_build_17 ⟨by decide, by decide, by decide⟩ ?_
      refine e_ldc2 (a := 9) dX9_build_18 rfl tw_897 ⟨by decide, by decide⟩ ?_
      obtain ⟨r21, e21, hf⟩ := bd_some hf
      refine e_callS3i dX9_build_21 rfl lk_799 ⟨rfl, rfl, Nat.le_of_ble_eq_true rfl, Nat.le_of_ble_eq_true rfl⟩ (Nat.le_of_ble_eq_true rfl) (q_X9_in (up h 45 0 0)   l2 0 9 e21) ?_
      refine e_if_ne (tgt := 30) dX9_build_24 (by decide) (fun c24 => ?_) (fun c24 => ?_)
      · replace hf := ifn hf c24
        refine e_aload_n dX9_build_30 rfl ?_
        refine e_getR dX9_build_31 rfl fl_698 rfl rfl ?_
        refine e_iload_n dX9_build_34 rfl ?_
        obtain ⟨g35, hf⟩ := gd_some hf
        refine e_iald dX9_build_35 rfl g35 ?_
        refine e_istore_n (ls' := [some (vr 45), some (vi l1), some (vi l2), some (vi ((up h 45 0 0) 53 l1))]) dX9_build_36 (Nat.le_of_ble_eq_true rfl) rfl ?_
        refine e_iload_n dX9_build_37 rfl ?_
        refine e_iload_n dX9_build_38 rfl ?_
        refine e_icmp_ne (tgt := 45) dX9_build_39 (by decide) (fun c39 => ?_) (fun c39 => ?_)
        · replace hf := ifn hf c39
          refine e_aload_n dX9_build_45 rfl ?_
          obtain ⟨h46, e46, hf⟩ := bd_some hf
          refine e_callV0v dX9_build_46 rfl lk_898 ⟨rfl, rfl, Nat.le_of_ble_eq_true rfl, Nat.le_of_ble_eq_true rfl⟩ rfl rfl (Nat.le_of_ble_eq_true rfl) (q_X9_note (up h 45 0 0)    e46) ?_
          refine e_aload_n dX9_build_49 rfl ?_
          refine e_getR dX9_build_50 rfl fl_698 rfl rfl ?_
          refine e_iload_n dX9_build_53 rfl ?_
          refine e_iload_n dX9_build_54 rfl ?_
          obtain ⟨g55, hf⟩ := gd_some hf
          refine e_iast dX9_build_55 rfl g55 ?_
          refine e_iload_n dX9_build_56 rfl ?_
          obtain rfl := Option.some.inj hf
          exact e_ireturn dX9_build_57 rfl ⟨rfl, rfl⟩
        · replace hf := ifp hf c39
          refine e_bipush dX9_build_42 ⟨by decide, by decide, by decide⟩ ?_
          obtain rfl := Option.some.inj hf
          exact e_ireturn dX9_build_44 rfl ⟨rfl, rfl⟩
      · replace hf := ifp hf c24
        refine e_bipush dX9_build_27 ⟨by decide, by decide, by decide⟩ ?_
        obtain rfl := Option.some.inj hf
        exact e_ireturn dX9_build_29 rfl ⟨rfl, rfl⟩
    · replace hf := ifn hf c10
      refine e_iconst dX9_build_13 ⟨by decide, by decide⟩ ?_
      obtain rfl := Option.some.inj hf
      exact e_ireturn dX9_build_14 rfl ⟨rfl, rfl⟩
  exact Cn_of rfl (fun _ => Nat.le_of_ble_eq_true rfl) ⟨rfl, rfl⟩ (e_pad 1 key)
abbrev m_X9_light : MI := (yX9_light, cX9_light, 2, some .int, { frames := 2, cells := 0, slots := 0, locals := 46 })
def p_X9_light (h : Mem)  (l1 : Int) : Option (Int × Mem) :=
  bd (p_X9_noRoof (up h 45 0 0) l1) (fun r7 => if r7 = 0 then (bd (p_X9_note (up h 45 0 0) ) (fun h16 => some (band (bshr ((up h16 53 5 (bxor (h16 53 5) (bshl 1 l1))) 53 5) l1) 1, (up h16 53 5 (bxor (h16 53 5) (bshl 1 l1)))))) else (some ((-1), (up h 45 0 0))))
set_option maxRecDepth 20000 in
theorem q_X9_light (h : Mem)   (l1 : Int) {X : Int × Mem} (hf : p_X9_light h  l1 = some X) : Cn m_X9_light [vr 45, vi l1] h (fun r h' => r = some (vi X.1) ∧ h' = X.2) := by
  unfold p_X9_light at hf
  have key : E m_X9_light none (fun r h' => r = some (vi X.1) ∧ h' = X.2) 0 [some (vr 45), some (vi l1)] [] h := by
    refine e_aload_n dX9_light_0 rfl ?_
    refine e_iconst dX9_light_1 ⟨by decide, by decide⟩ ?_
    refine e_putI (t := 0) (kz := 0) rfl dX9_light_2 rfl fp_682 rfl rfl (Or.inl rfl) ?_
    refine e_aload_n dX9_light_5 rfl ?_
    refine e_iload_n dX9_light_6 rfl ?_
    obtain ⟨r7, e7, hf⟩ := bd_some hf
    refine e_callV1i dX9_light_7 rfl lk_860 ⟨rfl, rfl, Nat.le_of_ble_eq_true rfl, Nat.le_of_ble_eq_true rfl⟩ rfl rfl (Nat.le_of_ble_eq_true rfl) (q_X9_noRoof (up h 45 0 0)   l1 e7) ?_
    refine e_if_eq (tgt := 15) dX9_light_10 (by decide) (fun c10 => ?_) (fun c10 => ?_)
    · replace hf := ifp hf c10
      refine e_aload_n dX9_light_15 rfl ?_
      obtain ⟨h16, e16, hf⟩ := bd_some hf
      refine e_callV0v dX9_light_16 rfl lk_898 ⟨rfl, rfl, Nat.le_of_ble_eq_true rfl, Nat.le_of_ble_eq_true rfl⟩ rfl rfl (Nat.le_of_ble_eq_true rfl) (q_X9_note (up h 45 0 0)    e16) ?_
      refine e_aload_n dX9_light_19 rfl ?_
      refine e_getR dX9_light_20 rfl fl_698 rfl rfl ?_
      refine e_iconst dX9_light_23 ⟨by decide, by decide⟩ ?_
      refine e_dup2 dX9_light_24 (fun _ => rfl) (fun _ => rfl) ?_
      refine e_iald dX9_light_25 rfl (by decide) ?_
      refine e_iconst dX9_light_26 ⟨by decide, by decide⟩ ?_
      refine e_iload_n dX9_light_27 rfl ?_
      refine e_ishl dX9_light_28 ?_
      refine e_ixor dX9_light_29 ?_
      refine e_iast dX9_light_30 rfl (by decide) ?_
      refine e_aload_n dX9_light_31 rfl ?_
      refine e_getR dX9_light_32 rfl fl_698 rfl rfl ?_
      refine e_iconst dX9_light_35 ⟨by decide, by decide⟩ ?_
      refine e_iald dX9_light_36 rfl (by decide) ?_
      refine e_iload_n dX9_light_37 rfl ?_
      refine e_ishr dX9_light_38 ?_
      refine e_iconst dX9_light_39 ⟨by decide, by decide⟩ ?_
      refine e_iand dX9_light_40 ?_
      obtain rfl := Option.some.inj hf
      exact e_ireturn dX9_light_41 rfl ⟨rfl, rfl⟩
    · replace hf := ifn hf c10
      refine e_iconst dX9_light_13 ⟨by decide, by decide⟩ ?_
      obtain rfl := Option.some.inj hf
      exact e_ireturn dX9_light_14 rfl ⟨rfl, rfl⟩
  exact Cn_of rfl (fun _ => Nat.le_of_ble_eq_true rfl) ⟨rfl, rfl⟩ (e_pad 0 key)
abbrev m_X9_sell : MI := (yX9_sell, cX9_sell, 4, some .int, { frames := 2, cells := 0, slots := 0, locals := 46 })
def p_X9_sell (h : Mem)  (l1 l2 : Int) : Option (Int × Mem) :=
  bd (p_X9_noRoof (up h 45 0 0) l1) (fun r7 => if r7 = 0 then (bd (p_X9_in (up h 45 0 0) l2 0 3) (fun r19 => if r19 = 0 then (some ((-1), (up h 45 0 0))) else (gd (0 ≤ wr (6 + l1) ∧ wr (6 + l1) < 17) (if (up h 45 0 0) 53 (wr (6 + l1)) = l2 then (some ((-3), (up h 45 0 0))) else (bd (p_X9_note (up h 45 0 0) ) (fun h46 => gd (0 ≤ wr (6 + l1) ∧ wr (6 + l1) < 17) (some ((up h 45 0 0) 53 (wr (6 + l1)), (up h46 53 (wr (6 + l1)) l2))))))))) else (some ((-1), (up h 45 0 0))))
set_option maxRecDepth 20000 in
theorem q_X9_sell (h : Mem)   (l1 l2 : Int) {X : Int × Mem} (hf : p_X9_sell h  l1 l2 = some X) : Cn m_X9_sell [vr 45, vi l1, vi l2] h (fun r h' => r = some (vi X.1) ∧ h' = X.2) := by
  unfold p_X9_sell at hf
  have key : E m_X9_sell none (fun r h' => r = some (vi X.1) ∧ h' = X.2) 0 [some (vr 45), some (vi l1), some (vi l2), none] [] h := by
    refine e_aload_n dX9_sell_0 rfl ?_
    refine e_iconst dX9_sell_1 ⟨by decide, by decide⟩ ?_
    refine e_putI (t := 0) (kz := 0) rfl dX9_sell_2 rfl fp_682 rfl rfl (Or.inl rfl) ?_
    refine e_aload_n dX9_sell_5 rfl ?_
    refine e_iload_n dX9_sell_6 rfl ?_
    obtain ⟨r7, e7, hf⟩ := bd_some hf
    refine e_callV1i dX9_sell_7 rfl lk_860 ⟨rfl, rfl, Nat.le_of_ble_eq_true rfl, Nat.le_of_ble_eq_true rfl⟩ rfl rfl (Nat.le_of_ble_eq_true rfl) (q_X9_noRoof (up h 45 0 0)   l1 e7) ?_
    refine e_if_ne (tgt := 25) dX9_sell_10 (by decide) (fun c10 => ?_) (fun c10 => ?_)
    · replace hf := ifn hf c10
      refine e_iconst dX9_sell_25 ⟨by decide, by decide⟩ ?_
      obtain rfl := Option.some.inj hf
      exact e_ireturn dX9_sell_26 rfl ⟨rfl, rfl⟩
    · replace hf := ifp hf c10
      refine e_iload_n dX9_sell_13 rfl ?_
      refine e_i2l dX9_sell_14 ?_
      refine e_lconst (a := 0) dX9_sell_15 ⟨by decide, by decide, by decide⟩ ?_
      refine e_ldc2 (a := 3) dX9_sell_16 rfl tw_892 ⟨by decide, by decide⟩ ?_
      obtain ⟨r19, e19, hf⟩ := bd_some hf
      refine e_callS3i dX9_sell_19 rfl lk_799 ⟨rfl, rfl, Nat.le_of_ble_eq_true rfl, Nat.le_of_ble_eq_true rfl⟩ (Nat.le_of_ble_eq_true rfl) (q_X9_in (up h 45 0 0)   l2 0 3 e19) ?_
      refine e_if_ne (tgt := 27) dX9_sell_22 (by decide) (fun c22 => ?_) (fun c22 => ?_)
      · replace hf := ifn hf c22
        refine e_aload_n dX9_sell_27 rfl ?_
        refine e_getR dX9_sell_28 rfl fl_698 rfl rfl ?_
        refine e_bipush dX9_sell_31 ⟨by decide, by decide, by decide⟩ ?_
        refine e_iload_n dX9_sell_33 rfl ?_
        refine e_iadd dX9_sell_34 ?_
        obtain ⟨g35, hf⟩ := gd_some hf
        refine e_iald dX9_sell_35 rfl g35 ?_
        refine e_istore_n (ls' := [some (vr 45), some (vi l1), some (vi l2), some (vi ((up h 45 0 0) 53 (wr (6 + l1))))]) dX9_sell_36 (Nat.le_of_ble_eq_true rfl) rfl ?_
        refine e_iload_n dX9_sell_37 rfl ?_
        refine e_iload_n dX9_sell_38 rfl ?_
        refine e_icmp_ne (tgt := 45) dX9_sell_39 (by decide) (fun c39 => ?_) (fun c39 => ?_)
        · replace hf := ifn hf c39
          refine e_aload_n dX9_sell_45 rfl ?_
          obtain ⟨h46, e46, hf⟩ := bd_some hf
          refine e_callV0v dX9_sell_46 rfl lk_898 ⟨rfl, rfl, Nat.le_of_ble_eq_true rfl, Nat.le_of_ble_eq_true rfl⟩ rfl rfl (Nat.le_of_ble_eq_true rfl) (q_X9_note (up h 45 0 0)    e46) ?_
          refine e_aload_n dX9_sell_49 rfl ?_
          refine e_getR dX9_sell_50 rfl fl_698 rfl rfl ?_
          refine e_bipush dX9_sell_53 ⟨by decide, by decide, by decide⟩ ?_
          refine e_iload_n dX9_sell_55 rfl ?_
          refine e_iadd dX9_sell_56 ?_
          refine e_iload_n dX9_sell_57 rfl ?_
          obtain ⟨g58, hf⟩ := gd_some hf
          refine e_iast dX9_sell_58 rfl g58 ?_
          refine e_iload_n dX9_sell_59 rfl ?_
          obtain rfl := Option.some.inj hf
          exact e_ireturn dX9_sell_60 rfl ⟨rfl, rfl⟩
        · replace hf := ifp hf c39
          refine e_bipush dX9_sell_42 ⟨by decide, by decide, by decide⟩ ?_
          obtain rfl := Option.some.inj hf
          exact e_ireturn dX9_sell_44 rfl ⟨rfl, rfl⟩
      · replace hf := ifp hf c22
        refine e_iconst dX9_sell_25 ⟨by decide, by decide⟩ ?_
        obtain rfl := Option.some.inj hf
        exact e_ireturn dX9_sell_26 rfl ⟨rfl, rfl⟩
  exact Cn_of rfl (fun _ => Nat.le_of_ble_eq_true rfl) ⟨rfl, rfl⟩ (e_pad 1 key)
abbrev m_X9_clouds : MI := (yX9_clouds, cX9_clouds, 1, some .int, { frames := 1, cells := 0, slots := 0, locals := 21 })
def p_X9_clouds (h : Mem)   : Option (Int × Mem) :=
  bd (p_X9_note (up h 45 0 0) ) (fun h6 => some ((up h6 53 11 (wr (1 - (h6 53 11)))) 53 11, (up h6 53 11 (wr (1 - (h6 53 11))))))
set_option maxRecDepth 20000 in
theorem q_X9_clouds (h : Mem)    {X : Int × Mem} (hf : p_X9_clouds h   = some X) : Cn m_X9_clouds [vr 45] h (fun r h' => r = some (vi X.1) ∧ h' = X.2) := by
  unfold p_X9_clouds at hf
  have key : E m_X9_clouds none (fun r h' => r = some (vi X.1) ∧ h' = X.2) 0 [some (vr 45)] [] h := by
    refine e_aload_n dX9_clouds_0 rfl ?_
    refine e_iconst dX9_clouds_1 ⟨by decide, by decide⟩ ?_
    refine e_putI (t := 0) (kz := 0) rfl dX9_clouds_2 rfl fp_682 rfl rfl (Or.inl rfl) ?_
    refine e_aload_n dX9_clouds_5 rfl ?_
    obtain ⟨h6, e6, hf⟩ := bd_some hf
    refine e_callV0v dX9_clouds_6 rfl lk_898 ⟨rfl, rfl, Nat.le_of_ble_eq_true rfl, Nat.le_of_ble_eq_true rfl⟩ rfl rfl (Nat.le_of_ble_eq_true rfl) (q_X9_note (up h 45 0 0)    e6) ?_
    refine e_aload_n dX9_clouds_9 rfl ?_
    refine e_getR dX9_clouds_10 rfl fl_698 rfl rfl ?_
    refine e_bipush dX9_clouds_13 ⟨by decide, by decide, by decide⟩ ?_
    refine e_iconst dX9_clouds_15 ⟨by decide, by decide⟩ ?_
    refine e_aload_n dX9_clouds_16 rfl ?_
    refine e_getR dX9_clouds_17 rfl fl_698 rfl rfl ?_
    refine e_bipush dX9_clouds_20 ⟨by decide, by decide, by decide⟩ ?_
    refine e_iald dX9_clouds_22 rfl (by decide) ?_
    refine e_isub dX9_clouds_23 ?_
    refine e_iast dX9_clouds_24 rfl (by decide) ?_
    refine e_aload_n dX9_clouds_25 rfl ?_
    refine e_getR dX9_clouds_26 rfl fl_698 rfl rfl ?_
    refine e_bipush dX9_clouds_29 ⟨by decide, by decide, by decide⟩ ?_
    refine e_iald dX9_clouds_31 rfl (by decide) ?_
    obtain rfl := Option.some.inj hf
    exact e_ireturn dX9_clouds_32 rfl ⟨rfl, rfl⟩
  exact Cn_of rfl (fun _ => Nat.le_of_ble_eq_true rfl) ⟨rfl, rfl⟩ (e_pad 0 key)
abbrev m_X9_rentsOf : MI := (yX9_rentsOf, cX9_rentsOf, 11, some .int, { frames := 4, cells := 0, slots := 0, locals := 100 })
def p_X9_rentsOf_96 (K6 : Int → Int → Int → Int → Int → Int → Int → Option (Int)) (h : Mem) (p : Nat)  (l2 l3 l4 l5 l6 l7 l8 : Int) : Option (Int) :=
  K6 l2 l3 l4 l5 l6 l7 (wr (l8 + 1))
set_option maxRecDepth 20000 in
theorem q_X9_rentsOf_96 (K6 : Int → Int → Int → Int → Int → Int → Int → Option (Int)) (h : Mem) (p : Nat) (hp : kd[p]? = some (.inr (17, false)))   (l2 l3 l4 l5 l6 l7 l8 : Int) {X : Int} (hK6 : ∀ (l2 l3 l4 l5 l6 l7 l8 : Int), K6 l2 l3 l4 l5 l6 l7 l8 = some X → E m_X9_rentsOf none (fun r h' => r = some (vi X) ∧ h' = h) 6 [some (vr 45), some (vr p), some (vi l2), some (vi l3), some (vi l4), some (vi l5), some (vi l6), some (vi l7), some (vi l8), none, none] [] h) (hf : p_X9_rentsOf_96 K6 h p  l2 l3 l4 l5 l6 l7 l8 = some X) : E m_X9_rentsOf none (fun r h' => r = some (vi X) ∧ h' = h) 96 [some (vr 45), some (vr p), some (vi l2), some (vi l3), some (vi l4), some (vi l5), some (vi l6), some (vi l7), some (vi l8), none, none] [] h := by
  unfold p_X9_rentsOf_96 at hf
  refine e_iinc (ls' := [some (vr 45), some (vr p), some (vi l2), some (vi l3), some (vi l4), some (vi l5), some (vi l6), some (vi l7), some (vi (wr (l8 + 1))), none, none]) dX9_rentsOf_96 rfl (Nat.le_of_ble_eq_true rfl) rfl ?_
  refine e_goto (tgt := 6) dX9_rentsOf_99 (by decide) ?_
  exact e_mask [true, true, true, true, true, true, true, true, true, false, false] (hK6 l2 l3 l4 l5 l6 l7 (wr (l8 + 1)) hf)
def p_X9_rentsOf_90 (K6 : Int → Int → Int → Int → Int → Int → Int → Option (Int)) (K25 : Int → Int → Int → Int → Int → Int → Int → Int → Option (Int)) (h : Mem) (p : Nat)  (l2 l3 l4 l5 l6 l7 l8 l9 : Int) : Option (Int) :=
  K25 l2 l3 l4 l5 l6 l7 l8 (wr (l9 + 1))
set_option maxRecDepth 20000 in
theorem q_X9_rentsOf_90 (K6 : Int → Int → Int → Int → Int → Int → Int → Option (Int)) (K25 : Int → Int → Int → Int → Int → Int → Int → Int → Option (Int)) (h : Mem) (p : Nat) (hp : kd[p]? = some (.inr (17, false)))   (l2 l3 l4 l5 l6 l7 l8 l9 : Int) {X : Int} (hK6 : ∀ (l2 l3 l4 l5 l6 l7 l8 : Int), K6 l2 l3 l4 l5 l6 l7 l8 = some X → E m_X9_rentsOf none (fun r h' => r = some (vi X) ∧ h' = h) 6 [some (vr 45), some (vr p), some (vi l2), some (vi l3), some (vi l4), some (vi l5), some (vi l6), some (vi l7), some (vi l8), none, none] [] h) (hK25 : ∀ (l2 l3 l4 l5 l6 l7 l8 l9 : Int), K25 l2 l3 l4 l5 l6 l7 l8 l9 = some X → E m_X9_rentsOf none (fun r h' => r = some (vi X) ∧ h' = h) 25 [some (vr 45), some (vr p), some (vi l2), some (vi l3), some (vi l4), some (vi l5), some (vi l6), some (vi l7), some (vi l8), some (vi l9), none] [] h) (hf : p_X9_rentsOf_90 K6 K25 h p  l2 l3 l4 l5 l6 l7 l8 l9 = some X) : E m_X9_rentsOf none (fun r h' => r = some (vi X) ∧ h' = h) 90 [some (vr 45), some (vr p), some (vi l2), some (vi l3), some (vi l4), some (vi l5), some (vi l6), some (vi l7), some (vi l8), some (vi l9), none] [] h := by
  unfold p_X9_rentsOf_90 at hf
  refine e_iinc (ls' := [some (vr 45), some (vr p), some (vi l2), some (vi l3), some (vi l4), some (vi l5), some (vi l6), some (vi l7), some (vi l8), some (vi (wr (l9 + 1))), none]) dX9_rentsOf_90 rfl (Nat.le_of_ble_eq_true rfl) rfl ?_
  refine e_goto (tgt := 25) dX9_rentsOf_93 (by decide) ?_
  exact e_mask [true, true, true, true, true, true, true, true, true, true, false] (hK25 l2 l3 l4 l5 l6 l7 l8 (wr (l9 + 1)) hf)
def p_X9_rentsOf_73 (K6 : Int → Int → Int → Int → Int → Int → Int → Option (Int)) (K25 : Int → Int → Int → Int → Int → Int → Int → Int → Option (Int)) (h : Mem) (p : Nat)  (l2 l3 l4 l5 l6 l7 l8 l9 l10 : Int) : Option (Int) :=
  bd (p_X9_pays h l9 l2 (h p 5) l10) (fun r84 => p_X9_rentsOf_90 K6 K25 h p  l2 l3 l4 l5 l6 (wr (l7 + r84)) l8 l9)
set_option maxRecDepth 20000 in
theorem q_X9_rentsOf_73 (K6 : Int → Int → Int → Int → Int → Int → Int → Option (Int)) (K25 : Int → Int → Int → Int → Int → Int → Int → Int → Option (Int)) (h : Mem) (p : Nat) (hp : kd[p]? = some (.inr (17, false)))   (l2 l3 l4 l5 l6 l7 l8 l9 l10 : Int) {X : Int} (hK6 : ∀ (l2 l3 l4 l5 l6 l7 l8 : Int), K6 l2 l3 l4 l5 l6 l7 l8 = some X → E m_X9_rentsOf none (fun r h' => r = some (vi X) ∧ h' = h) 6 [some (vr 45), some (vr p), some (vi l2), some (vi l3), some (vi l4), some (vi l5), some (vi l6), some (vi l7), some (vi l8), none, none] [] h) (hK25 : ∀ (l2 l3 l4 l5 l6 l7 l8 l9 : Int), K25 l2 l3 l4 l5 l6 l7 l8 l9 = some X → E m_X9_rentsOf none (fun r h' => r = some (vi X) ∧ h' = h) 25 [some (vr 45), some (vr p), some (vi l2), some (vi l3), some (vi l4), some (vi l5), some (vi l6), some (vi l7), some (vi l8), some (vi l9), none] [] h) (hf : p_X9_rentsOf_73 K6 K25 h p  l2 l3 l4 l5 l6 l7 l8 l9 l10 = some X) : E m_X9_rentsOf none (fun r h' => r = some (vi X) ∧ h' = h) 73 [some (vr 45), some (vr p), some (vi l2), some (vi l3), some (vi l4), some (vi l5), some (vi l6), some (vi l7), some (vi l8), some (vi l9), some (vi l10)] [] h := by
  unfold p_X9_rentsOf_73 at hf
  refine e_iload dX9_rentsOf_73 rfl ?_
  refine e_aload_n dX9_rentsOf_75 rfl ?_
  refine e_iload dX9_rentsOf_76 rfl ?_
  refine e_iload_n dX9_rentsOf_78 rfl ?_
  refine e_aload_n dX9_rentsOf_79 rfl ?_
  refine e_iconst dX9_rentsOf_80 ⟨by decide, by decide⟩ ?_
  refine e_iald dX9_rentsOf_81 hp (by decide) ?_
  refine e_iload dX9_rentsOf_82 rfl ?_
  obtain ⟨r84, e84, hf⟩ := bd_some hf
  refine e_callV4i dX9_rentsOf_84 rfl lk_884 ⟨rfl, rfl, Nat.le_of_ble_eq_true rfl, Nat.le_of_ble_eq_true rfl⟩ rfl rfl (Nat.le_of_ble_eq_true rfl) (q_X9_pays h   l9 l2 (h p 5) l10 e84) ?_
  refine e_iadd dX9_rentsOf_87 ?_
  refine e_istore (ls' := [some (vr 45), some (vr p), some (vi l2), some (vi l3), some (vi l4), some (vi l5), some (vi l6), some (vi (wr (l7 + r84))), some (vi l8), some (vi l9), some (vi l10)]) dX9_rentsOf_88 (Nat.le_of_ble_eq_true rfl) rfl ?_
  exact e_mask [true, true, true, true, true, true, true, true, true, true, false] (q_X9_rentsOf_90 K6 K25 h p hp   l2 l3 l4 l5 l6 (wr (l7 + r84)) l8 l9 hK6 hK25 hf)
def p_X9_rentsOf_25 (K6 : Int → Int → Int → Int → Int → Int → Int → Option (Int)) (K25 : Int → Int → Int → Int → Int → Int → Int → Int → Option (Int)) (h : Mem) (p : Nat)  (l2 l3 l4 l5 l6 l7 l8 l9 : Int) : Option (Int) :=
  if h 45 6 ≤ l9 then (p_X9_rentsOf_96 K6 h p  l2 l3 l4 l5 l6 l7 l8) else (bd (p_X9_holder h p l2 l9 l8 l6) (fun r43 => if r43 = (-9) then (p_X9_rentsOf_90 K6 K25 h p  l2 l3 l4 l5 l6 l7 l8 l9) else (if l5 = 4 then (p_X9_rentsOf_73 K6 K25 h p  l2 l3 l4 l5 l6 l7 l8 l9 r43) else (gd (0 ≤ wr (6 + r43) ∧ wr (6 + r43) < 17) (if h p (wr (6 + r43)) = l5 then (p_X9_rentsOf_73 K6 K25 h p  l2 l3 l4 l5 l6 l7 l8 l9 r43) else (p_X9_rentsOf_90 K6 K25 h p  l2 l3 l4 l5 l6 l7 l8 l9))))))
set_option maxRecDepth 20000 in
theorem q_X9_rentsOf_25 (K6 : Int → Int → Int → Int → Int → Int → Int → Option (Int)) (K25 : Int → Int → Int → Int → Int → Int → Int → Int → Option (Int)) (h : Mem) (p : Nat) (hp : kd[p]? = some (.inr (17, false)))   (l2 l3 l4 l5 l6 l7 l8 l9 : Int) {X : Int} (hK6 : ∀ (l2 l3 l4 l5 l6 l7 l8 : Int), K6 l2 l3 l4 l5 l6 l7 l8 = some X → E m_X9_rentsOf none (fun r h' => r = some (vi X) ∧ h' = h) 6 [some (vr 45), some (vr p), some (vi l2), some (vi l3), some (vi l4), some (vi l5), some (vi l6), some (vi l7), some (vi l8), none, none] [] h) (hK25 : ∀ (l2 l3 l4 l5 l6 l7 l8 l9 : Int), K25 l2 l3 l4 l5 l6 l7 l8 l9 = some X → E m_X9_rentsOf none (fun r h' => r = some (vi X) ∧ h' = h) 25 [some (vr 45), some (vr p), some (vi l2), some (vi l3), some (vi l4), some (vi l5), some (vi l6), some (vi l7), some (vi l8), some (vi l9), none] [] h) (hf : p_X9_rentsOf_25 K6 K25 h p  l2 l3 l4 l5 l6 l7 l8 l9 = some X) : E m_X9_rentsOf none (fun r h' => r = some (vi X) ∧ h' = h) 25 [some (vr 45), some (vr p), some (vi l2), some (vi l3), some (vi l4), some (vi l5), some (vi l6), some (vi l7), some (vi l8), some (vi l9), none] [] h := by
  unfold p_X9_rentsOf_25 at hf
  refine e_iload dX9_rentsOf_25 rfl ?_
  refine e_aload_n dX9_rentsOf_27 rfl ?_
  refine e_getI (kz := 6) rfl dX9_rentsOf_28 rfl fl_688 rfl rfl (Or.inl rfl) ?_
  refine e_icmp_ge (tgt := 96) dX9_rentsOf_31 (by decide) (fun c31 => ?_) (fun c31 => ?_)
  · replace hf := ifp hf c31
    exact e_mask [true, true, true, true, true, true, true, true, true, false, false] (q_X9_rentsOf_96 K6 h p hp   l2 l3 l4 l5 l6 l7 l8 hK6 hf)
  · replace hf := ifn hf c31
    refine e_aload_n dX9_rentsOf_34 rfl ?_
    refine e_aload_n dX9_rentsOf_35 rfl ?_
    refine e_iload_n dX9_rentsOf_36 rfl ?_
    refine e_iload dX9_rentsOf_37 rfl ?_
    refine e_iload dX9_rentsOf_39 rfl ?_
    refine e_iload dX9_rentsOf_41 rfl ?_
    obtain ⟨r43, e43, hf⟩ := bd_some hf
    refine e_callV5i dX9_rentsOf_43 rfl lk_868 ⟨rfl, rfl, Nat.le_of_ble_eq_true rfl, Nat.le_of_ble_eq_true rfl⟩ rfl rfl (Nat.le_of_ble_eq_true rfl) (q_X9_holder h p hp l2 l9 l8 l6 e43) ?_
    refine e_istore (ls' := [some (vr 45), some (vr p), some (vi l2), some (vi l3), some (vi l4), some (vi l5), some (vi l6), some (vi l7), some (vi l8), some (vi l9), some (vi r43)]) dX9_rentsOf_46 (Nat.le_of_ble_eq_true rfl) rfl ?_
    refine e_iload dX9_rentsOf_48 rfl ?_
    refine e_bipush dX9_rentsOf_50 ⟨by decide, by decide, by decide⟩ ?_
    refine e_icmp_eq (tgt := 90) dX9_rentsOf_52 (by decide) (fun c52 => ?_) (fun c52 => ?_)
    · replace hf := ifp hf c52
      exact e_mask [true, true, true, true, true, true, true, true, true, true, false] (q_X9_rentsOf_90 K6 K25 h p hp   l2 l3 l4 l5 l6 l7 l8 l9 hK6 hK25 hf)
    · replace hf := ifn hf c52
      refine e_iload dX9_rentsOf_55 rfl ?_
      refine e_iconst dX9_rentsOf_57 ⟨by decide, by decide⟩ ?_
      refine e_icmp_eq (tgt := 73) dX9_rentsOf_58 (by decide) (fun c58 => ?_) (fun c58 => ?_)
      · replace hf := ifp hf c58
        exact e_mask [true, true, true, true, true, true, true, true, true, true, true] (q_X9_rentsOf_73 K6 K25 h p hp   l2 l3 l4 l5 l6 l7 l8 l9 r43 hK6 hK25 hf)
      · replace hf := ifn hf c58
        refine e_aload_n dX9_rentsOf_61 rfl ?_
        refine e_bipush dX9_rentsOf_62 ⟨by decide, by decide, by decide⟩ ?_
        refine e_iload dX9_rentsOf_64 rfl ?_
        refine e_iadd dX9_rentsOf_66 ?_
        obtain ⟨g67, hf⟩ := gd_some hf
        refine e_iald dX9_rentsOf_67 hp g67 ?_
        refine e_iload dX9_rentsOf_68 rfl ?_
        refine e_icmp_ne (tgt := 90) dX9_rentsOf_70 (by decide) (fun c70 => ?_) (fun c70 => ?_)
        · replace hf := ifn hf c70
          exact e_mask [true, true, true, true, true, true, true, true, true, true, false] (q_X9_rentsOf_90 K6 K25 h p hp   l2 l3 l4 l5 l6 l7 l8 l9 hK6 hK25 hf)
        · replace hf := ifp hf c70
          exact e_mask [true, true, true, true, true, true, true, true, true, true, true] (q_X9_rentsOf_73 K6 K25 h p hp   l2 l3 l4 l5 l6 l7 l8 l9 r43 hK6 hK25 hf)
def p_X9_rentsOf_L25 (K6 : Int → Int → Int → Int → Int → Int → Int → Option (Int)) (h : Mem) (p : Nat)  : Nat → Int → Int → Int → Int → Int → Int → Int → Int → Option (Int)
  | 0, _, _, _, _, _, _, _, _ => none
  | n + 1, l2, l3, l4, l5, l6, l7, l8, l9 => p_X9_rentsOf_25 K6 (fun (l2 l3 l4 l5 l6 l7 l8 l9 : Int) => p_X9_rentsOf_L25 K6 h p  n l2 l3 l4 l5 l6 l7 l8 l9) h p  l2 l3 l4 l5 l6 l7 l8 l9
theorem q_X9_rentsOf_L25 (K6 : Int → Int → Int → Int → Int → Int → Int → Option (Int)) (h : Mem) (p : Nat) (hp : kd[p]? = some (.inr (17, false)))   {X : Int} (hK6 : ∀ (l2 l3 l4 l5 l6 l7 l8 : Int), K6 l2 l3 l4 l5 l6 l7 l8 = some X → E m_X9_rentsOf none (fun r h' => r = some (vi X) ∧ h' = h) 6 [some (vr 45), some (vr p), some (vi l2), some (vi l3), some (vi l4), some (vi l5), some (vi l6), some (vi l7), some (vi l8), none, none] [] h) : ∀ (n : Nat) (l2 l3 l4 l5 l6 l7 l8 l9 : Int), p_X9_rentsOf_L25 K6 h p  n l2 l3 l4 l5 l6 l7 l8 l9 = some X → E m_X9_rentsOf none (fun r h' => r = some (vi X) ∧ h' = h) 25 [some (vr 45), some (vr p), some (vi l2), some (vi l3), some (vi l4), some (vi l5), some (vi l6), some (vi l7), some (vi l8), some (vi l9), none] [] h := by
  intro n
  induction n with
  | zero => intro l2 l3 l4 l5 l6 l7 l8 l9 hf; have hf2 : (none : Option (Int)) = some X := hf; cases hf2
  | succ n ih => intro l2 l3 l4 l5 l6 l7 l8 l9 hf; exact q_X9_rentsOf_25 K6 (fun (l2 l3 l4 l5 l6 l7 l8 l9 : Int) => p_X9_rentsOf_L25 K6 h p  n l2 l3 l4 l5 l6 l7 l8 l9) h p hp   l2 l3 l4 l5 l6 l7 l8 l9 hK6 (fun l2 l3 l4 l5 l6 l7 l8 l9 hf => ih l2 l3 l4 l5 l6 l7 l8 l9 hf) hf
def p_X9_rentsOf_6 (K6 : Int → Int → Int → Int → Int → Int → Int → Option (Int)) (h : Mem) (p : Nat)  (l2 l3 l4 l5 l6 l7 l8 : Int) : Option (Int) :=
  if wr (l3 + l4) ≤ l8 then (some l7) else (if h p 11 = 0 then (p_X9_rentsOf_L25 K6 h p  300  l2 l3 l4 l5 l6 l7 l8 0) else (some l7))
set_option maxRecDepth 20000 in
theorem q_X9_rentsOf_6 (K6 : Int → Int → Int → Int → Int → Int → Int → Option (Int)) (h : Mem) (p : Nat) (hp : kd[p]? = some (.inr (17, false)))   (l2 l3 l4 l5 l6 l7 l8 : Int) {X : Int} (hK6 : ∀ (l2 l3 l4 l5 l6 l7 l8 : Int), K6 l2 l3 l4 l5 l6 l7 l8 = some X → E m_X9_rentsOf none (fun r h' => r = some (vi X) ∧ h' = h) 6 [some (vr 45), some (vr p), some (vi l2), some (vi l3), some (vi l4), some (vi l5), some (vi l6), some (vi l7), some (vi l8), none, none] [] h) (hf : p_X9_rentsOf_6 K6 h p  l2 l3 l4 l5 l6 l7 l8 = some X) : E m_X9_rentsOf none (fun r h' => r = some (vi X) ∧ h' = h) 6 [some (vr 45), some (vr p), some (vi l2), some (vi l3), some (vi l4), some (vi l5), some (vi l6), some (vi l7), some (vi l8), none, none] [] h := by
  unfold p_X9_rentsOf_6 at hf
  refine e_iload dX9_rentsOf_6 rfl ?_
  refine e_iload_n dX9_rentsOf_8 rfl ?_
  refine e_iload dX9_rentsOf_9 rfl ?_
  refine e_iadd dX9_rentsOf_11 ?_
  refine e_icmp_ge (tgt := 102) dX9_rentsOf_12 (by decide) (fun c12 => ?_) (fun c12 => ?_)
  · replace hf := ifp hf c12
    refine e_iload dX9_rentsOf_102 rfl ?_
    obtain rfl := Option.some.inj hf
    exact e_ireturn dX9_rentsOf_104 rfl ⟨rfl, rfl⟩
  · replace hf := ifn hf c12
    refine e_aload_n dX9_rentsOf_15 rfl ?_
    refine e_bipush dX9_rentsOf_16 ⟨by decide, by decide, by decide⟩ ?_
    refine e_iald dX9_rentsOf_18 hp (by decide) ?_
    refine e_if_ne (tgt := 102) dX9_rentsOf_19 (by decide) (fun c19 => ?_) (fun c19 => ?_)
    · replace hf := ifn hf c19
      refine e_iload dX9_rentsOf_102 rfl ?_
      obtain rfl := Option.some.inj hf
      exact e_ireturn dX9_rentsOf_104 rfl ⟨rfl, rfl⟩
    · replace hf := ifp hf c19
      refine e_iconst dX9_rentsOf_22 ⟨by decide, by decide⟩ ?_
      refine e_istore (ls' := [some (vr 45), some (vr p), some (vi l2), some (vi l3), some (vi l4), some (vi l5), some (vi l6), some (vi l7), some (vi l8), some (vi 0), none]) dX9_rentsOf_23 (Nat.le_of_ble_eq_true rfl) rfl ?_
      exact e_mask [true, true, true, true, true, true, true, true, true, true, false] (q_X9_rentsOf_L25 K6 h p hp   hK6 300  l2 l3 l4 l5 l6 l7 l8 0 hf)
def p_X9_rentsOf_L6  (h : Mem) (p : Nat)  : Nat → Int → Int → Int → Int → Int → Int → Int → Option (Int)
  | 0, _, _, _, _, _, _, _ => none
  | n + 1, l2, l3, l4, l5, l6, l7, l8 => p_X9_rentsOf_6 (fun (l2 l3 l4 l5 l6 l7 l8 : Int) => p_X9_rentsOf_L6  h p  n l2 l3 l4 l5 l6 l7 l8) h p  l2 l3 l4 l5 l6 l7 l8
theorem q_X9_rentsOf_L6  (h : Mem) (p : Nat) (hp : kd[p]? = some (.inr (17, false)))   {X : Int}  : ∀ (n : Nat) (l2 l3 l4 l5 l6 l7 l8 : Int), p_X9_rentsOf_L6  h p  n l2 l3 l4 l5 l6 l7 l8 = some X → E m_X9_rentsOf none (fun r h' => r = some (vi X) ∧ h' = h) 6 [some (vr 45), some (vr p), some (vi l2), some (vi l3), some (vi l4), some (vi l5), some (vi l6), some (vi l7), some (vi l8), none, none] [] h := by
  intro n
  induction n with
  | zero => intro l2 l3 l4 l5 l6 l7 l8 hf; have hf2 : (none : Option (Int)) = some X := hf; cases hf2
  | succ n ih => intro l2 l3 l4 l5 l6 l7 l8 hf; exact q_X9_rentsOf_6 (fun (l2 l3 l4 l5 l6 l7 l8 : Int) => p_X9_rentsOf_L6  h p  n l2 l3 l4 l5 l6 l7 l8) h p hp   l2 l3 l4 l5 l6 l7 l8 (fun l2 l3 l4 l5 l6 l7 l8 hf => ih l2 l3 l4 l5 l6 l7 l8 hf) hf
def p_X9_rentsOf (h : Mem) (p : Nat) (l2 l3 l4 l5 l6 : Int) : Option (Int) :=
  p_X9_rentsOf_L6  h p  300  l2 l3 l4 l5 l6 0 l3
set_option maxRecDepth 20000 in
theorem q_X9_rentsOf (h : Mem) (p : Nat) (hp : kd[p]? = some (.inr (17, false))) (l2 l3 l4 l5 l6 : Int) {X : Int} (hf : p_X9_rentsOf h p l2 l3 l4 l5 l6 = some X) : Cn m_X9_rentsOf [vr 45, vr p, vi l2, vi l3, vi l4, vi l5, vi l6] h (fun r h' => r = some (vi X) ∧ h' = h) := by
  unfold p_X9_rentsOf at hf
  have key : E m_X9_rentsOf none (fun r h' => r = some (vi X) ∧ h' = h) 0 [some (vr 45), some (vr p), some (vi l2), some (vi l3), some (vi l4), some (vi l5), some (vi l6), none, none, none, none] [] h := by
    refine e_iconst dX9_rentsOf_0 ⟨by decide, by decide⟩ ?_
    refine e_istore (ls' := [some (vr 45), some (vr p), some (vi l2), some (vi l3), some (vi l4), some (vi l5), some (vi l6), some (vi 0), none, none, none]) dX9_rentsOf_1 (Nat.le_of_ble_eq_true rfl) rfl ?_
    refine e_iload_n dX9_rentsOf_3 rfl ?_
    refine e_istore (ls' := [some (vr 45), some (vr p), some (vi l2), some (vi l3), some (vi l4), some (vi l5), some (vi l6), some (vi 0), some (vi l3), none, none]) dX9_rentsOf_4 (Nat.le_of_ble_eq_true rfl) rfl ?_
    exact e_mask [true, true, true, true, true, true, true, true, true, false, false] (q_X9_rentsOf_L6  h p hp    300  l2 l3 l4 l5 l6 0 l3 hf)
  exact Cn_of rfl (fun _ => Nat.le_of_ble_eq_true rfl) ⟨rfl, rfl⟩ (e_pad 4 key)
theorem lk_918 : VLk "StarRightModel" 164 m_X9_rentsOf 6 := ⟨tw_918, tw_920, twp_35, tw_10, tw_921, by decide +kernel⟩
abbrev m_X9_hour : MI := (yX9_hour, cX9_hour, 4, some .int, { frames := 5, cells := 0, slots := 0, locals := 130 })
def p_X9_hour_67  (h : Mem)   (l1 : Int) : Option (Int × Mem) :=
  some (l1, (up h 53 16 (wr ((h 53 16) + 1))))
set_option maxRecDepth 20000 in
theorem q_X9_hour_67  (h : Mem)     (l1 : Int) {X : Int × Mem}  (hf : p_X9_hour_67  h   l1 = some X) : E m_X9_hour none (fun r h' => r = some (vi X.1) ∧ h' = X.2) 67 [some (vr 45), some (vi l1), none, none] [] h := by
  unfold p_X9_hour_67 at hf
  refine e_aload_n dX9_hour_67 rfl ?_
  refine e_getR dX9_hour_68 rfl fl_698 rfl rfl ?_
  refine e_bipush dX9_hour_71 ⟨by decide, by decide, by decide⟩ ?_
  refine e_dup2 dX9_hour_73 (fun _ => rfl) (fun _ => rfl) ?_
  refine e_iald dX9_hour_74 rfl (by decide) ?_
  refine e_iconst dX9_hour_75 ⟨by decide, by decide⟩ ?_
  refine e_iadd dX9_hour_76 ?_
  refine e_iast dX9_hour_77 rfl (by decide) ?_
  refine e_iload_n dX9_hour_78 rfl ?_
  obtain rfl := Option.some.inj hf
  exact e_ireturn dX9_hour_79 rfl ⟨rfl, rfl⟩
def p_X9_hour_13 (K13 : Mem → Int → Int → Option (Int × Mem)) (h : Mem)   (l1 l2 : Int) : Option (Int × Mem) :=
  if 4 ≤ l2 then (p_X9_hour_67  h   l1) else (bd (p_X9_all h ) (fun r24 => bd (p_X9_rentsOf h 53 r24 (h 53 16) 1 l2 (h 45 4)) (fun r40 => gd (0 ≤ wr (12 + l2) ∧ wr (12 + l2) < 17) (gd (0 ≤ wr (12 + l2) ∧ wr (12 + l2) < 17) (K13 (up h 53 (wr (12 + l2)) (wr ((h 53 (wr (12 + l2))) + r40))) (wr (l1 + r40)) (wr (l2 + 1)))))))
set_option maxRecDepth 20000 in
theorem q_X9_hour_13 (K13 : Mem → Int → Int → Option (Int × Mem)) (h : Mem)     (l1 l2 : Int) {X : Int × Mem} (hK13 : ∀ (h : Mem) (l1 l2 : Int), K13 h l1 l2 = some X → E m_X9_hour none (fun r h' => r = some (vi X.1) ∧ h' = X.2) 13 [some (vr 45), some (vi l1), some (vi l2), none] [] h) (hf : p_X9_hour_13 K13 h   l1 l2 = some X) : E m_X9_hour none (fun r h' => r = some (vi X.1) ∧ h' = X.2) 13 [some (vr 45), some (vi l1), some (vi l2), none] [] h := by
  unfold p_X9_hour_13 at hf
  refine e_iload_n dX9_hour_13 rfl ?_
  refine e_iconst dX9_hour_14 ⟨by decide, by decide⟩ ?_
  refine e_icmp_ge (tgt := 67) dX9_hour_15 (by decide) (fun c15 => ?_) (fun c15 => ?_)
  · replace hf := ifp hf c15
    exact e_mask [true, true, false, false] (q_X9_hour_67  h     l1  hf)
  · replace hf := ifn hf c15
    refine e_aload_n dX9_hour_18 rfl ?_
    refine e_aload_n dX9_hour_19 rfl ?_
    refine e_getR dX9_hour_20 rfl fl_698 rfl rfl ?_
    refine e_aload_n dX9_hour_23 rfl ?_
    obtain ⟨r24, e24, hf⟩ := bd_some hf
    refine e_callV0i dX9_hour_24 rfl lk_842 ⟨rfl, rfl, Nat.le_of_ble_eq_true rfl, Nat.le_of_ble_eq_true rfl⟩ rfl rfl (Nat.le_of_ble_eq_true rfl) (q_X9_all h    e24) ?_
    refine e_aload_n dX9_hour_27 rfl ?_
    refine e_getR dX9_hour_28 rfl fl_698 rfl rfl ?_
    refine e_bipush dX9_hour_31 ⟨by decide, by decide, by decide⟩ ?_
    refine e_iald dX9_hour_33 rfl (by decide) ?_
    refine e_iconst dX9_hour_34 ⟨by decide, by decide⟩ ?_
    refine e_iload_n dX9_hour_35 rfl ?_
    refine e_aload_n dX9_hour_36 rfl ?_
    refine e_getI (kz := 4) rfl dX9_hour_37 rfl fl_686 rfl rfl (Or.inl rfl) ?_
    obtain ⟨r40, e40, hf⟩ := bd_some hf
    refine e_callV6i dX9_hour_40 rfl lk_918 ⟨rfl, rfl, Nat.le_of_ble_eq_true rfl, Nat.le_of_ble_eq_true rfl⟩ rfl rfl (Nat.le_of_ble_eq_true rfl) (q_X9_rentsOf h 53 rfl r24 (h 53 16) 1 l2 (h 45 4) e40) ?_
    refine e_istore_n (ls' := [some (vr 45), some (vi l1), some (vi l2), some (vi r40)]) dX9_hour_43 (Nat.le_of_ble_eq_true rfl) rfl ?_
    refine e_aload_n dX9_hour_44 rfl ?_
    refine e_getR dX9_hour_45 rfl fl_698 rfl rfl ?_
    refine e_bipush dX9_hour_48 ⟨by decide, by decide, by decide⟩ ?_
    refine e_iload_n dX9_hour_50 rfl ?_
    refine e_iadd dX9_hour_51 ?_
    refine e_dup2 dX9_hour_52 (fun _ => rfl) (fun _ => rfl) ?_
    obtain ⟨g53, hf⟩ := gd_some hf
    refine e_iald dX9_hour_53 rfl g53 ?_
    refine e_iload_n dX9_hour_54 rfl ?_
    refine e_iadd dX9_hour_55 ?_
    obtain ⟨g56, hf⟩ := gd_some hf
    refine e_iast dX9_hour_56 rfl g56 ?_
    refine e_iload_n dX9_hour_57 rfl ?_
    refine e_iload_n dX9_hour_58 rfl ?_
    refine e_iadd dX9_hour_59 ?_
    refine e_istore_n (ls' := [some (vr 45), some (vi (wr (l1 + r40))), some (vi l2), some (vi r40)]) dX9_hour_60 (Nat.le_of_ble_eq_true rfl) rfl ?_
    refine e_iinc (ls' := [some (vr 45), some (vi (wr (l1 + r40))), some (vi (wr (l2 + 1))), some (vi r40)]) dX9_hour_61 rfl (Nat.le_of_ble_eq_true rfl) rfl ?_
    refine e_goto (tgt := 13) dX9_hour_64 (by decide) ?_
    exact e_mask [true, true, true, false] (hK13 (up h 53 (wr (12 + l2)) (wr ((h 53 (wr (12 + l2))) + r40))) (wr (l1 + r40)) (wr (l2 + 1)) hf)
def p_X9_hour_L13     : Nat → Mem → Int → Int → Option (Int × Mem)
  | 0, _, _, _ => none
  | n + 1, h, l1, l2 => p_X9_hour_13 (fun (h : Mem) (l1 l2 : Int) => p_X9_hour_L13     n h l1 l2) h   l1 l2
theorem q_X9_hour_L13       {X : Int × Mem}  : ∀ (n : Nat) (h : Mem) (l1 l2 : Int), p_X9_hour_L13     n h l1 l2 = some X → E m_X9_hour none (fun r h' => r = some (vi X.1) ∧ h' = X.2) 13 [some (vr 45), some (vi l1), some (vi l2), none] [] h := by
  intro n
  induction n with
  | zero => intro h l1 l2 hf; have hf2 : (none : Option (Int × Mem)) = some X := hf; cases hf2
  | succ n ih => intro h l1 l2 hf; exact q_X9_hour_13 (fun (h : Mem) (l1 l2 : Int) => p_X9_hour_L13     n h l1 l2) h     l1 l2 (fun h l1 l2 hf => ih h l1 l2 hf) hf
def p_X9_hour (h : Mem)   : Option (Int × Mem) :=
  bd (p_X9_note (up h 45 0 0) ) (fun h6 => p_X9_hour_L13     300 h6 0 0)
set_option maxRecDepth 20000 in
theorem q_X9_hour (h : Mem)    {X : Int × Mem} (hf : p_X9_hour h   = some X) : Cn m_X9_hour [vr 45] h (fun r h' => r = some (vi X.1) ∧ h' = X.2) := by
  unfold p_X9_hour at hf
  have key : E m_X9_hour none (fun r h' => r = some (vi X.1) ∧ h' = X.2) 0 [some (vr 45), none, none, none] [] h := by
    refine e_aload_n dX9_hour_0 rfl ?_
    refine e_iconst dX9_hour_1 ⟨by decide, by decide⟩ ?_
    refine e_putI (t := 0) (kz := 0) rfl dX9_hour_2 rfl fp_682 rfl rfl (Or.inl rfl) ?_
    refine e_aload_n dX9_hour_5 rfl ?_
    obtain ⟨h6, e6, hf⟩ := bd_some hf
    refine e_callV0v dX9_hour_6 rfl lk_898 ⟨rfl, rfl, Nat.le_of_ble_eq_true rfl, Nat.le_of_ble_eq_true rfl⟩ rfl rfl (Nat.le_of_ble_eq_true rfl) (q_X9_note (up h 45 0 0)    e6) ?_
    refine e_iconst dX9_hour_9 ⟨by decide, by decide⟩ ?_
    refine e_istore_n (ls' := [some (vr 45), some (vi 0), none, none]) dX9_hour_10 (Nat.le_of_ble_eq_true rfl) rfl ?_
    refine e_iconst dX9_hour_11 ⟨by decide, by decide⟩ ?_
    refine e_istore_n (ls' := [some (vr 45), some (vi 0), some (vi 0), none]) dX9_hour_12 (Nat.le_of_ble_eq_true rfl) rfl ?_
    exact e_mask [true, true, true, false] (q_X9_hour_L13        300 h6 0 0 hf)
  exact Cn_of rfl (fun _ => Nat.le_of_ble_eq_true rfl) ⟨rfl, rfl⟩ (e_pad 3 key)
abbrev m_X9_undo : MI := (yX9_undo, cX9_undo, 2, some .int, { frames := 0, cells := 0, slots := 0, locals := 0 })
def p_X9_undo_59  (h : Mem)    : Option (Int × Mem) :=
  some (h 45 19, h)
set_option maxRecDepth 20000 in
theorem q_X9_undo_59  (h : Mem)      {X : Int × Mem}  (hf : p_X9_undo_59  h    = some X) : E m_X9_undo none (fun r h' => r = some (vi X.1) ∧ h' = X.2) 59 [some (vr 45), none] [] h := by
  unfold p_X9_undo_59 at hf
  refine e_aload_n dX9_undo_59 rfl ?_
  refine e_getI (kz := 19) rfl dX9_undo_60 rfl fl_701 rfl rfl (Or.inl rfl) ?_
  obtain rfl := Option.some.inj hf
  exact e_ireturn dX9_undo_63 rfl ⟨rfl, rfl⟩
def p_X9_undo_27 (K27 : Mem → Int → Option (Int × Mem)) (h : Mem)   (l1 : Int) : Option (Int × Mem) :=
  if 17 ≤ l1 then (p_X9_undo_59  h   ) else (gd (0 ≤ wr ((wr (17 * (h 45 19))) + l1) ∧ wr ((wr (17 * (h 45 19))) + l1) < 238) (gd (0 ≤ l1 ∧ l1 < 17) (K27 (up h 53 l1 (h 55 (wr ((wr (17 * (h 45 19))) + l1)))) (wr (l1 + 1)))))
set_option maxRecDepth 20000 in
theorem q_X9_undo_27 (K27 : Mem → Int → Option (Int × Mem)) (h : Mem)     (l1 : Int) {X : Int × Mem} (hK27 : ∀ (h : Mem) (l1 : Int), K27 h l1 = some X → E m_X9_undo none (fun r h' => r = some (vi X.1) ∧ h' = X.2) 27 [some (vr 45), some (vi l1)] [] h) (hf : p_X9_undo_27 K27 h   l1 = some X) : E m_X9_undo none (fun r h' => r = some (vi X.1) ∧ h' = X.2) 27 [some (vr 45), some (vi l1)] [] h := by
  unfold p_X9_undo_27 at hf
  refine e_iload_n dX9_undo_27 rfl ?_
  refine e_bipush dX9_undo_28 ⟨by decide, by decide, by decide⟩ ?_
  refine e_icmp_ge (tgt := 59) dX9_undo_30 (by decide) (fun c30 => ?_) (fun c30 => ?_)
  · replace hf := ifp hf c30
    exact e_mask [true, false] (q_X9_undo_59  h       hf)
  · replace hf := ifn hf c30
    refine e_aload_n dX9_undo_33 rfl ?_
    refine e_getR dX9_undo_34 rfl fl_698 rfl rfl ?_
    refine e_iload_n dX9_undo_37 rfl ?_
    refine e_aload_n dX9_undo_38 rfl ?_
    refine e_getR dX9_undo_39 rfl fl_700 rfl rfl ?_
    refine e_bipush dX9_undo_42 ⟨by decide, by decide, by decide⟩ ?_
    refine e_aload_n dX9_undo_44 rfl ?_
    refine e_getI (kz := 19) rfl dX9_undo_45 rfl fl_701 rfl rfl (Or.inl rfl) ?_
    refine e_imul dX9_undo_48 ?_
    refine e_iload_n dX9_undo_49 rfl ?_
    refine e_iadd dX9_undo_50 ?_
    obtain ⟨g51, hf⟩ := gd_some hf
    refine e_iald dX9_undo_51 rfl g51 ?_
    obtain ⟨g52, hf⟩ := gd_some hf
    refine e_iast dX9_undo_52 rfl g52 ?_
    refine e_iinc (ls' := [some (vr 45), some (vi (wr (l1 + 1)))]) dX9_undo_53 rfl (Nat.le_of_ble_eq_true rfl) rfl ?_
    refine e_goto (tgt := 27) dX9_undo_56 (by decide) ?_
    exact e_mask [true, true] (hK27 (up h 53 l1 (h 55 (wr ((wr (17 * (h 45 19))) + l1)))) (wr (l1 + 1)) hf)
def p_X9_undo_L27     : Nat → Mem → Int → Option (Int × Mem)
  | 0, _, _ => none
  | n + 1, h, l1 => p_X9_undo_27 (fun (h : Mem) (l1 : Int) => p_X9_undo_L27     n h l1) h   l1
theorem q_X9_undo_L27       {X : Int × Mem}  : ∀ (n : Nat) (h : Mem) (l1 : Int), p_X9_undo_L27     n h l1 = some X → E m_X9_undo none (fun r h' => r = some (vi X.1) ∧ h' = X.2) 27 [some (vr 45), some (vi l1)] [] h := by
  intro n
  induction n with
  | zero => intro h l1 hf; have hf2 : (none : Option (Int × Mem)) = some X := hf; cases hf2
  | succ n ih => intro h l1 hf; exact q_X9_undo_27 (fun (h : Mem) (l1 : Int) => p_X9_undo_L27     n h l1) h     l1 (fun h l1 hf => ih h l1 hf) hf
def p_X9_undo (h : Mem)   : Option (Int × Mem) :=
  if (up h 45 0 0) 45 19 = 0 then (some ((-3), (up h 45 0 0))) else (p_X9_undo_L27     300 (up (up h 45 0 0) 45 19 (wr (((up h 45 0 0) 45 19) - 1))) 0)
set_option maxRecDepth 20000 in
theorem q_X9_undo (h : Mem)    {X : Int × Mem} (hf : p_X9_undo h   = some X) : Cn m_X9_undo [vr 45] h (fun r h' => r = some (vi X.1) ∧ h' = X.2) := by
  unfold p_X9_undo at hf
  have key : E m_X9_undo none (fun r h' => r = some (vi X.1) ∧ h' = X.2) 0 [some (vr 45), none] [] h := by
    refine e_aload_n dX9_undo_0 rfl ?_
    refine e_iconst dX9_undo_1 ⟨by decide, by decide⟩ ?_
    refine e_putI (t := 0) (kz := 0) rfl dX9_undo_2 rfl fp_682 rfl rfl (Or.inl rfl) ?_
    refine e_aload_n dX9_undo_5 rfl ?_
    refine e_getI (kz := 19) rfl dX9_undo_6 rfl fl_701 rfl rfl (Or.inl rfl) ?_
    refine e_if_ne (tgt := 15) dX9_undo_9 (by decide) (fun c9 => ?_) (fun c9 => ?_)
    · replace hf := ifn hf c9
      refine e_aload_n dX9_undo_15 rfl ?_
      refine e_dup dX9_undo_16 (fun _ => rfl) ?_
      refine e_getI (kz := 19) rfl dX9_undo_17 rfl fl_701 rfl rfl (Or.inl rfl) ?_
      refine e_iconst dX9_undo_20 ⟨by decide, by decide⟩ ?_
      refine e_isub dX9_undo_21 ?_
      refine e_putI (t := 0) (kz := 19) rfl dX9_undo_22 rfl fp_701 rfl rfl (Or.inl rfl) ?_
      refine e_iconst dX9_undo_25 ⟨by decide, by decide⟩ ?_
      refine e_istore_n (ls' := [some (vr 45), some (vi 0)]) dX9_undo_26 (Nat.le_of_ble_eq_true rfl) rfl ?_
      exact e_mask [true, true] (q_X9_undo_L27        300 (up (up h 45 0 0) 45 19 (wr (((up h 45 0 0) 45 19) - 1))) 0 hf)
    · replace hf := ifp hf c9
      refine e_bipush dX9_undo_12 ⟨by decide, by decide, by decide⟩ ?_
      obtain rfl := Option.some.inj hf
      exact e_ireturn dX9_undo_14 rfl ⟨rfl, rfl⟩
  exact Cn_of rfl (fun _ => Nat.le_of_ble_eq_true rfl) ⟨rfl, rfl⟩ (e_pad 1 key)
abbrev m_X9_rents : MI := (yX9_rents, cX9_rents, 3, some .int, { frames := 5, cells := 0, slots := 0, locals := 130 })
def p_X9_rents (h : Mem)  (l1 l2 : Int) : Option (Int × Mem) :=
  bd (p_X9_in (up h 45 0 0) l1 0 4) (fun r11 => if r11 = 0 then (some ((-1), (up h 45 0 0))) else (bd (p_X9_in (up h 45 0 0) l2 0 12) (fun r25 => if r25 = 0 then (some ((-2), (up h 45 0 0))) else (bd (p_X9_all (up h 45 0 0) ) (fun r37 => bd (p_X9_rentsOf (up h 45 0 0) 53 r37 ((up h 45 0 0) 53 16) l2 l1 ((up h 45 0 0) 45 4)) (fun r53 => some (r53, (up h 45 0 0))))))))
set_option maxRecDepth 20000 in
theorem q_X9_rents (h : Mem)   (l1 l2 : Int) {X : Int × Mem} (hf : p_X9_rents h  l1 l2 = some X) : Cn m_X9_rents [vr 45, vi l1, vi l2] h (fun r h' => r = some (vi X.1) ∧ h' = X.2) := by
  unfold p_X9_rents at hf
  have key : E m_X9_rents none (fun r h' => r = some (vi X.1) ∧ h' = X.2) 0 [some (vr 45), some (vi l1), some (vi l2)] [] h := by
    refine e_aload_n dX9_rents_0 rfl ?_
    refine e_iconst dX9_rents_1 ⟨by decide, by decide⟩ ?_
    refine e_putI (t := 0) (kz := 0) rfl dX9_rents_2 rfl fp_682 rfl rfl (Or.inl rfl) ?_
    refine e_iload_n dX9_rents_5 rfl ?_
    refine e_i2l dX9_rents_6 ?_
    refine e_lconst (a := 0) dX9_rents_7 ⟨by decide, by decide, by decide⟩ ?_
    refine e_ldc2 (a := 4) dX9_rents_8 rfl tw_930 ⟨by decide, by decide⟩ ?_
    obtain ⟨r11, e11, hf⟩ := bd_some hf
    refine e_callS3i dX9_rents_11 rfl lk_799 ⟨rfl, rfl, Nat.le_of_ble_eq_true rfl, Nat.le_of_ble_eq_true rfl⟩ (Nat.le_of_ble_eq_true rfl) (q_X9_in (up h 45 0 0)   l1 0 4 e11) ?_
    refine e_if_ne (tgt := 19) dX9_rents_14 (by decide) (fun c14 => ?_) (fun c14 => ?_)
    · replace hf := ifn hf c14
      refine e_iload_n dX9_rents_19 rfl ?_
      refine e_i2l dX9_rents_20 ?_
      refine e_lconst (a := 0) dX9_rents_21 ⟨by decide, by decide, by decide⟩ ?_
      refine e_ldc2 (a := 12) dX9_rents_22 rfl tw_931 ⟨by decide, by decide⟩ ?_
      obtain ⟨r25, e25, hf⟩ := bd_some hf
      refine e_callS3i dX9_rents_25 rfl lk_799 ⟨rfl, rfl, Nat.le_of_ble_eq_true rfl, Nat.le_of_ble_eq_true rfl⟩ (Nat.le_of_ble_eq_true rfl) (q_X9_in (up h 45 0 0)   l2 0 12 e25) ?_
      refine e_if_eq (tgt := 59) dX9_rents_28 (by decide) (fun c28 => ?_) (fun c28 => ?_)
      · replace hf := ifp hf c28
        refine e_bipush dX9_rents_59 ⟨by decide, by decide, by decide⟩ ?_
        obtain rfl := Option.some.inj hf
        exact e_ireturn dX9_rents_61 rfl ⟨rfl, rfl⟩
      · replace hf := ifn hf c28
        refine e_aload_n dX9_rents_31 rfl ?_
        refine e_aload_n dX9_rents_32 rfl ?_
        refine e_getR dX9_rents_33 rfl fl_698 rfl rfl ?_
        refine e_aload_n dX9_rents_36 rfl ?_
        obtain ⟨r37, e37, hf⟩ := bd_some hf
        refine e_callV0i dX9_rents_37 rfl lk_842 ⟨rfl, rfl, Nat.le_of_ble_eq_true rfl, Nat.le_of_ble_eq_true rfl⟩ rfl rfl (Nat.le_of_ble_eq_true rfl) (q_X9_all (up h 45 0 0)    e37) ?_
        refine e_aload_n dX9_rents_40 rfl ?_
        refine e_getR dX9_rents_41 rfl fl_698 rfl rfl ?_
        refine e_bipush dX9_rents_44 ⟨by decide, by decide, by decide⟩ ?_
        refine e_iald dX9_rents_46 rfl (by decide) ?_
        refine e_iload_n dX9_rents_47 rfl ?_
        refine e_iload_n dX9_rents_48 rfl ?_
        refine e_aload_n dX9_rents_49 rfl ?_
        refine e_getI (kz := 4) rfl dX9_rents_50 rfl fl_686 rfl rfl (Or.inl rfl) ?_
        obtain ⟨r53, e53, hf⟩ := bd_some hf
        refine e_callV6i dX9_rents_53 rfl lk_918 ⟨rfl, rfl, Nat.le_of_ble_eq_true rfl, Nat.le_of_ble_eq_true rfl⟩ rfl rfl (Nat.le_of_ble_eq_true rfl) (q_X9_rentsOf (up h 45 0 0) 53 rfl r37 ((up h 45 0 0) 53 16) l2 l1 ((up h 45 0 0) 45 4) e53) ?_
        refine e_goto (tgt := 61) dX9_rents_56 (by decide) ?_
        obtain rfl := Option.some.inj hf
        exact e_ireturn dX9_rents_61 rfl ⟨rfl, rfl⟩
    · replace hf := ifp hf c14
      refine e_iconst dX9_rents_17 ⟨by decide, by decide⟩ ?_
      obtain rfl := Option.some.inj hf
      exact e_ireturn dX9_rents_18 rfl ⟨rfl, rfl⟩
  exact Cn_of rfl (fun _ => Nat.le_of_ble_eq_true rfl) ⟨rfl, rfl⟩ (e_pad 0 key)
abbrev m_X9_many : MI := (yX9_many, cX9_many, 3, some .int, { frames := 0, cells := 0, slots := 0, locals := 0 })
def p_X9_many_4 (K4 : Int → Int → Int → Option (Int)) (h : Mem)   (l0 l1 l2 : Int) : Option (Int) :=
  if 10 ≤ l2 then (some l1) else (K4 l0 (wr (l1 + (band (bshr l0 l2) 1))) (wr (l2 + 1)))
set_option maxRecDepth 20000 in
theorem q_X9_many_4 (K4 : Int → Int → Int → Option (Int)) (h : Mem)     (l0 l1 l2 : Int) {X : Int} (hK4 : ∀ (l0 l1 l2 : Int), K4 l0 l1 l2 = some X → E m_X9_many none (fun r h' => r = some (vi X) ∧ h' = h) 4 [some (vi l0), some (vi l1), some (vi l2)] [] h) (hf : p_X9_many_4 K4 h   l0 l1 l2 = some X) : E m_X9_many none (fun r h' => r = some (vi X) ∧ h' = h) 4 [some (vi l0), some (vi l1), some (vi l2)] [] h := by
  unfold p_X9_many_4 at hf
  refine e_iload_n dX9_many_4 rfl ?_
  refine e_bipush dX9_many_5 ⟨by decide, by decide, by decide⟩ ?_
  refine e_icmp_ge (tgt := 24) dX9_many_7 (by decide) (fun c7 => ?_) (fun c7 => ?_)
  · replace hf := ifp hf c7
    refine e_iload_n dX9_many_24 rfl ?_
    obtain rfl := Option.some.inj hf
    exact e_ireturn dX9_many_25 rfl ⟨rfl, rfl⟩
  · replace hf := ifn hf c7
    refine e_iload_n dX9_many_10 rfl ?_
    refine e_iload_n dX9_many_11 rfl ?_
    refine e_iload_n dX9_many_12 rfl ?_
    refine e_ishr dX9_many_13 ?_
    refine e_iconst dX9_many_14 ⟨by decide, by decide⟩ ?_
    refine e_iand dX9_many_15 ?_
    refine e_iadd dX9_many_16 ?_
    refine e_istore_n (ls' := [some (vi l0), some (vi (wr (l1 + (band (bshr l0 l2) 1)))), some (vi l2)]) dX9_many_17 (Nat.le_of_ble_eq_true rfl) rfl ?_
    refine e_iinc (ls' := [some (vi l0), some (vi (wr (l1 + (band (bshr l0 l2) 1)))), some (vi (wr (l2 + 1)))]) dX9_many_18 rfl (Nat.le_of_ble_eq_true rfl) rfl ?_
    refine e_goto (tgt := 4) dX9_many_21 (by decide) ?_
    exact e_mask [true, true, true] (hK4 l0 (wr (l1 + (band (bshr l0 l2) 1))) (wr (l2 + 1)) hf)
def p_X9_many_L4  (h : Mem)   : Nat → Int → Int → Int → Option (Int)
  | 0, _, _, _ => none
  | n + 1, l0, l1, l2 => p_X9_many_4 (fun (l0 l1 l2 : Int) => p_X9_many_L4  h   n l0 l1 l2) h   l0 l1 l2
theorem q_X9_many_L4  (h : Mem)     {X : Int}  : ∀ (n : Nat) (l0 l1 l2 : Int), p_X9_many_L4  h   n l0 l1 l2 = some X → E m_X9_many none (fun r h' => r = some (vi X) ∧ h' = h) 4 [some (vi l0), some (vi l1), some (vi l2)] [] h := by
  intro n
  induction n with
  | zero => intro l0 l1 l2 hf; have hf2 : (none : Option (Int)) = some X := hf; cases hf2
  | succ n ih => intro l0 l1 l2 hf; exact q_X9_many_4 (fun (l0 l1 l2 : Int) => p_X9_many_L4  h   n l0 l1 l2) h     l0 l1 l2 (fun l0 l1 l2 hf => ih l0 l1 l2 hf) hf
def p_X9_many (h : Mem)  (l0 : Int) : Option (Int) :=
  p_X9_many_L4  h   300  l0 0 0
set_option maxRecDepth 20000 in
theorem q_X9_many (h : Mem)   (l0 : Int) {X : Int} (hf : p_X9_many h  l0 = some X) : Cn m_X9_many [vi l0] h (fun r h' => r = some (vi X) ∧ h' = h) := by
  unfold p_X9_many at hf
  have key : E m_X9_many none (fun r h' => r = some (vi X) ∧ h' = h) 0 [some (vi l0), none, none] [] h := by
    refine e_iconst dX9_many_0 ⟨by decide, by decide⟩ ?_
    refine e_istore_n (ls' := [some (vi l0), some (vi 0), none]) dX9_many_1 (Nat.le_of_ble_eq_true rfl) rfl ?_
    refine e_iconst dX9_many_2 ⟨by decide, by decide⟩ ?_
    refine e_istore_n (ls' := [some (vi l0), some (vi 0), some (vi 0)]) dX9_many_3 (Nat.le_of_ble_eq_true rfl) rfl ?_
    exact e_mask [true, true, true] (q_X9_many_L4  h      300  l0 0 0 hf)
  exact Cn_of rfl (fun _ => Nat.le_of_ble_eq_true rfl) ⟨rfl, rfl⟩ (e_pad 2 key)
theorem lk_937 : SLk "StarRightModel" 174 m_X9_many 1 := ⟨tw_937, tw_938, tw_10, tw_939, by decide +kernel⟩
abbrev m_X9_hold : MI := (yX9_hold, cX9_hold, 9, some .int, { frames := 3, cells := 0, slots := 0, locals := 70 })
def p_X9_hold_186 (K36 : Mem → Int → Int → Int → Int → Option (Int × Mem)) (h : Mem)   (l1 l2 l4 s0 : Int) : Option (Int × Mem) :=
  K36 h l1 l2 s0 (wr (l4 + 1))
set_option maxRecDepth 20000 in
theorem q_X9_hold_186 (K36 : Mem → Int → Int → Int → Int → Option (Int × Mem)) (h : Mem)     (l1 l2 l4 s0 : Int) {X : Int × Mem} (hK36 : ∀ (h : Mem) (l1 l2 l3 l4 : Int), K36 h l1 l2 l3 l4 = some X → E m_X9_hold none (fun r h' => r = some (vi X.1) ∧ h' = X.2) 36 [some (vr 45), some (vi l1), some (vi l2), some (vi l3), some (vi l4), none, none, none, none] [] h) (hf : p_X9_hold_186 K36 h   l1 l2 l4 s0 = some X) : E m_X9_hold none (fun r h' => r = some (vi X.1) ∧ h' = X.2) 186 [some (vr 45), some (vi l1), some (vi l2), none, some (vi l4), none, none, none, none] [vi s0] h := by
  unfold p_X9_hold_186 at hf
  refine e_istore_n (ls' := [some (vr 45), some (vi l1), some (vi l2), some (vi s0), some (vi l4), none, none, none, none]) dX9_hold_186 (Nat.le_of_ble_eq_true rfl) rfl ?_
  refine e_iinc (ls' := [some (vr 45), some (vi l1), some (vi l2), some (vi s0), some (vi (wr (l4 + 1))), none, none, none, none]) dX9_hold_187 rfl (Nat.le_of_ble_eq_true rfl) rfl ?_
  refine e_goto (tgt := 36) dX9_hold_190 (by decide) ?_
  exact e_mask [true, true, true, true, true, false, false, false, false] (hK36 h l1 l2 s0 (wr (l4 + 1)) hf)
def p_X9_hold_175 (K36 : Mem → Int → Int → Int → Int → Option (Int × Mem)) (h : Mem)   (l1 l2 l3 l4 l5 : Int) : Option (Int × Mem) :=
  if l5 = 0 then (p_X9_hold_186 K36 h   l1 l2 l4 l3) else (p_X9_hold_186 K36 h   l1 l2 l4 l4)
set_option maxRecDepth 20000 in
theorem q_X9_hold_175 (K36 : Mem → Int → Int → Int → Int → Option (Int × Mem)) (h : Mem)     (l1 l2 l3 l4 l5 : Int) {X : Int × Mem} (hK36 : ∀ (h : Mem) (l1 l2 l3 l4 : Int), K36 h l1 l2 l3 l4 = some X → E m_X9_hold none (fun r h' => r = some (vi X.1) ∧ h' = X.2) 36 [some (vr 45), some (vi l1), some (vi l2), some (vi l3), some (vi l4), none, none, none, none] [] h) (hf : p_X9_hold_175 K36 h   l1 l2 l3 l4 l5 = some X) : E m_X9_hold none (fun r h' => r = some (vi X.1) ∧ h' = X.2) 175 [some (vr 45), some (vi l1), some (vi l2), some (vi l3), some (vi l4), some (vi l5), none, none, none] [] h := by
  unfold p_X9_hold_175 at hf
  refine e_iload dX9_hold_175 rfl ?_
  refine e_if_eq (tgt := 185) dX9_hold_177 (by decide) (fun c177 => ?_) (fun c177 => ?_)
  · replace hf := ifp hf c177
    refine e_iload_n dX9_hold_185 rfl ?_
    exact e_mask [true, true, true, false, true, false, false, false, false] (q_X9_hold_186 K36 h     l1 l2 l4 l3 hK36 hf)
  · replace hf := ifn hf c177
    refine e_iload dX9_hold_180 rfl ?_
    refine e_goto (tgt := 186) dX9_hold_182 (by decide) ?_
    exact e_mask [true, true, true, false, true, false, false, false, false] (q_X9_hold_186 K36 h     l1 l2 l4 l4 hK36 hf)
def p_X9_hold_165 (K36 : Mem → Int → Int → Int → Int → Option (Int × Mem)) (K79 : Mem → Int → Int → Int → Int → Int → Int → Option (Int × Mem)) (h : Mem)   (l1 l2 l3 l4 l6 l7 : Int) : Option (Int × Mem) :=
  K79 h l1 l2 l3 l4 l7 (wr (l6 + 1))
set_option maxRecDepth 20000 in
theorem q_X9_hold_165 (K36 : Mem → Int → Int → Int → Int → Option (Int × Mem)) (K79 : Mem → Int → Int → Int → Int → Int → Int → Option (Int × Mem)) (h : Mem)     (l1 l2 l3 l4 l6 l7 : Int) {X : Int × Mem} (hK36 : ∀ (h : Mem) (l1 l2 l3 l4 : Int), K36 h l1 l2 l3 l4 = some X → E m_X9_hold none (fun r h' => r = some (vi X.1) ∧ h' = X.2) 36 [some (vr 45), some (vi l1), some (vi l2), some (vi l3), some (vi l4), none, none, none, none] [] h) (hK79 : ∀ (h : Mem) (l1 l2 l3 l4 l5 l6 : Int), K79 h l1 l2 l3 l4 l5 l6 = some X → E m_X9_hold none (fun r h' => r = some (vi X.1) ∧ h' = X.2) 79 [some (vr 45), some (vi l1), some (vi l2), some (vi l3), some (vi l4), some (vi l5), some (vi l6), none, none] [] h) (hf : p_X9_hold_165 K36 K79 h   l1 l2 l3 l4 l6 l7 = some X) : E m_X9_hold none (fun r h' => r = some (vi X.1) ∧ h' = X.2) 165 [some (vr 45), some (vi l1), some (vi l2), some (vi l3), some (vi l4), none, some (vi l6), some (vi l7), none] [] h := by
  unfold p_X9_hold_165 at hf
  refine e_iload dX9_hold_165 rfl ?_
  refine e_istore (ls' := [some (vr 45), some (vi l1), some (vi l2), some (vi l3), some (vi l4), some (vi l7), some (vi l6), some (vi l7), none]) dX9_hold_167 (Nat.le_of_ble_eq_true rfl) rfl ?_
  refine e_iinc (ls' := [some (vr 45), some (vi l1), some (vi l2), some (vi l3), some (vi l4), some (vi l7), some (vi (wr (l6 + 1))), some (vi l7), none]) dX9_hold_169 rfl (Nat.le_of_ble_eq_true rfl) rfl ?_
  refine e_goto (tgt := 79) dX9_hold_172 (by decide) ?_
  exact e_mask [true, true, true, true, true, true, true, false, false] (hK79 h l1 l2 l3 l4 l7 (wr (l6 + 1)) hf)
def p_X9_hold_157 (K36 : Mem → Int → Int → Int → Int → Option (Int × Mem)) (K79 : Mem → Int → Int → Int → Int → Int → Int → Option (Int × Mem)) (K104 : Mem → Int → Int → Int → Int → Int → Int → Int → Option (Int × Mem)) (h : Mem)   (l1 l2 l3 l4 l6 l8 s0 : Int) : Option (Int × Mem) :=
  K104 h l1 l2 l3 l4 l6 s0 (wr (l8 + 1))
set_option maxRecDepth 20000 in
theorem q_X9_hold_157 (K36 : Mem → Int → Int → Int → Int → Option (Int × Mem)) (K79 : Mem → Int → Int → Int → Int → Int → Int → Option (Int × Mem)) (K104 : Mem → Int → Int → Int → Int → Int → Int → Int → Option (Int × Mem)) (h : Mem)     (l1 l2 l3 l4 l6 l8 s0 : Int) {X : Int × Mem} (hK36 : ∀ (h : Mem) (l1 l2 l3 l4 : Int), K36 h l1 l2 l3 l4 = some X → E m_X9_hold none (fun r h' => r = some (vi X.1) ∧ h' = X.2) 36 [some (vr 45), some (vi l1), some (vi l2), some (vi l3), some (vi l4), none, none, none, none] [] h) (hK79 : ∀ (h : Mem) (l1 l2 l3 l4 l5 l6 : Int), K79 h l1 l2 l3 l4 l5 l6 = some X → E m_X9_hold none (fun r h' => r = some (vi X.1) ∧ h' = X.2) 79 [some (vr 45), some (vi l1), some (vi l2), some (vi l3), some (vi l4), some (vi l5), some (vi l6), none, none] [] h) (hK104 : ∀ (h : Mem) (l1 l2 l3 l4 l6 l7 l8 : Int), K104 h l1 l2 l3 l4 l6 l7 l8 = some X → E m_X9_hold none (fun r h' => r = some (vi X.1) ∧ h' = X.2) 104 [some (vr 45), some (vi l1), some (vi l2), some (vi l3), some (vi l4), none, some (vi l6), some (vi l7), some (vi l8)] [] h) (hf : p_X9_hold_157 K36 K79 K104 h   l1 l2 l3 l4 l6 l8 s0 = some X) : E m_X9_hold none (fun r h' => r = some (vi X.1) ∧ h' = X.2) 157 [some (vr 45), some (vi l1), some (vi l2), some (vi l3), some (vi l4), none, some (vi l6), none, some (vi l8)] [vi s0] h := by
  unfold p_X9_hold_157 at hf
  refine e_istore (ls' := [some (vr 45), some (vi l1), some (vi l2), some (vi l3), some (vi l4), none, some (vi l6), some (vi s0), some (vi l8)]) dX9_hold_157 (Nat.le_of_ble_eq_true rfl) rfl ?_
  refine e_iinc (ls' := [some (vr 45), some (vi l1), some (vi l2), some (vi l3), some (vi l4), none, some (vi l6), some (vi s0), some (vi (wr (l8 + 1)))]) dX9_hold_159 rfl (Nat.le_of_ble_eq_true rfl) rfl ?_
  refine e_goto (tgt := 104) dX9_hold_162 (by decide) ?_
  exact e_mask [true, true, true, true, true, false, true, true, true] (hK104 h l1 l2 l3 l4 l6 s0 (wr (l8 + 1)) hf)
def p_X9_hold_152 (K36 : Mem → Int → Int → Int → Int → Option (Int × Mem)) (K79 : Mem → Int → Int → Int → Int → Int → Int → Option (Int × Mem)) (K104 : Mem → Int → Int → Int → Int → Int → Int → Int → Option (Int × Mem)) (h : Mem)   (l1 l2 l3 l4 l6 l8 : Int) : Option (Int × Mem) :=
  p_X9_hold_157 K36 K79 K104 h   l1 l2 l3 l4 l6 l8 1
set_option maxRecDepth 20000 in
theorem q_X9_hold_152 (K36 : Mem → Int → Int → Int → Int → Option (Int × Mem)) (K79 : Mem → Int → Int → Int → Int → Int → Int → Option (Int × Mem)) (K104 : Mem → Int → Int → Int → Int → Int → Int → Int → Option (Int × Mem)) (h : Mem)     (l1 l2 l3 l4 l6 l8 : Int) {X : Int × Mem} (hK36 : ∀ (h : Mem) (l1 l2 l3 l4 : Int), K36 h l1 l2 l3 l4 = some X → E m_X9_hold none (fun r h' => r = some (vi X.1) ∧ h' = X.2) 36 [some (vr 45), some (vi l1), some (vi l2), some (vi l3), some (vi l4), none, none, none, none] [] h) (hK79 : ∀ (h : Mem) (l1 l2 l3 l4 l5 l6 : Int), K79 h l1 l2 l3 l4 l5 l6 = some X → E m_X9_hold none (fun r h' => r = some (vi X.1) ∧ h' = X.2) 79 [some (vr 45), some (vi l1), some (vi l2), some (vi l3), some (vi l4), some (vi l5), some (vi l6), none, none] [] h) (hK104 : ∀ (h : Mem) (l1 l2 l3 l4 l6 l7 l8 : Int), K104 h l1 l2 l3 l4 l6 l7 l8 = some X → E m_X9_hold none (fun r h' => r = some (vi X.1) ∧ h' = X.2) 104 [some (vr 45), some (vi l1), some (vi l2), some (vi l3), some (vi l4), none, some (vi l6), some (vi l7), some (vi l8)] [] h) (hf : p_X9_hold_152 K36 K79 K104 h   l1 l2 l3 l4 l6 l8 = some X) : E m_X9_hold none (fun r h' => r = some (vi X.1) ∧ h' = X.2) 152 [some (vr 45), some (vi l1), some (vi l2), some (vi l3), some (vi l4), none, some (vi l6), none, some (vi l8)] [] h := by
  unfold p_X9_hold_152 at hf
  refine e_iconst dX9_hold_152 ⟨by decide, by decide⟩ ?_
  refine e_goto (tgt := 157) dX9_hold_153 (by decide) ?_
  exact e_mask [true, true, true, true, true, false, true, false, true] (q_X9_hold_157 K36 K79 K104 h     l1 l2 l3 l4 l6 l8 1 hK36 hK79 hK104 hf)
def p_X9_hold_156 (K36 : Mem → Int → Int → Int → Int → Option (Int × Mem)) (K79 : Mem → Int → Int → Int → Int → Int → Int → Option (Int × Mem)) (K104 : Mem → Int → Int → Int → Int → Int → Int → Int → Option (Int × Mem)) (h : Mem)   (l1 l2 l3 l4 l6 l8 : Int) : Option (Int × Mem) :=
  p_X9_hold_157 K36 K79 K104 h   l1 l2 l3 l4 l6 l8 0
set_option maxRecDepth 20000 in
theorem q_X9_hold_156 (K36 : Mem → Int → Int → Int → Int → Option (Int × Mem)) (K79 : Mem → Int → Int → Int → Int → Int → Int → Option (Int × Mem)) (K104 : Mem → Int → Int → Int → Int → Int → Int → Int → Option (Int × Mem)) (h : Mem)     (l1 l2 l3 l4 l6 l8 : Int) {X : Int × Mem} (hK36 : ∀ (h : Mem) (l1 l2 l3 l4 : Int), K36 h l1 l2 l3 l4 = some X → E m_X9_hold none (fun r h' => r = some (vi X.1) ∧ h' = X.2) 36 [some (vr 45), some (vi l1), some (vi l2), some (vi l3), some (vi l4), none, none, none, none] [] h) (hK79 : ∀ (h : Mem) (l1 l2 l3 l4 l5 l6 : Int), K79 h l1 l2 l3 l4 l5 l6 = some X → E m_X9_hold none (fun r h' => r = some (vi X.1) ∧ h' = X.2) 79 [some (vr 45), some (vi l1), some (vi l2), some (vi l3), some (vi l4), some (vi l5), some (vi l6), none, none] [] h) (hK104 : ∀ (h : Mem) (l1 l2 l3 l4 l6 l7 l8 : Int), K104 h l1 l2 l3 l4 l6 l7 l8 = some X → E m_X9_hold none (fun r h' => r = some (vi X.1) ∧ h' = X.2) 104 [some (vr 45), some (vi l1), some (vi l2), some (vi l3), some (vi l4), none, some (vi l6), some (vi l7), some (vi l8)] [] h) (hf : p_X9_hold_156 K36 K79 K104 h   l1 l2 l3 l4 l6 l8 = some X) : E m_X9_hold none (fun r h' => r = some (vi X.1) ∧ h' = X.2) 156 [some (vr 45), some (vi l1), some (vi l2), some (vi l3), some (vi l4), none, some (vi l6), none, some (vi l8)] [] h := by
  unfold p_X9_hold_156 at hf
  refine e_iconst dX9_hold_156 ⟨by decide, by decide⟩ ?_
  exact e_mask [true, true, true, true, true, false, true, false, true] (q_X9_hold_157 K36 K79 K104 h     l1 l2 l3 l4 l6 l8 0 hK36 hK79 hK104 hf)
def p_X9_hold_104 (K36 : Mem → Int → Int → Int → Int → Option (Int × Mem)) (K79 : Mem → Int → Int → Int → Int → Int → Int → Option (Int × Mem)) (K104 : Mem → Int → Int → Int → Int → Int → Int → Int → Option (Int × Mem)) (h : Mem)   (l1 l2 l3 l4 l6 l7 l8 : Int) : Option (Int × Mem) :=
  if h 45 5 ≤ l8 then (p_X9_hold_165 K36 K79 h   l1 l2 l3 l4 l6 l7) else (if l7 = 0 then (bd (p_X9_has h l4 l8) (fun r122 => if r122 = 0 then (p_X9_hold_156 K36 K79 K104 h   l1 l2 l3 l4 l6 l8) else (bd (p_X9_all h ) (fun r134 => bd (p_X9_over h l1 l6) (fun r143 => bd (p_X9_doesSee h 53 r134 l8 r143) (fun r146 => if r146 = 0 then (p_X9_hold_156 K36 K79 K104 h   l1 l2 l3 l4 l6 l8) else (p_X9_hold_152 K36 K79 K104 h   l1 l2 l3 l4 l6 l8))))))) else (p_X9_hold_152 K36 K79 K104 h   l1 l2 l3 l4 l6 l8))
set_option maxRecDepth 20000 in
theorem q_X9_hold_104 (K36 : Mem → Int → Int → Int → Int → Option (Int × Mem)) (K79 : Mem → Int → Int → Int → Int → Int → Int → Option (Int × Mem)) (K104 : Mem → Int → Int → Int → Int → Int → Int → Int → Option (Int × Mem)) (h : Mem)     (l1 l2 l3 l4 l6 l7 l8 : Int) {X : Int × Mem} (hK36 : ∀ (h : Mem) (l1 l2 l3 l4 : Int), K36 h l1 l2 l3 l4 = some X → E m_X9_hold none (fun r h' => r = some (vi X.1) ∧ h' = X.2) 36 [some (vr 45), some (vi l1), some (vi l2), some (vi l3), some (vi l4), none, none, none, none] [] h) (hK79 : ∀ (h : Mem) (l1 l2 l3 l4 l5 l6 : Int), K79 h l1 l2 l3 l4 l5 l6 = some X → E m_X9_hold none (fun r h' => r = some (vi X.1) ∧ h' = X.2) 79 [some (vr 45), some (vi l1), some (vi l2), some (vi l3), some (vi l4), some (vi l5), some (vi l6), none, none] [] h) (hK104 : ∀ (h : Mem) (l1 l2 l3 l4 l6 l7 l8 : Int), K104 h l1 l2 l3 l4 l6 l7 l8 = some X → E m_X9_hold none (fun r h' => r = some (vi X.1) ∧ h' = X.2) 104 [some (vr 45), some (vi l1), some (vi l2), some (vi l3), some (vi l4), none, some (vi l6), some (vi l7), some (vi l8)] [] h) (hf : p_X9_hold_104 K36 K79 K104 h   l1 l2 l3 l4 l6 l7 l8 = some X) : E m_X9_hold none (fun r h' => r = some (vi X.1) ∧ h' = X.2) 104 [some (vr 45), some (vi l1), some (vi l2), some (vi l3), some (vi l4), none, some (vi l6), some (vi l7), some (vi l8)] [] h := by
  unfold p_X9_hold_104 at hf
  refine e_iload dX9_hold_104 rfl ?_
  refine e_aload_n dX9_hold_106 rfl ?_
  refine e_getI (kz := 5) rfl dX9_hold_107 rfl fl_687 rfl rfl (Or.inl rfl) ?_
  refine e_icmp_ge (tgt := 165) dX9_hold_110 (by decide) (fun c110 => ?_) (fun c110 => ?_)
  · replace hf := ifp hf c110
    exact e_mask [true, true, true, true, true, false, true, true, false] (q_X9_hold_165 K36 K79 h     l1 l2 l3 l4 l6 l7 hK36 hK79 hf)
  · replace hf := ifn hf c110
    refine e_iload dX9_hold_113 rfl ?_
    refine e_if_ne (tgt := 152) dX9_hold_115 (by decide) (fun c115 => ?_) (fun c115 => ?_)
    · replace hf := ifn hf c115
      exact e_mask [true, true, true, true, true, false, true, false, true] (q_X9_hold_152 K36 K79 K104 h     l1 l2 l3 l4 l6 l8 hK36 hK79 hK104 hf)
    · replace hf := ifp hf c115
      refine e_iload dX9_hold_118 rfl ?_
      refine e_iload dX9_hold_120 rfl ?_
      obtain ⟨r122, e122, hf⟩ := bd_some hf
      refine e_callS2i dX9_hold_122 rfl lk_850 ⟨rfl, rfl, Nat.le_of_ble_eq_true rfl, Nat.le_of_ble_eq_true rfl⟩ (Nat.le_of_ble_eq_true rfl) (q_X9_has h   l4 l8 e122) ?_
      refine e_if_eq (tgt := 156) dX9_hold_125 (by decide) (fun c125 => ?_) (fun c125 => ?_)
      · replace hf := ifp hf c125
        exact e_mask [true, true, true, true, true, false, true, false, true] (q_X9_hold_156 K36 K79 K104 h     l1 l2 l3 l4 l6 l8 hK36 hK79 hK104 hf)
      · replace hf := ifn hf c125
        refine e_aload_n dX9_hold_128 rfl ?_
        refine e_aload_n dX9_hold_129 rfl ?_
        refine e_getR dX9_hold_130 rfl fl_698 rfl rfl ?_
        refine e_aload_n dX9_hold_133 rfl ?_
        obtain ⟨r134, e134, hf⟩ := bd_some hf
        refine e_callV0i dX9_hold_134 rfl lk_842 ⟨rfl, rfl, Nat.le_of_ble_eq_true rfl, Nat.le_of_ble_eq_true rfl⟩ rfl rfl (Nat.le_of_ble_eq_true rfl) (q_X9_all h    e134) ?_
        refine e_iload dX9_hold_137 rfl ?_
        refine e_aload_n dX9_hold_139 rfl ?_
        refine e_iload_n dX9_hold_140 rfl ?_
        refine e_iload dX9_hold_141 rfl ?_
        obtain ⟨r143, e143, hf⟩ := bd_some hf
        refine e_callV2i dX9_hold_143 rfl lk_872 ⟨rfl, rfl, Nat.le_of_ble_eq_true rfl, Nat.le_of_ble_eq_true rfl⟩ rfl rfl (Nat.le_of_ble_eq_true rfl) (q_X9_over h   l1 l6 e143) ?_
        obtain ⟨r146, e146, hf⟩ := bd_some hf
        refine e_callV4i dX9_hold_146 rfl lk_864 ⟨rfl, rfl, Nat.le_of_ble_eq_true rfl, Nat.le_of_ble_eq_true rfl⟩ rfl rfl (Nat.le_of_ble_eq_true rfl) (q_X9_doesSee h 53 rfl r134 l8 r143 e146) ?_
        refine e_if_eq (tgt := 156) dX9_hold_149 (by decide) (fun c149 => ?_) (fun c149 => ?_)
        · replace hf := ifp hf c149
          exact e_mask [true, true, true, true, true, false, true, false, true] (q_X9_hold_156 K36 K79 K104 h     l1 l2 l3 l4 l6 l8 hK36 hK79 hK104 hf)
        · replace hf := ifn hf c149
          exact e_mask [true, true, true, true, true, false, true, false, true] (q_X9_hold_152 K36 K79 K104 h     l1 l2 l3 l4 l6 l8 hK36 hK79 hK104 hf)
def p_X9_hold_L104 (K36 : Mem → Int → Int → Int → Int → Option (Int × Mem)) (K79 : Mem → Int → Int → Int → Int → Int → Int → Option (Int × Mem))    : Nat → Mem → Int → Int → Int → Int → Int → Int → Int → Option (Int × Mem)
  | 0, _, _, _, _, _, _, _, _ => none
  | n + 1, h, l1, l2, l3, l4, l6, l7, l8 => p_X9_hold_104 K36 K79 (fun (h : Mem) (l1 l2 l3 l4 l6 l7 l8 : Int) => p_X9_hold_L104 K36 K79    n h l1 l2 l3 l4 l6 l7 l8) h   l1 l2 l3 l4 l6 l7 l8
theorem q_X9_hold_L104 (K36 : Mem → Int → Int → Int → Int → Option (Int × Mem)) (K79 : Mem → Int → Int → Int → Int → Int → Int → Option (Int × Mem))      {X : Int × Mem} (hK36 : ∀ (h : Mem) (l1 l2 l3 l4 : Int), K36 h l1 l2 l3 l4 = some X → E m_X9_hold none (fun r h' => r = some (vi X.1) ∧ h' = X.2) 36 [some (vr 45), some (vi l1), some (vi l2), some (vi l3), some (vi l4), none, none, none, none] [] h) (hK79 : ∀ (h : Mem) (l1 l2 l3 l4 l5 l6 : Int), K79 h l1 l2 l3 l4 l5 l6 = some X → E m_X9_hold none (fun r h' => r = some (vi X.1) ∧ h' = X.2) 79 [some (vr 45), some (vi l1), some (vi l2), some (vi l3), some (vi l4), some (vi l5), some (vi l6), none, none] [] h) : ∀ (n : Nat) (h : Mem) (l1 l2 l3 l4 l6 l7 l8 : Int), p_X9_hold_L104 K36 K79    n h l1 l2 l3 l4 l6 l7 l8 = some X → E m_X9_hold none (fun r h' => r = some (vi X.1) ∧ h' = X.2) 104 [some (vr 45), some (vi l1), some (vi l2), some (vi l3), some (vi l4), none, some (vi l6), some (vi l7), some (vi l8)] [] h := by
  intro n
  induction n with
  | zero => intro h l1 l2 l3 l4 l6 l7 l8 hf; have hf2 : (none : Option (Int × Mem)) = some X := hf; cases hf2
  | succ n ih => intro h l1 l2 l3 l4 l6 l7 l8 hf; exact q_X9_hold_104 K36 K79 (fun (h : Mem) (l1 l2 l3 l4 l6 l7 l8 : Int) => p_X9_hold_L104 K36 K79    n h l1 l2 l3 l4 l6 l7 l8) h     l1 l2 l3 l4 l6 l7 l8 hK36 hK79 (fun h l1 l2 l3 l4 l6 l7 l8 hf => ih h l1 l2 l3 l4 l6 l7 l8 hf) hf
def p_X9_hold_79 (K36 : Mem → Int → Int → Int → Int → Option (Int × Mem)) (K79 : Mem → Int → Int → Int → Int → Int → Int → Option (Int × Mem)) (h : Mem)   (l1 l2 l3 l4 l5 l6 : Int) : Option (Int × Mem) :=
  if wr ((h 53 16) + l2) ≤ l6 then (p_X9_hold_175 K36 h   l1 l2 l3 l4 l5) else (if l5 = 0 then (p_X9_hold_175 K36 h   l1 l2 l3 l4 l5) else (p_X9_hold_L104 K36 K79    300 h l1 l2 l3 l4 l6 0 0))
set_option maxRecDepth 20000 in
theorem q_X9_hold_79 (K36 : Mem → Int → Int → Int → Int → Option (Int × Mem)) (K79 : Mem → Int → Int → Int → Int → Int → Int → Option (Int × Mem)) (h : Mem)     (l1 l2 l3 l4 l5 l6 : Int) {X : Int × Mem} (hK36 : ∀ (h : Mem) (l1 l2 l3 l4 : Int), K36 h l1 l2 l3 l4 = some X → E m_X9_hold none (fun r h' => r = some (vi X.1) ∧ h' = X.2) 36 [some (vr 45), some (vi l1), some (vi l2), some (vi l3), some (vi l4), none, none, none, none] [] h) (hK79 : ∀ (h : Mem) (l1 l2 l3 l4 l5 l6 : Int), K79 h l1 l2 l3 l4 l5 l6 = some X → E m_X9_hold none (fun r h' => r = some (vi X.1) ∧ h' = X.2) 79 [some (vr 45), some (vi l1), some (vi l2), some (vi l3), some (vi l4), some (vi l5), some (vi l6), none, none] [] h) (hf : p_X9_hold_79 K36 K79 h   l1 l2 l3 l4 l5 l6 = some X) : E m_X9_hold none (fun r h' => r = some (vi X.1) ∧ h' = X.2) 79 [some (vr 45), some (vi l1), some (vi l2), some (vi l3), some (vi l4), some (vi l5), some (vi l6), none, none] [] h := by
  unfold p_X9_hold_79 at hf
  refine e_iload dX9_hold_79 rfl ?_
  refine e_aload_n dX9_hold_81 rfl ?_
  refine e_getR dX9_hold_82 rfl fl_698 rfl rfl ?_
  refine e_bipush dX9_hold_85 ⟨by decide, by decide, by decide⟩ ?_
  refine e_iald dX9_hold_87 rfl (by decide) ?_
  refine e_iload_n dX9_hold_88 rfl ?_
  refine e_iadd dX9_hold_89 ?_
  refine e_icmp_ge (tgt := 175) dX9_hold_90 (by decide) (fun c90 => ?_) (fun c90 => ?_)
  · replace hf := ifp hf c90
    exact e_mask [true, true, true, true, true, true, false, false, false] (q_X9_hold_175 K36 h     l1 l2 l3 l4 l5 hK36 hf)
  · replace hf := ifn hf c90
    refine e_iload dX9_hold_93 rfl ?_
    refine e_if_eq (tgt := 175) dX9_hold_95 (by decide) (fun c95 => ?_) (fun c95 => ?_)
    · replace hf := ifp hf c95
      exact e_mask [true, true, true, true, true, true, false, false, false] (q_X9_hold_175 K36 h     l1 l2 l3 l4 l5 hK36 hf)
    · replace hf := ifn hf c95
      refine e_iconst dX9_hold_98 ⟨by decide, by decide⟩ ?_
      refine e_istore (ls' := [some (vr 45), some (vi l1), some (vi l2), some (vi l3), some (vi l4), some (vi l5), some (vi l6), some (vi 0), none]) dX9_hold_99 (Nat.le_of_ble_eq_true rfl) rfl ?_
      refine e_iconst dX9_hold_101 ⟨by decide, by decide⟩ ?_
      refine e_istore (ls' := [some (vr 45), some (vi l1), some (vi l2), some (vi l3), some (vi l4), some (vi l5), some (vi l6), some (vi 0), some (vi 0)]) dX9_hold_102 (Nat.le_of_ble_eq_true rfl) rfl ?_
      exact e_mask [true, true, true, true, true, false, true, true, true] (q_X9_hold_L104 K36 K79      hK36 hK79 300 h l1 l2 l3 l4 l6 0 0 hf)
def p_X9_hold_L79 (K36 : Mem → Int → Int → Int → Int → Option (Int × Mem))    : Nat → Mem → Int → Int → Int → Int → Int → Int → Option (Int × Mem)
  | 0, _, _, _, _, _, _, _ => none
  | n + 1, h, l1, l2, l3, l4, l5, l6 => p_X9_hold_79 K36 (fun (h : Mem) (l1 l2 l3 l4 l5 l6 : Int) => p_X9_hold_L79 K36    n h l1 l2 l3 l4 l5 l6) h   l1 l2 l3 l4 l5 l6
theorem q_X9_hold_L79 (K36 : Mem → Int → Int → Int → Int → Option (Int × Mem))      {X : Int × Mem} (hK36 : ∀ (h : Mem) (l1 l2 l3 l4 : Int), K36 h l1 l2 l3 l4 = some X → E m_X9_hold none (fun r h' => r = some (vi X.1) ∧ h' = X.2) 36 [some (vr 45), some (vi l1), some (vi l2), some (vi l3), some (vi l4), none, none, none, none] [] h) : ∀ (n : Nat) (h : Mem) (l1 l2 l3 l4 l5 l6 : Int), p_X9_hold_L79 K36    n h l1 l2 l3 l4 l5 l6 = some X → E m_X9_hold none (fun r h' => r = some (vi X.1) ∧ h' = X.2) 79 [some (vr 45), some (vi l1), some (vi l2), some (vi l3), some (vi l4), some (vi l5), some (vi l6), none, none] [] h := by
  intro n
  induction n with
  | zero => intro h l1 l2 l3 l4 l5 l6 hf; have hf2 : (none : Option (Int × Mem)) = some X := hf; cases hf2
  | succ n ih => intro h l1 l2 l3 l4 l5 l6 hf; exact q_X9_hold_79 K36 (fun (h : Mem) (l1 l2 l3 l4 l5 l6 : Int) => p_X9_hold_L79 K36    n h l1 l2 l3 l4 l5 l6) h     l1 l2 l3 l4 l5 l6 hK36 (fun h l1 l2 l3 l4 l5 l6 hf => ih h l1 l2 l3 l4 l5 l6 hf) hf
def p_X9_hold_68 (K36 : Mem → Int → Int → Int → Int → Option (Int × Mem)) (h : Mem)   (l1 l2 l3 l4 s0 : Int) : Option (Int × Mem) :=
  p_X9_hold_L79 K36    300 h l1 l2 l3 l4 s0 (h 53 16)
set_option maxRecDepth 20000 in
theorem q_X9_hold_68 (K36 : Mem → Int → Int → Int → Int → Option (Int × Mem)) (h : Mem)     (l1 l2 l3 l4 s0 : Int) {X : Int × Mem} (hK36 : ∀ (h : Mem) (l1 l2 l3 l4 : Int), K36 h l1 l2 l3 l4 = some X → E m_X9_hold none (fun r h' => r = some (vi X.1) ∧ h' = X.2) 36 [some (vr 45), some (vi l1), some (vi l2), some (vi l3), some (vi l4), none, none, none, none] [] h) (hf : p_X9_hold_68 K36 h   l1 l2 l3 l4 s0 = some X) : E m_X9_hold none (fun r h' => r = some (vi X.1) ∧ h' = X.2) 68 [some (vr 45), some (vi l1), some (vi l2), some (vi l3), some (vi l4), none, none, none, none] [vi s0] h := by
  unfold p_X9_hold_68 at hf
  refine e_istore (ls' := [some (vr 45), some (vi l1), some (vi l2), some (vi l3), some (vi l4), some (vi s0), none, none, none]) dX9_hold_68 (Nat.le_of_ble_eq_true rfl) rfl ?_
  refine e_aload_n dX9_hold_70 rfl ?_
  refine e_getR dX9_hold_71 rfl fl_698 rfl rfl ?_
  refine e_bipush dX9_hold_74 ⟨by decide, by decide, by decide⟩ ?_
  refine e_iald dX9_hold_76 rfl (by decide) ?_
  refine e_istore (ls' := [some (vr 45), some (vi l1), some (vi l2), some (vi l3), some (vi l4), some (vi s0), some (vi (h 53 16)), none, none]) dX9_hold_77 (Nat.le_of_ble_eq_true rfl) rfl ?_
  exact e_mask [true, true, true, true, true, true, true, false, false] (q_X9_hold_L79 K36      hK36 300 h l1 l2 l3 l4 s0 (h 53 16) hf)
def p_X9_hold_63 (K36 : Mem → Int → Int → Int → Int → Option (Int × Mem)) (h : Mem)   (l1 l2 l3 l4 : Int) : Option (Int × Mem) :=
  p_X9_hold_68 K36 h   l1 l2 l3 l4 1
set_option maxRecDepth 20000 in
theorem q_X9_hold_63 (K36 : Mem → Int → Int → Int → Int → Option (Int × Mem)) (h : Mem)     (l1 l2 l3 l4 : Int) {X : Int × Mem} (hK36 : ∀ (h : Mem) (l1 l2 l3 l4 : Int), K36 h l1 l2 l3 l4 = some X → E m_X9_hold none (fun r h' => r = some (vi X.1) ∧ h' = X.2) 36 [some (vr 45), some (vi l1), some (vi l2), some (vi l3), some (vi l4), none, none, none, none] [] h) (hf : p_X9_hold_63 K36 h   l1 l2 l3 l4 = some X) : E m_X9_hold none (fun r h' => r = some (vi X.1) ∧ h' = X.2) 63 [some (vr 45), some (vi l1), some (vi l2), some (vi l3), some (vi l4), none, none, none, none] [] h := by
  unfold p_X9_hold_63 at hf
  refine e_iconst dX9_hold_63 ⟨by decide, by decide⟩ ?_
  refine e_goto (tgt := 68) dX9_hold_64 (by decide) ?_
  exact e_mask [true, true, true, true, true, false, false, false, false] (q_X9_hold_68 K36 h     l1 l2 l3 l4 1 hK36 hf)
def p_X9_hold_36 (K36 : Mem → Int → Int → Int → Int → Option (Int × Mem)) (h : Mem)   (l1 l2 l3 l4 : Int) : Option (Int × Mem) :=
  bd (p_X9_all h ) (fun r39 => if r39 < l4 then (some (l3, h)) else (if l3 = (-9) then (p_X9_hold_63 K36 h   l1 l2 l3 l4) else (bd (p_X9_many h l4) (fun r53 => bd (p_X9_many h l3) (fun r57 => if r57 ≤ r53 then (p_X9_hold_68 K36 h   l1 l2 l3 l4 0) else (p_X9_hold_63 K36 h   l1 l2 l3 l4))))))
set_option maxRecDepth 20000 in
theorem q_X9_hold_36 (K36 : Mem → Int → Int → Int → Int → Option (Int × Mem)) (h : Mem)     (l1 l2 l3 l4 : Int) {X : Int × Mem} (hK36 : ∀ (h : Mem) (l1 l2 l3 l4 : Int), K36 h l1 l2 l3 l4 = some X → E m_X9_hold none (fun r h' => r = some (vi X.1) ∧ h' = X.2) 36 [some (vr 45), some (vi l1), some (vi l2), some (vi l3), some (vi l4), none, none, none, none] [] h) (hf : p_X9_hold_36 K36 h   l1 l2 l3 l4 = some X) : E m_X9_hold none (fun r h' => r = some (vi X.1) ∧ h' = X.2) 36 [some (vr 45), some (vi l1), some (vi l2), some (vi l3), some (vi l4), none, none, none, none] [] h := by
  unfold p_X9_hold_36 at hf
  refine e_iload dX9_hold_36 rfl ?_
  refine e_aload_n dX9_hold_38 rfl ?_
  obtain ⟨r39, e39, hf⟩ := bd_some hf
  refine e_callV0i dX9_hold_39 rfl lk_842 ⟨rfl, rfl, Nat.le_of_ble_eq_true rfl, Nat.le_of_ble_eq_true rfl⟩ rfl rfl (Nat.le_of_ble_eq_true rfl) (q_X9_all h    e39) ?_
  refine e_icmp_gt (tgt := 193) dX9_hold_42 (by decide) (fun c42 => ?_) (fun c42 => ?_)
  · replace hf := ifp hf c42
    refine e_iload_n dX9_hold_193 rfl ?_
    obtain rfl := Option.some.inj hf
    exact e_ireturn dX9_hold_194 rfl ⟨rfl, rfl⟩
  · replace hf := ifn hf c42
    refine e_iload_n dX9_hold_45 rfl ?_
    refine e_bipush dX9_hold_46 ⟨by decide, by decide, by decide⟩ ?_
    refine e_icmp_eq (tgt := 63) dX9_hold_48 (by decide) (fun c48 => ?_) (fun c48 => ?_)
    · replace hf := ifp hf c48
      exact e_mask [true, true, true, true, true, false, false, false, false] (q_X9_hold_63 K36 h     l1 l2 l3 l4 hK36 hf)
    · replace hf := ifn hf c48
      refine e_iload dX9_hold_51 rfl ?_
      obtain ⟨r53, e53, hf⟩ := bd_some hf
      refine e_callS1i dX9_hold_53 rfl lk_937 ⟨rfl, rfl, Nat.le_of_ble_eq_true rfl, Nat.le_of_ble_eq_true rfl⟩ (Nat.le_of_ble_eq_true rfl) (q_X9_many h   l4 e53) ?_
      refine e_iload_n dX9_hold_56 rfl ?_
      obtain ⟨r57, e57, hf⟩ := bd_some hf
      refine e_callS1i dX9_hold_57 rfl lk_937 ⟨rfl, rfl, Nat.le_of_ble_eq_true rfl, Nat.le_of_ble_eq_true rfl⟩ (Nat.le_of_ble_eq_true rfl) (q_X9_many h   l3 e57) ?_
      refine e_icmp_ge (tgt := 67) dX9_hold_60 (by decide) (fun c60 => ?_) (fun c60 => ?_)
      · replace hf := ifp hf c60
        refine e_iconst dX9_hold_67 ⟨by decide, by decide⟩ ?_
        exact e_mask [true, true, true, true, true, false, false, false, false] (q_X9_hold_68 K36 h     l1 l2 l3 l4 0 hK36 hf)
      · replace hf := ifn hf c60
        exact e_mask [true, true, true, true, true, false, false, false, false] (q_X9_hold_63 K36 h     l1 l2 l3 l4 hK36 hf)
def p_X9_hold_L36     : Nat → Mem → Int → Int → Int → Int → Option (Int × Mem)
  | 0, _, _, _, _, _ => none
  | n + 1, h, l1, l2, l3, l4 => p_X9_hold_36 (fun (h : Mem) (l1 l2 l3 l4 : Int) => p_X9_hold_L36     n h l1 l2 l3 l4) h   l1 l2 l3 l4
theorem q_X9_hold_L36       {X : Int × Mem}  : ∀ (n : Nat) (h : Mem) (l1 l2 l3 l4 : Int), p_X9_hold_L36     n h l1 l2 l3 l4 = some X → E m_X9_hold none (fun r h' => r = some (vi X.1) ∧ h' = X.2) 36 [some (vr 45), some (vi l1), some (vi l2), some (vi l3), some (vi l4), none, none, none, none] [] h := by
  intro n
  induction n with
  | zero => intro h l1 l2 l3 l4 hf; have hf2 : (none : Option (Int × Mem)) = some X := hf; cases hf2
  | succ n ih => intro h l1 l2 l3 l4 hf; exact q_X9_hold_36 (fun (h : Mem) (l1 l2 l3 l4 : Int) => p_X9_hold_L36     n h l1 l2 l3 l4) h     l1 l2 l3 l4 (fun h l1 l2 l3 l4 hf => ih h l1 l2 l3 l4 hf) hf
def p_X9_hold (h : Mem)  (l1 l2 : Int) : Option (Int × Mem) :=
  bd (p_X9_noStar (up h 45 0 0) l1) (fun r7 => if r7 = 0 then (bd (p_X9_in (up h 45 0 0) l2 1 10) (fun r21 => if r21 = 0 then (some ((-2), (up h 45 0 0))) else (p_X9_hold_L36     300 (up h 45 0 0) l1 l2 (-9) 0))) else (some ((-1), (up h 45 0 0))))
set_option maxRecDepth 20000 in
theorem q_X9_hold (h : Mem)   (l1 l2 : Int) {X : Int × Mem} (hf : p_X9_hold h  l1 l2 = some X) : Cn m_X9_hold [vr 45, vi l1, vi l2] h (fun r h' => r = some (vi X.1) ∧ h' = X.2) := by
  unfold p_X9_hold at hf
  have key : E m_X9_hold none (fun r h' => r = some (vi X.1) ∧ h' = X.2) 0 [some (vr 45), some (vi l1), some (vi l2), none, none, none, none, none, none] [] h := by
    refine e_aload_n dX9_hold_0 rfl ?_
    refine e_iconst dX9_hold_1 ⟨by decide, by decide⟩ ?_
    refine e_putI (t := 0) (kz := 0) rfl dX9_hold_2 rfl fp_682 rfl rfl (Or.inl rfl) ?_
    refine e_aload_n dX9_hold_5 rfl ?_
    refine e_iload_n dX9_hold_6 rfl ?_
    obtain ⟨r7, e7, hf⟩ := bd_some hf
    refine e_callV1i dX9_hold_7 rfl lk_880 ⟨rfl, rfl, Nat.le_of_ble_eq_true rfl, Nat.le_of_ble_eq_true rfl⟩ rfl rfl (Nat.le_of_ble_eq_true rfl) (q_X9_noStar (up h 45 0 0)   l1 e7) ?_
    refine e_if_eq (tgt := 15) dX9_hold_10 (by decide) (fun c10 => ?_) (fun c10 => ?_)
    · replace hf := ifp hf c10
      refine e_iload_n dX9_hold_15 rfl ?_
      refine e_i2l dX9_hold_16 ?_
      refine e_lconst (a := 1) dX9_hold_17 ⟨by decide, by decide, by decide⟩ ?_
      refine e_ldc2 (a := 10) dX9_hold_18 rfl tw_936 ⟨by decide, by decide⟩ ?_
      obtain ⟨r21, e21, hf⟩ := bd_some hf
      refine e_callS3i dX9_hold_21 rfl lk_799 ⟨rfl, rfl, Nat.le_of_ble_eq_true rfl, Nat.le_of_ble_eq_true rfl⟩ (Nat.le_of_ble_eq_true rfl) (q_X9_in (up h 45 0 0)   l2 1 10 e21) ?_
      refine e_if_ne (tgt := 30) dX9_hold_24 (by decide) (fun c24 => ?_) (fun c24 => ?_)
      · replace hf := ifn hf c24
        refine e_bipush dX9_hold_30 ⟨by decide, by decide, by decide⟩ ?_
        refine e_istore_n (ls' := [some (vr 45), some (vi l1), some (vi l2), some (vi (-9)), none, none, none, none, none]) dX9_hold_32 (Nat.le_of_ble_eq_true rfl) rfl ?_
        refine e_iconst dX9_hold_33 ⟨by decide, by decide⟩ ?_
        refine e_istore (ls' := [some (vr 45), some (vi l1), some (vi l2), some (vi (-9)), some (vi 0), none, none, none, none]) dX9_hold_34 (Nat.le_of_ble_eq_true rfl) rfl ?_
        exact e_mask [true, true, true, true, true, false, false, false, false] (q_X9_hold_L36        300 (up h 45 0 0) l1 l2 (-9) 0 hf)
      · replace hf := ifp hf c24
        refine e_bipush dX9_hold_27 ⟨by decide, by decide, by decide⟩ ?_
        obtain rfl := Option.some.inj hf
        exact e_ireturn dX9_hold_29 rfl ⟨rfl, rfl⟩
    · replace hf := ifn hf c10
      refine e_iconst dX9_hold_13 ⟨by decide, by decide⟩ ?_
      obtain rfl := Option.some.inj hf
      exact e_ireturn dX9_hold_14 rfl ⟨rfl, rfl⟩
  exact Cn_of rfl (fun _ => Nat.le_of_ble_eq_true rfl) ⟨rfl, rfl⟩ (e_pad 6 key)
abbrev m_X9_begin : MI := (yX9_begin, cX9_begin, 2, none, { frames := 0, cells := 0, slots := 0, locals := 0 })
def p_X9_begin_2 (K2 : Mem → Int → Option (Mem)) (h : Mem)   (l1 : Int) : Option (Mem) :=
  if 17 ≤ l1 then (some h) else (gd (0 ≤ l1 ∧ l1 < 17) (gd (0 ≤ l1 ∧ l1 < 17) (K2 (up h 54 l1 (h 53 l1)) (wr (l1 + 1)))))
set_option maxRecDepth 20000 in
theorem q_X9_begin_2 (K2 : Mem → Int → Option (Mem)) (h : Mem)     (l1 : Int) {X : Mem} (hK2 : ∀ (h : Mem) (l1 : Int), K2 h l1 = some X → E m_X9_begin none (fun r h' => r = none ∧ h' = X) 2 [some (vr 45), some (vi l1)] [] h) (hf : p_X9_begin_2 K2 h   l1 = some X) : E m_X9_begin none (fun r h' => r = none ∧ h' = X) 2 [some (vr 45), some (vi l1)] [] h := by
  unfold p_X9_begin_2 at hf
  refine e_iload_n dX9_begin_2 rfl ?_
  refine e_bipush dX9_begin_3 ⟨by decide, by decide, by decide⟩ ?_
  refine e_icmp_ge (tgt := 26) dX9_begin_5 (by decide) (fun c5 => ?_) (fun c5 => ?_)
  · replace hf := ifp hf c5
    obtain rfl := Option.some.inj hf
    exact e_return dX9_begin_26 rfl ⟨rfl, rfl⟩
  · replace hf := ifn hf c5
    refine e_aload_n dX9_begin_8 rfl ?_
    refine e_getR dX9_begin_9 rfl fl_699 rfl rfl ?_
    refine e_iload_n dX9_begin_12 rfl ?_
    refine e_aload_n dX9_begin_13 rfl ?_
    refine e_getR dX9_begin_14 rfl fl_698 rfl rfl ?_
    refine e_iload_n dX9_begin_17 rfl ?_
    obtain ⟨g18, hf⟩ := gd_some hf
    refine e_iald dX9_begin_18 rfl g18 ?_
    obtain ⟨g19, hf⟩ := gd_some hf
    refine e_iast dX9_begin_19 rfl g19 ?_
    refine e_iinc (ls' := [some (vr 45), some (vi (wr (l1 + 1)))]) dX9_begin_20 rfl (Nat.le_of_ble_eq_true rfl) rfl ?_
    refine e_goto (tgt := 2) dX9_begin_23 (by decide) ?_
    exact e_mask [true, true] (hK2 (up h 54 l1 (h 53 l1)) (wr (l1 + 1)) hf)
def p_X9_begin_L2     : Nat → Mem → Int → Option (Mem)
  | 0, _, _ => none
  | n + 1, h, l1 => p_X9_begin_2 (fun (h : Mem) (l1 : Int) => p_X9_begin_L2     n h l1) h   l1
theorem q_X9_begin_L2       {X : Mem}  : ∀ (n : Nat) (h : Mem) (l1 : Int), p_X9_begin_L2     n h l1 = some X → E m_X9_begin none (fun r h' => r = none ∧ h' = X) 2 [some (vr 45), some (vi l1)] [] h := by
  intro n
  induction n with
  | zero => intro h l1 hf; have hf2 : (none : Option (Mem)) = some X := hf; cases hf2
  | succ n ih => intro h l1 hf; exact q_X9_begin_2 (fun (h : Mem) (l1 : Int) => p_X9_begin_L2     n h l1) h     l1 (fun h l1 hf => ih h l1 hf) hf
def p_X9_begin (h : Mem)   : Option (Mem) :=
  p_X9_begin_L2     300 h 0
set_option maxRecDepth 20000 in
theorem q_X9_begin (h : Mem)    {X : Mem} (hf : p_X9_begin h   = some X) : Cn m_X9_begin [vr 45] h (fun r h' => r = none ∧ h' = X) := by
  unfold p_X9_begin at hf
  have key : E m_X9_begin none (fun r h' => r = none ∧ h' = X) 0 [some (vr 45), none] [] h := by
    refine e_iconst dX9_begin_0 ⟨by decide, by decide⟩ ?_
    refine e_istore_n (ls' := [some (vr 45), some (vi 0)]) dX9_begin_1 (Nat.le_of_ble_eq_true rfl) rfl ?_
    exact e_mask [true, true] (q_X9_begin_L2        300 h 0 hf)
  exact Cn_of rfl (fun _ => Nat.le_of_ble_eq_true rfl) ⟨rfl, rfl⟩ (e_pad 1 key)
theorem lk_948 : VLk "StarRightModel" 184 m_X9_begin 0 := ⟨tw_948, tw_950, twp_37, tw_10, tw_951, by decide +kernel⟩
abbrev m_X9_findFires : MI := (yX9_findFires, cX9_findFires, 4, none, { frames := 5, cells := 0, slots := 0, locals := 130 })
def p_X9_findFires_114 (K13 : Mem → Int → Int → Option (Mem)) (h : Mem)   (l1 l2 : Int) : Option (Mem) :=
  K13 h l1 (wr (l2 + 1))
set_option maxRecDepth 20000 in
theorem q_X9_findFires_114 (K13 : Mem → Int → Int → Option (Mem)) (h : Mem)     (l1 l2 : Int) {X : Mem} (hK13 : ∀ (h : Mem) (l1 l2 : Int), K13 h l1 l2 = some X → E m_X9_findFires none (fun r h' => r = none ∧ h' = X) 13 [some (vr 45), some (vi l1), some (vi l2), none] [] h) (hf : p_X9_findFires_114 K13 h   l1 l2 = some X) : E m_X9_findFires none (fun r h' => r = none ∧ h' = X) 114 [some (vr 45), some (vi l1), some (vi l2), none] [] h := by
  unfold p_X9_findFires_114 at hf
  refine e_iinc (ls' := [some (vr 45), some (vi l1), some (vi (wr (l2 + 1))), none]) dX9_findFires_114 rfl (Nat.le_of_ble_eq_true rfl) rfl ?_
  refine e_goto (tgt := 13) dX9_findFires_117 (by decide) ?_
  exact e_mask [true, true, true, false] (hK13 h l1 (wr (l2 + 1)) hf)
def p_X9_findFires_104 (K13 : Mem → Int → Int → Option (Mem)) (h : Mem)   (l1 l2 l3 : Int) : Option (Mem) :=
  p_X9_findFires_114 K13 (up (up h 45 35 l2) 45 36 l3)   l1 l2
set_option maxRecDepth 20000 in
theorem q_X9_findFires_104 (K13 : Mem → Int → Int → Option (Mem)) (h : Mem)     (l1 l2 l3 : Int) {X : Mem} (hK13 : ∀ (h : Mem) (l1 l2 : Int), K13 h l1 l2 = some X → E m_X9_findFires none (fun r h' => r = none ∧ h' = X) 13 [some (vr 45), some (vi l1), some (vi l2), none] [] h) (hf : p_X9_findFires_104 K13 h   l1 l2 l3 = some X) : E m_X9_findFires none (fun r h' => r = none ∧ h' = X) 104 [some (vr 45), some (vi l1), some (vi l2), some (vi l3)] [] h := by
  unfold p_X9_findFires_104 at hf
  refine e_aload_n dX9_findFires_104 rfl ?_
  refine e_iload_n dX9_findFires_105 rfl ?_
  refine e_putI (t := 0) (kz := 35) rfl dX9_findFires_106 rfl fp_717 rfl rfl (Or.inl rfl) ?_
  refine e_aload_n dX9_findFires_109 rfl ?_
  refine e_iload_n dX9_findFires_110 rfl ?_
  refine e_putI (t := 0) (kz := 36) rfl dX9_findFires_111 rfl fp_718 rfl rfl (Or.inl rfl) ?_
  exact e_mask [true, true, true, false] (q_X9_findFires_114 K13 (up (up h 45 35 l2) 45 36 l3)     l1 l2 hK13 hf)
def p_X9_findFires_13 (K13 : Mem → Int → Int → Option (Mem)) (h : Mem)   (l1 l2 : Int) : Option (Mem) :=
  bd (p_X9_all h ) (fun r15 => if r15 < l2 then (some h) else (bd (p_X9_begin h ) (fun h22 => bd (p_X9_all (up h22 54 5 l2) ) (fun r38 => bd (p_X9_rentsOf (up h22 54 5 l2) 54 r38 ((up h22 54 5 l2) 53 16) l1 4 ((up h22 54 5 l2) 45 4)) (fun r54 => bd (p_X9_many (up h22 54 5 l2) l2) (fun r59 => if (up h22 54 5 l2) 45 35 = (-9) then (p_X9_findFires_104 K13 (up h22 54 5 l2)   l1 l2 (wr (r54 + (wr (l1 * r59))))) else (if (up h22 54 5 l2) 45 36 < wr (r54 + (wr (l1 * r59))) then (p_X9_findFires_104 K13 (up h22 54 5 l2)   l1 l2 (wr (r54 + (wr (l1 * r59))))) else (if wr (r54 + (wr (l1 * r59))) = (up h22 54 5 l2) 45 36 then (bd (p_X9_many (up h22 54 5 l2) l2) (fun r91 => bd (p_X9_many (up h22 54 5 l2) ((up h22 54 5 l2) 45 35)) (fun r98 => if r98 ≤ r91 then (p_X9_findFires_114 K13 (up h22 54 5 l2)   l1 l2) else (p_X9_findFires_104 K13 (up h22 54 5 l2)   l1 l2 (wr (r54 + (wr (l1 * r59)))))))) else (p_X9_findFires_114 K13 (up h22 54 5 l2)   l1 l2)))))))))
set_option maxRecDepth 20000 in
theorem q_X9_findFires_13 (K13 : Mem → Int → Int → Option (Mem)) (h : Mem)     (l1 l2 : Int) {X : Mem} (hK13 : ∀ (h : Mem) (l1 l2 : Int), K13 h l1 l2 = some X → E m_X9_findFires none (fun r h' => r = none ∧ h' = X) 13 [some (vr 45), some (vi l1), some (vi l2), none] [] h) (hf : p_X9_findFires_13 K13 h   l1 l2 = some X) : E m_X9_findFires none (fun r h' => r = none ∧ h' = X) 13 [some (vr 45), some (vi l1), some (vi l2), none] [] h := by
  unfold p_X9_findFires_13 at hf
  refine e_iload_n dX9_findFires_13 rfl ?_
  refine e_aload_n dX9_findFires_14 rfl ?_
  obtain ⟨r15, e15, hf⟩ := bd_some hf
  refine e_callV0i dX9_findFires_15 rfl lk_842 ⟨rfl, rfl, Nat.le_of_ble_eq_true rfl, Nat.le_of_ble_eq_true rfl⟩ rfl rfl (Nat.le_of_ble_eq_true rfl) (q_X9_all h    e15) ?_
  refine e_icmp_gt (tgt := 120) dX9_findFires_18 (by decide) (fun c18 => ?_) (fun c18 => ?_)
  · replace hf := ifp hf c18
    obtain rfl := Option.some.inj hf
    exact e_return dX9_findFires_120 rfl ⟨rfl, rfl⟩
  · replace hf := ifn hf c18
    refine e_aload_n dX9_findFires_21 rfl ?_
    obtain ⟨h22, e22, hf⟩ := bd_some hf
    refine e_callV0v dX9_findFires_22 rfl lk_948 ⟨rfl, rfl, Nat.le_of_ble_eq_true rfl, Nat.le_of_ble_eq_true rfl⟩ rfl rfl (Nat.le_of_ble_eq_true rfl) (q_X9_begin h    e22) ?_
    refine e_aload_n dX9_findFires_25 rfl ?_
    refine e_getR dX9_findFires_26 rfl fl_699 rfl rfl ?_
    refine e_iconst dX9_findFires_29 ⟨by decide, by decide⟩ ?_
    refine e_iload_n dX9_findFires_30 rfl ?_
    refine e_iast dX9_findFires_31 rfl (by decide) ?_
    refine e_aload_n dX9_findFires_32 rfl ?_
    refine e_aload_n dX9_findFires_33 rfl ?_
    refine e_getR dX9_findFires_34 rfl fl_699 rfl rfl ?_
    refine e_aload_n dX9_findFires_37 rfl ?_
    obtain ⟨r38, e38, hf⟩ := bd_some hf
    refine e_callV0i dX9_findFires_38 rfl lk_842 ⟨rfl, rfl, Nat.le_of_ble_eq_true rfl, Nat.le_of_ble_eq_true rfl⟩ rfl rfl (Nat.le_of_ble_eq_true rfl) (q_X9_all (up h22 54 5 l2)    e38) ?_
    refine e_aload_n dX9_findFires_41 rfl ?_
    refine e_getR dX9_findFires_42 rfl fl_698 rfl rfl ?_
    refine e_bipush dX9_findFires_45 ⟨by decide, by decide, by decide⟩ ?_
    refine e_iald dX9_findFires_47 rfl (by decide) ?_
    refine e_iload_n dX9_findFires_48 rfl ?_
    refine e_iconst dX9_findFires_49 ⟨by decide, by decide⟩ ?_
    refine e_aload_n dX9_findFires_50 rfl ?_
    refine e_getI (kz := 4) rfl dX9_findFires_51 rfl fl_686 rfl rfl (Or.inl rfl) ?_
    obtain ⟨r54, e54, hf⟩ := bd_some hf
    refine e_callV6i dX9_findFires_54 rfl lk_918 ⟨rfl, rfl, Nat.le_of_ble_eq_true rfl, Nat.le_of_ble_eq_true rfl⟩ rfl rfl (Nat.le_of_ble_eq_true rfl) (q_X9_rentsOf (up h22 54 5 l2) 54 rfl r38 ((up h22 54 5 l2) 53 16) l1 4 ((up h22 54 5 l2) 45 4) e54) ?_
    refine e_iload_n dX9_findFires_57 rfl ?_
    refine e_iload_n dX9_findFires_58 rfl ?_
    obtain ⟨r59, e59, hf⟩ := bd_some hf
    refine e_callS1i dX9_findFires_59 rfl lk_937 ⟨rfl, rfl, Nat.le_of_ble_eq_true rfl, Nat.le_of_ble_eq_true rfl⟩ (Nat.le_of_ble_eq_true rfl) (q_X9_many (up h22 54 5 l2)   l2 e59) ?_
    refine e_imul dX9_findFires_62 ?_
    refine e_iadd dX9_findFires_63 ?_
    refine e_istore_n (ls' := [some (vr 45), some (vi l1), some (vi l2), some (vi (wr (r54 + (wr (l1 * r59)))))]) dX9_findFires_64 (Nat.le_of_ble_eq_true rfl) rfl ?_
    refine e_aload_n dX9_findFires_65 rfl ?_
    refine e_getI (kz := 35) rfl dX9_findFires_66 rfl fl_717 rfl rfl (Or.inl rfl) ?_
    refine e_bipush dX9_findFires_69 ⟨by decide, by decide, by decide⟩ ?_
    refine e_icmp_eq (tgt := 104) dX9_findFires_71 (by decide) (fun c71 => ?_) (fun c71 => ?_)
    · replace hf := ifp hf c71
      exact e_mask [true, true, true, true] (q_X9_findFires_104 K13 (up h22 54 5 l2)     l1 l2 (wr (r54 + (wr (l1 * r59)))) hK13 hf)
    · replace hf := ifn hf c71
      refine e_iload_n dX9_findFires_74 rfl ?_
      refine e_aload_n dX9_findFires_75 rfl ?_
      refine e_getI (kz := 36) rfl dX9_findFires_76 rfl fl_718 rfl rfl (Or.inl rfl) ?_
      refine e_icmp_gt (tgt := 104) dX9_findFires_79 (by decide) (fun c79 => ?_) (fun c79 => ?_)
      · replace hf := ifp hf c79
        exact e_mask [true, true, true, true] (q_X9_findFires_104 K13 (up h22 54 5 l2)     l1 l2 (wr (r54 + (wr (l1 * r59)))) hK13 hf)
      · replace hf := ifn hf c79
        refine e_iload_n dX9_findFires_82 rfl ?_
        refine e_aload_n dX9_findFires_83 rfl ?_
        refine e_getI (kz := 36) rfl dX9_findFires_84 rfl fl_718 rfl rfl (Or.inl rfl) ?_
        refine e_icmp_ne (tgt := 114) dX9_findFires_87 (by decide) (fun c87 => ?_) (fun c87 => ?_)
        · replace hf := ifn hf c87
          exact e_mask [true, true, true, false] (q_X9_findFires_114 K13 (up h22 54 5 l2)     l1 l2 hK13 hf)
        · replace hf := ifp hf c87
          refine e_iload_n dX9_findFires_90 rfl ?_
          obtain ⟨r91, e91, hf⟩ := bd_some hf
          refine e_callS1i dX9_findFires_91 rfl lk_937 ⟨rfl, rfl, Nat.le_of_ble_eq_true rfl, Nat.le_of_ble_eq_true rfl⟩ (Nat.le_of_ble_eq_true rfl) (q_X9_many (up h22 54 5 l2)   l2 e91) ?_
          refine e_aload_n dX9_findFires_94 rfl ?_
          refine e_getI (kz := 35) rfl dX9_findFires_95 rfl fl_717 rfl rfl (Or.inl rfl) ?_
          obtain ⟨r98, e98, hf⟩ := bd_some hf
          refine e_callS1i dX9_findFires_98 rfl lk_937 ⟨rfl, rfl, Nat.le_of_ble_eq_true rfl, Nat.le_of_ble_eq_true rfl⟩ (Nat.le_of_ble_eq_true rfl) (q_X9_many (up h22 54 5 l2)   ((up h22 54 5 l2) 45 35) e98) ?_
          refine e_icmp_ge (tgt := 114) dX9_findFires_101 (by decide) (fun c101 => ?_) (fun c101 => ?_)
          · replace hf := ifp hf c101
            exact e_mask [true, true, true, false] (q_X9_findFires_114 K13 (up h22 54 5 l2)     l1 l2 hK13 hf)
          · replace hf := ifn hf c101
            exact e_mask [true, true, true, true] (q_X9_findFires_104 K13 (up h22 54 5 l2)     l1 l2 (wr (r54 + (wr (l1 * r59)))) hK13 hf)
def p_X9_findFires_L13     : Nat → Mem → Int → Int → Option (Mem)
  | 0, _, _, _ => none
  | n + 1, h, l1, l2 => p_X9_findFires_13 (fun (h : Mem) (l1 l2 : Int) => p_X9_findFires_L13     n h l1 l2) h   l1 l2
theorem q_X9_findFires_L13       {X : Mem}  : ∀ (n : Nat) (h : Mem) (l1 l2 : Int), p_X9_findFires_L13     n h l1 l2 = some X → E m_X9_findFires none (fun r h' => r = none ∧ h' = X) 13 [some (vr 45), some (vi l1), some (vi l2), none] [] h := by
  intro n
  induction n with
  | zero => intro h l1 l2 hf; have hf2 : (none : Option (Mem)) = some X := hf; cases hf2
  | succ n ih => intro h l1 l2 hf; exact q_X9_findFires_13 (fun (h : Mem) (l1 l2 : Int) => p_X9_findFires_L13     n h l1 l2) h     l1 l2 (fun h l1 l2 hf => ih h l1 l2 hf) hf
def p_X9_findFires (h : Mem)  (l1 : Int) : Option (Mem) :=
  p_X9_findFires_L13     300 (up (up h 45 35 (-9)) 45 36 0) l1 0
set_option maxRecDepth 20000 in
theorem q_X9_findFires (h : Mem)   (l1 : Int) {X : Mem} (hf : p_X9_findFires h  l1 = some X) : Cn m_X9_findFires [vr 45, vi l1] h (fun r h' => r = none ∧ h' = X) := by
  unfold p_X9_findFires at hf
  have key : E m_X9_findFires none (fun r h' => r = none ∧ h' = X) 0 [some (vr 45), some (vi l1), none, none] [] h := by
    refine e_aload_n dX9_findFires_0 rfl ?_
    refine e_bipush dX9_findFires_1 ⟨by decide, by decide, by decide⟩ ?_
    refine e_putI (t := 0) (kz := 35) rfl dX9_findFires_3 rfl fp_717 rfl rfl (Or.inl rfl) ?_
    refine e_aload_n dX9_findFires_6 rfl ?_
    refine e_iconst dX9_findFires_7 ⟨by decide, by decide⟩ ?_
    refine e_putI (t := 0) (kz := 36) rfl dX9_findFires_8 rfl fp_718 rfl rfl (Or.inl rfl) ?_
    refine e_iconst dX9_findFires_11 ⟨by decide, by decide⟩ ?_
    refine e_istore_n (ls' := [some (vr 45), some (vi l1), some (vi 0), none]) dX9_findFires_12 (Nat.le_of_ble_eq_true rfl) rfl ?_
    exact e_mask [true, true, true, false] (q_X9_findFires_L13        300 (up (up h 45 35 (-9)) 45 36 0) l1 0 hf)
  exact Cn_of rfl (fun _ => Nat.le_of_ble_eq_true rfl) ⟨rfl, rfl⟩ (e_pad 2 key)
theorem lk_944 : VLk "StarRightModel" 187 m_X9_findFires 1 := ⟨tw_944, tw_946, twp_36, tw_10, tw_947, by decide +kernel⟩
abbrev m_X9_fires : MI := (yX9_fires, cX9_fires, 3, some .int, { frames := 6, cells := 0, slots := 0, locals := 153 })
def p_X9_fires (h : Mem)  (l1 l2 : Int) : Option (Int × Mem) :=
  bd (p_X9_in (up h 45 0 0) l1 1 10) (fun r11 => if r11 = 0 then (some ((-2), (up h 45 0 0))) else (bd (p_X9_in (up h 45 0 0) l2 0 1) (fun r21 => if r21 = 0 then (some ((-2), (up h 45 0 0))) else (bd (p_X9_findFires (up h 45 0 0) l1) (fun h32 => if l2 = 0 then (some (h32 45 35, h32)) else (some (h32 45 36, h32)))))))
set_option maxRecDepth 20000 in
theorem q_X9_fires (h : Mem)   (l1 l2 : Int) {X : Int × Mem} (hf : p_X9_fires h  l1 l2 = some X) : Cn m_X9_fires [vr 45, vi l1, vi l2] h (fun r h' => r = some (vi X.1) ∧ h' = X.2) := by
  unfold p_X9_fires at hf
  have key : E m_X9_fires none (fun r h' => r = some (vi X.1) ∧ h' = X.2) 0 [some (vr 45), some (vi l1), some (vi l2)] [] h := by
    refine e_aload_n dX9_fires_0 rfl ?_
    refine e_iconst dX9_fires_1 ⟨by decide, by decide⟩ ?_
    refine e_putI (t := 0) (kz := 0) rfl dX9_fires_2 rfl fp_682 rfl rfl (Or.inl rfl) ?_
    refine e_iload_n dX9_fires_5 rfl ?_
    refine e_i2l dX9_fires_6 ?_
    refine e_lconst (a := 1) dX9_fires_7 ⟨by decide, by decide, by decide⟩ ?_
    refine e_ldc2 (a := 10) dX9_fires_8 rfl tw_936 ⟨by decide, by decide⟩ ?_
    obtain ⟨r11, e11, hf⟩ := bd_some hf
    refine e_callS3i dX9_fires_11 rfl lk_799 ⟨rfl, rfl, Nat.le_of_ble_eq_true rfl, Nat.le_of_ble_eq_true rfl⟩ (Nat.le_of_ble_eq_true rfl) (q_X9_in (up h 45 0 0)   l1 1 10 e11) ?_
    refine e_if_eq (tgt := 27) dX9_fires_14 (by decide) (fun c14 => ?_) (fun c14 => ?_)
    · replace hf := ifp hf c14
      refine e_bipush dX9_fires_27 ⟨by decide, by decide, by decide⟩ ?_
      obtain rfl := Option.some.inj hf
      exact e_ireturn dX9_fires_29 rfl ⟨rfl, rfl⟩
    · replace hf := ifn hf c14
      refine e_iload_n dX9_fires_17 rfl ?_
      refine e_i2l dX9_fires_18 ?_
      refine e_lconst (a := 0) dX9_fires_19 ⟨by decide, by decide, by decide⟩ ?_
      refine e_lconst (a := 1) dX9_fires_20 ⟨by decide, by decide, by decide⟩ ?_
      obtain ⟨r21, e21, hf⟩ := bd_some hf
      refine e_callS3i dX9_fires_21 rfl lk_799 ⟨rfl, rfl, Nat.le_of_ble_eq_true rfl, Nat.le_of_ble_eq_true rfl⟩ (Nat.le_of_ble_eq_true rfl) (q_X9_in (up h 45 0 0)   l2 0 1 e21) ?_
      refine e_if_ne (tgt := 30) dX9_fires_24 (by decide) (fun c24 => ?_) (fun c24 => ?_)
      · replace hf := ifn hf c24
        refine e_aload_n dX9_fires_30 rfl ?_
        refine e_iload_n dX9_fires_31 rfl ?_
        obtain ⟨h32, e32, hf⟩ := bd_some hf
        refine e_callV1v dX9_fires_32 rfl lk_944 ⟨rfl, rfl, Nat.le_of_ble_eq_true rfl, Nat.le_of_ble_eq_true rfl⟩ rfl rfl (Nat.le_of_ble_eq_true rfl) (q_X9_findFires (up h 45 0 0)   l1 e32) ?_
        refine e_iload_n dX9_fires_35 rfl ?_
        refine e_if_ne (tgt := 46) dX9_fires_36 (by decide) (fun c36 => ?_) (fun c36 => ?_)
        · replace hf := ifn hf c36
          refine e_aload_n dX9_fires_46 rfl ?_
          refine e_getI (kz := 36) rfl dX9_fires_47 rfl fl_718 rfl rfl (Or.inl rfl) ?_
          obtain rfl := Option.some.inj hf
          exact e_ireturn dX9_fires_50 rfl ⟨rfl, rfl⟩
        · replace hf := ifp hf c36
          refine e_aload_n dX9_fires_39 rfl ?_
          refine e_getI (kz := 35) rfl dX9_fires_40 rfl fl_717 rfl rfl (Or.inl rfl) ?_
          refine e_goto (tgt := 50) dX9_fires_43 (by decide) ?_
          obtain rfl := Option.some.inj hf
          exact e_ireturn dX9_fires_50 rfl ⟨rfl, rfl⟩
      · replace hf := ifp hf c24
        refine e_bipush dX9_fires_27 ⟨by decide, by decide, by decide⟩ ?_
        obtain rfl := Option.some.inj hf
        exact e_ireturn dX9_fires_29 rfl ⟨rfl, rfl⟩
  exact Cn_of rfl (fun _ => Nat.le_of_ble_eq_true rfl) ⟨rfl, rfl⟩ (e_pad 0 key)
abbrev m_X9_orders : MI := (yX9_orders, cX9_orders, 3, some .int, { frames := 0, cells := 0, slots := 0, locals := 0 })
def p_X9_orders_4 (K4 : Int → Int → Int → Option (Int)) (h : Mem)   (l0 l1 l2 : Int) : Option (Int) :=
  if l0 < l2 then (some l1) else (K4 l0 (wr (l1 * l2)) (wr (l2 + 1)))
set_option maxRecDepth 20000 in
theorem q_X9_orders_4 (K4 : Int → Int → Int → Option (Int)) (h : Mem)     (l0 l1 l2 : Int) {X : Int} (hK4 : ∀ (l0 l1 l2 : Int), K4 l0 l1 l2 = some X → E m_X9_orders none (fun r h' => r = some (vi X) ∧ h' = h) 4 [some (vi l0), some (vi l1), some (vi l2)] [] h) (hf : p_X9_orders_4 K4 h   l0 l1 l2 = some X) : E m_X9_orders none (fun r h' => r = some (vi X) ∧ h' = h) 4 [some (vi l0), some (vi l1), some (vi l2)] [] h := by
  unfold p_X9_orders_4 at hf
  refine e_iload_n dX9_orders_4 rfl ?_
  refine e_iload_n dX9_orders_5 rfl ?_
  refine e_icmp_gt (tgt := 19) dX9_orders_6 (by decide) (fun c6 => ?_) (fun c6 => ?_)
  · replace hf := ifp hf c6
    refine e_iload_n dX9_orders_19 rfl ?_
    obtain rfl := Option.some.inj hf
    exact e_ireturn dX9_orders_20 rfl ⟨rfl, rfl⟩
  · replace hf := ifn hf c6
    refine e_iload_n dX9_orders_9 rfl ?_
    refine e_iload_n dX9_orders_10 rfl ?_
    refine e_imul dX9_orders_11 ?_
    refine e_istore_n (ls' := [some (vi l0), some (vi (wr (l1 * l2))), some (vi l2)]) dX9_orders_12 (Nat.le_of_ble_eq_true rfl) rfl ?_
    refine e_iinc (ls' := [some (vi l0), some (vi (wr (l1 * l2))), some (vi (wr (l2 + 1)))]) dX9_orders_13 rfl (Nat.le_of_ble_eq_true rfl) rfl ?_
    refine e_goto (tgt := 4) dX9_orders_16 (by decide) ?_
    exact e_mask [true, true, true] (hK4 l0 (wr (l1 * l2)) (wr (l2 + 1)) hf)
def p_X9_orders_L4  (h : Mem)   : Nat → Int → Int → Int → Option (Int)
  | 0, _, _, _ => none
  | n + 1, l0, l1, l2 => p_X9_orders_4 (fun (l0 l1 l2 : Int) => p_X9_orders_L4  h   n l0 l1 l2) h   l0 l1 l2
theorem q_X9_orders_L4  (h : Mem)     {X : Int}  : ∀ (n : Nat) (l0 l1 l2 : Int), p_X9_orders_L4  h   n l0 l1 l2 = some X → E m_X9_orders none (fun r h' => r = some (vi X) ∧ h' = h) 4 [some (vi l0), some (vi l1), some (vi l2)] [] h := by
  intro n
  induction n with
  | zero => intro l0 l1 l2 hf; have hf2 : (none : Option (Int)) = some X := hf; cases hf2
  | succ n ih => intro l0 l1 l2 hf; exact q_X9_orders_4 (fun (l0 l1 l2 : Int) => p_X9_orders_L4  h   n l0 l1 l2) h     l0 l1 l2 (fun l0 l1 l2 hf => ih l0 l1 l2 hf) hf
def p_X9_orders (h : Mem)  (l0 : Int) : Option (Int) :=
  p_X9_orders_L4  h   300  l0 1 2
set_option maxRecDepth 20000 in
theorem q_X9_orders (h : Mem)   (l0 : Int) {X : Int} (hf : p_X9_orders h  l0 = some X) : Cn m_X9_orders [vi l0] h (fun r h' => r = some (vi X) ∧ h' = h) := by
  unfold p_X9_orders at hf
  have key : E m_X9_orders none (fun r h' => r = some (vi X) ∧ h' = h) 0 [some (vi l0), none, none] [] h := by
    refine e_iconst dX9_orders_0 ⟨by decide, by decide⟩ ?_
    refine e_istore_n (ls' := [some (vi l0), some (vi 1), none]) dX9_orders_1 (Nat.le_of_ble_eq_true rfl) rfl ?_
    refine e_iconst dX9_orders_2 ⟨by decide, by decide⟩ ?_
    refine e_istore_n (ls' := [some (vi l0), some (vi 1), some (vi 2)]) dX9_orders_3 (Nat.le_of_ble_eq_true rfl) rfl ?_
    exact e_mask [true, true, true] (q_X9_orders_L4  h      300  l0 1 2 hf)
  exact Cn_of rfl (fun _ => Nat.le_of_ble_eq_true rfl) ⟨rfl, rfl⟩ (e_pad 2 key)
abbrev m_X9_divisor : MI := (yX9_divisor, cX9_divisor, 5, some .int, { frames := 0, cells := 0, slots := 0, locals := 0 })
def p_X9_divisor_13 (K13 : Int → Int → Option (Int)) (h : Mem)   (l2 l3 : Int) : Option (Int) :=
  if l3 = 0 then (some l2) else (gd (¬ l3 = 0) (K13 l3 (qrem l2 l3)))
set_option maxRecDepth 20000 in
theorem q_X9_divisor_13 (K13 : Int → Int → Option (Int)) (h : Mem)     (l2 l3 : Int) {X : Int} (hK13 : ∀ (l2 l3 : Int), K13 l2 l3 = some X → E m_X9_divisor none (fun r h' => r = some (vi X) ∧ h' = h) 13 [none, none, some (vi l2), some (vi l3), none] [] h) (hf : p_X9_divisor_13 K13 h   l2 l3 = some X) : E m_X9_divisor none (fun r h' => r = some (vi X) ∧ h' = h) 13 [none, none, some (vi l2), some (vi l3), none] [] h := by
  unfold p_X9_divisor_13 at hf
  refine e_iload_n dX9_divisor_13 rfl ?_
  refine e_if_eq (tgt := 30) dX9_divisor_14 (by decide) (fun c14 => ?_) (fun c14 => ?_)
  · replace hf := ifp hf c14
    refine e_iload_n dX9_divisor_30 rfl ?_
    obtain rfl := Option.some.inj hf
    exact e_ireturn dX9_divisor_31 rfl ⟨rfl, rfl⟩
  · replace hf := ifn hf c14
    refine e_iload_n dX9_divisor_17 rfl ?_
    refine e_iload_n dX9_divisor_18 rfl ?_
    obtain ⟨g19, hf⟩ := gd_some hf
    refine e_irem dX9_divisor_19 g19 ?_
    refine e_istore (ls' := [none, none, some (vi l2), some (vi l3), some (vi (qrem l2 l3))]) dX9_divisor_20 (Nat.le_of_ble_eq_true rfl) rfl ?_
    refine e_iload_n dX9_divisor_22 rfl ?_
    refine e_istore_n (ls' := [none, none, some (vi l3), some (vi l3), some (vi (qrem l2 l3))]) dX9_divisor_23 (Nat.le_of_ble_eq_true rfl) rfl ?_
    refine e_iload dX9_divisor_24 rfl ?_
    refine e_istore_n (ls' := [none, none, some (vi l3), some (vi (qrem l2 l3)), some (vi (qrem l2 l3))]) dX9_divisor_26 (Nat.le_of_ble_eq_true rfl) rfl ?_
    refine e_goto (tgt := 13) dX9_divisor_27 (by decide) ?_
    exact e_mask [false, false, true, true, false] (hK13 l3 (qrem l2 l3) hf)
def p_X9_divisor_L13  (h : Mem)   : Nat → Int → Int → Option (Int)
  | 0, _, _ => none
  | n + 1, l2, l3 => p_X9_divisor_13 (fun (l2 l3 : Int) => p_X9_divisor_L13  h   n l2 l3) h   l2 l3
theorem q_X9_divisor_L13  (h : Mem)     {X : Int}  : ∀ (n : Nat) (l2 l3 : Int), p_X9_divisor_L13  h   n l2 l3 = some X → E m_X9_divisor none (fun r h' => r = some (vi X) ∧ h' = h) 13 [none, none, some (vi l2), some (vi l3), none] [] h := by
  intro n
  induction n with
  | zero => intro l2 l3 hf; have hf2 : (none : Option (Int)) = some X := hf; cases hf2
  | succ n ih => intro l2 l3 hf; exact q_X9_divisor_13 (fun (l2 l3 : Int) => p_X9_divisor_L13  h   n l2 l3) h     l2 l3 (fun l2 l3 hf => ih l2 l3 hf) hf
def p_X9_divisor_10  (h : Mem)   (l1 s0 : Int) : Option (Int) :=
  p_X9_divisor_L13  h   300  s0 l1
set_option maxRecDepth 20000 in
theorem q_X9_divisor_10  (h : Mem)     (l1 s0 : Int) {X : Int}  (hf : p_X9_divisor_10  h   l1 s0 = some X) : E m_X9_divisor none (fun r h' => r = some (vi X) ∧ h' = h) 10 [none, some (vi l1), none, none, none] [vi s0] h := by
  unfold p_X9_divisor_10 at hf
  refine e_istore_n (ls' := [none, some (vi l1), some (vi s0), none, none]) dX9_divisor_10 (Nat.le_of_ble_eq_true rfl) rfl ?_
  refine e_iload_n dX9_divisor_11 rfl ?_
  refine e_istore_n (ls' := [none, some (vi l1), some (vi s0), some (vi l1), none]) dX9_divisor_12 (Nat.le_of_ble_eq_true rfl) rfl ?_
  exact e_mask [false, false, true, true, false] (q_X9_divisor_L13  h      300  s0 l1 hf)
def p_X9_divisor (h : Mem)  (l0 l1 : Int) : Option (Int) :=
  if 0 ≤ l0 then (p_X9_divisor_10  h   l1 l0) else (p_X9_divisor_10  h   l1 (wr (-l0)))
set_option maxRecDepth 20000 in
theorem q_X9_divisor (h : Mem)   (l0 l1 : Int) {X : Int} (hf : p_X9_divisor h  l0 l1 = some X) : Cn m_X9_divisor [vi l0, vi l1] h (fun r h' => r = some (vi X) ∧ h' = h) := by
  unfold p_X9_divisor at hf
  have key : E m_X9_divisor none (fun r h' => r = some (vi X) ∧ h' = h) 0 [some (vi l0), some (vi l1), none, none, none] [] h := by
    refine e_iload_n dX9_divisor_0 rfl ?_
    refine e_if_ge (tgt := 9) dX9_divisor_1 (by decide) (fun c1 => ?_) (fun c1 => ?_)
    · replace hf := ifp hf c1
      refine e_iload_n dX9_divisor_9 rfl ?_
      exact e_mask [false, true, false, false, false] (q_X9_divisor_10  h     l1 l0  hf)
    · replace hf := ifn hf c1
      refine e_iload_n dX9_divisor_4 rfl ?_
      refine e_ineg dX9_divisor_5 ?_
      refine e_goto (tgt := 10) dX9_divisor_6 (by decide) ?_
      exact e_mask [false, true, false, false, false] (q_X9_divisor_10  h     l1 (wr (-l0))  hf)
  exact Cn_of rfl (fun _ => Nat.le_of_ble_eq_true rfl) ⟨rfl, rfl⟩ (e_pad 3 key)
theorem lk_962 : SLk "StarRightModel" 191 m_X9_divisor 2 := ⟨tw_962, tw_963, tw_10, tw_964, by decide +kernel⟩
abbrev m_X9_fraction : MI := (yX9_fraction, cX9_fraction, 4, some .int, { frames := 1, cells := 0, slots := 0, locals := 24 })
def p_X9_fraction (h : Mem)  (l0 l1 l2 : Int) : Option (Int) :=
  bd (p_X9_divisor h l0 l1) (fun r2 => if l2 = 0 then (gd (¬ r2 = 0) (some (qdiv l1 r2))) else (gd (¬ r2 = 0) (some (qdiv l0 r2))))
set_option maxRecDepth 20000 in
theorem q_X9_fraction (h : Mem)   (l0 l1 l2 : Int) {X : Int} (hf : p_X9_fraction h  l0 l1 l2 = some X) : Cn m_X9_fraction [vi l0, vi l1, vi l2] h (fun r h' => r = some (vi X) ∧ h' = h) := by
  unfold p_X9_fraction at hf
  have key : E m_X9_fraction none (fun r h' => r = some (vi X) ∧ h' = h) 0 [some (vi l0), some (vi l1), some (vi l2), none] [] h := by
    refine e_iload_n dX9_fraction_0 rfl ?_
    refine e_iload_n dX9_fraction_1 rfl ?_
    obtain ⟨r2, e2, hf⟩ := bd_some hf
    refine e_callS2i dX9_fraction_2 rfl lk_962 ⟨rfl, rfl, Nat.le_of_ble_eq_true rfl, Nat.le_of_ble_eq_true rfl⟩ (Nat.le_of_ble_eq_true rfl) (q_X9_divisor h   l0 l1 e2) ?_
    refine e_istore_n (ls' := [some (vi l0), some (vi l1), some (vi l2), some (vi r2)]) dX9_fraction_5 (Nat.le_of_ble_eq_true rfl) rfl ?_
    refine e_iload_n dX9_fraction_6 rfl ?_
    refine e_if_eq (tgt := 16) dX9_fraction_7 (by decide) (fun c7 => ?_) (fun c7 => ?_)
    · replace hf := ifp hf c7
      refine e_iload_n dX9_fraction_16 rfl ?_
      refine e_iload_n dX9_fraction_17 rfl ?_
      obtain ⟨g18, hf⟩ := gd_some hf
      refine e_idiv dX9_fraction_18 g18 ?_
      obtain rfl := Option.some.inj hf
      exact e_ireturn dX9_fraction_19 rfl ⟨rfl, rfl⟩
    · replace hf := ifn hf c7
      refine e_iload_n dX9_fraction_10 rfl ?_
      refine e_iload_n dX9_fraction_11 rfl ?_
      obtain ⟨g12, hf⟩ := gd_some hf
      refine e_idiv dX9_fraction_12 g12 ?_
      refine e_goto (tgt := 19) dX9_fraction_13 (by decide) ?_
      obtain rfl := Option.some.inj hf
      exact e_ireturn dX9_fraction_19 rfl ⟨rfl, rfl⟩
  exact Cn_of rfl (fun _ => Nat.le_of_ble_eq_true rfl) ⟨rfl, rfl⟩ (e_pad 1 key)
theorem lk_956 : SLk "StarRightModel" 194 m_X9_orders 1 := ⟨tw_956, tw_957, tw_10, tw_958, by decide +kernel⟩
theorem lk_959 : SLk "StarRightModel" 197 m_X9_fraction 3 := ⟨tw_959, tw_960, tw_10, tw_961, by decide +kernel⟩
abbrev m_X9_share : MI := (yX9_share, cX9_share, 7, some .int, { frames := 5, cells := 0, slots := 0, locals := 130 })
def p_X9_share_158  (h : Mem)   (l3 l4 : Int) : Option (Int × Mem) :=
  bd (p_X9_orders h (h 45 5)) (fun r164 => bd (p_X9_fraction h l4 r164 l3) (fun r168 => some (r168, h)))
set_option maxRecDepth 20000 in
theorem q_X9_share_158  (h : Mem)     (l3 l4 : Int) {X : Int × Mem}  (hf : p_X9_share_158  h   l3 l4 = some X) : E m_X9_share none (fun r h' => r = some (vi X.1) ∧ h' = X.2) 158 [some (vr 45), none, none, some (vi l3), some (vi l4), none, none] [] h := by
  unfold p_X9_share_158 at hf
  refine e_iload dX9_share_158 rfl ?_
  refine e_aload_n dX9_share_160 rfl ?_
  refine e_getI (kz := 5) rfl dX9_share_161 rfl fl_687 rfl rfl (Or.inl rfl) ?_
  obtain ⟨r164, e164, hf⟩ := bd_some hf
  refine e_callS1i dX9_share_164 rfl lk_956 ⟨rfl, rfl, Nat.le_of_ble_eq_true rfl, Nat.le_of_ble_eq_true rfl⟩ (Nat.le_of_ble_eq_true rfl) (q_X9_orders h   (h 45 5) e164) ?_
  refine e_iload_n dX9_share_167 rfl ?_
  obtain ⟨r168, e168, hf⟩ := bd_some hf
  refine e_callS3i dX9_share_168 rfl lk_959 ⟨rfl, rfl, Nat.le_of_ble_eq_true rfl, Nat.le_of_ble_eq_true rfl⟩ (Nat.le_of_ble_eq_true rfl) (q_X9_fraction h   l4 r164 l3 e168) ?_
  obtain rfl := Option.some.inj hf
  exact e_ireturn dX9_share_171 rfl ⟨rfl, rfl⟩
def p_X9_share_152 (K84 : Mem → Int → Int → Int → Int → Option (Int × Mem)) (h : Mem)   (l1 l3 l4 l5 : Int) : Option (Int × Mem) :=
  K84 h l1 l3 l4 (wr (l5 + 1))
set_option maxRecDepth 20000 in
theorem q_X9_share_152 (K84 : Mem → Int → Int → Int → Int → Option (Int × Mem)) (h : Mem)     (l1 l3 l4 l5 : Int) {X : Int × Mem} (hK84 : ∀ (h : Mem) (l1 l3 l4 l5 : Int), K84 h l1 l3 l4 l5 = some X → E m_X9_share none (fun r h' => r = some (vi X.1) ∧ h' = X.2) 84 [some (vr 45), some (vi l1), none, some (vi l3), some (vi l4), some (vi l5), none] [] h) (hf : p_X9_share_152 K84 h   l1 l3 l4 l5 = some X) : E m_X9_share none (fun r h' => r = some (vi X.1) ∧ h' = X.2) 152 [some (vr 45), some (vi l1), none, some (vi l3), some (vi l4), some (vi l5), none] [] h := by
  unfold p_X9_share_152 at hf
  refine e_iinc (ls' := [some (vr 45), some (vi l1), none, some (vi l3), some (vi l4), some (vi (wr (l5 + 1))), none]) dX9_share_152 rfl (Nat.le_of_ble_eq_true rfl) rfl ?_
  refine e_goto (tgt := 84) dX9_share_155 (by decide) ?_
  exact e_mask [true, true, false, true, true, true, false] (hK84 h l1 l3 l4 (wr (l5 + 1)) hf)
def p_X9_share_84 (K84 : Mem → Int → Int → Int → Int → Option (Int × Mem)) (h : Mem)   (l1 l3 l4 l5 : Int) : Option (Int × Mem) :=
  bd (p_X9_all h ) (fun r87 => if r87 < l5 then (p_X9_share_158  h   l3 l4) else (bd (p_X9_has h l5 l1) (fun r96 => if r96 = 0 then (bd (p_X9_many h l5) (fun r104 => bd (p_X9_orders h r104) (fun r113 => bd (p_X9_orders h (wr ((wr ((h 45 5) - 1)) - r104))) (fun r125 => gd (0 ≤ bor l5 (bshl 1 l1) ∧ bor l5 (bshl 1 l1) < 32) (gd (0 ≤ l5 ∧ l5 < 32) (p_X9_share_152 K84 h   l1 l3 (wr (l4 + (wr ((wr (r113 * r125)) * (wr ((h 61 (bor l5 (bshl 1 l1))) - (h 61 l5))))))) l5)))))) else (p_X9_share_152 K84 h   l1 l3 l4 l5))))
set_option maxRecDepth 20000 in
theorem q_X9_share_84 (K84 : Mem → Int → Int → Int → Int → Option (Int × Mem)) (h : Mem)     (l1 l3 l4 l5 : Int) {X : Int × Mem} (hK84 : ∀ (h : Mem) (l1 l3 l4 l5 : Int), K84 h l1 l3 l4 l5 = some X → E m_X9_share none (fun r h' => r = some (vi X.1) ∧ h' = X.2) 84 [some (vr 45), some (vi l1), none, some (vi l3), some (vi l4), some (vi l5), none] [] h) (hf : p_X9_share_84 K84 h   l1 l3 l4 l5 = some X) : E m_X9_share none (fun r h' => r = some (vi X.1) ∧ h' = X.2) 84 [some (vr 45), some (vi l1), none, some (vi l3), some (vi l4), some (vi l5), none] [] h := by
  unfold p_X9_share_84 at hf
  refine e_iload dX9_share_84 rfl ?_
  refine e_aload_n dX9_share_86 rfl ?_
  obtain ⟨r87, e87, hf⟩ := bd_some hf
  refine e_callV0i dX9_share_87 rfl lk_842 ⟨rfl, rfl, Nat.le_of_ble_eq_true rfl, Nat.le_of_ble_eq_true rfl⟩ rfl rfl (Nat.le_of_ble_eq_true rfl) (q_X9_all h    e87) ?_
  refine e_icmp_gt (tgt := 158) dX9_share_90 (by decide) (fun c90 => ?_) (fun c90 => ?_)
  · replace hf := ifp hf c90
    exact e_mask [true, false, false, true, true, false, false] (q_X9_share_158  h     l3 l4  hf)
  · replace hf := ifn hf c90
    refine e_iload dX9_share_93 rfl ?_
    refine e_iload_n dX9_share_95 rfl ?_
    obtain ⟨r96, e96, hf⟩ := bd_some hf
    refine e_callS2i dX9_share_96 rfl lk_850 ⟨rfl, rfl, Nat.le_of_ble_eq_true rfl, Nat.le_of_ble_eq_true rfl⟩ (Nat.le_of_ble_eq_true rfl) (q_X9_has h   l5 l1 e96) ?_
    refine e_if_ne (tgt := 152) dX9_share_99 (by decide) (fun c99 => ?_) (fun c99 => ?_)
    · replace hf := ifn hf c99
      exact e_mask [true, true, false, true, true, true, false] (q_X9_share_152 K84 h     l1 l3 l4 l5 hK84 hf)
    · replace hf := ifp hf c99
      refine e_iload dX9_share_102 rfl ?_
      obtain ⟨r104, e104, hf⟩ := bd_some hf
      refine e_callS1i dX9_share_104 rfl lk_937 ⟨rfl, rfl, Nat.le_of_ble_eq_true rfl, Nat.le_of_ble_eq_true rfl⟩ (Nat.le_of_ble_eq_true rfl) (q_X9_many h   l5 e104) ?_
      refine e_istore (ls' := [some (vr 45), some (vi l1), none, some (vi l3), some (vi l4), some (vi l5), some (vi r104)]) dX9_share_107 (Nat.le_of_ble_eq_true rfl) rfl ?_
      refine e_iload dX9_share_109 rfl ?_
      refine e_iload dX9_share_111 rfl ?_
      obtain ⟨r113, e113, hf⟩ := bd_some hf
      refine e_callS1i dX9_share_113 rfl lk_956 ⟨rfl, rfl, Nat.le_of_ble_eq_true rfl, Nat.le_of_ble_eq_true rfl⟩ (Nat.le_of_ble_eq_true rfl) (q_X9_orders h   r104 e113) ?_
      refine e_aload_n dX9_share_116 rfl ?_
      refine e_getI (kz := 5) rfl dX9_share_117 rfl fl_687 rfl rfl (Or.inl rfl) ?_
      refine e_iconst dX9_share_120 ⟨by decide, by decide⟩ ?_
      refine e_isub dX9_share_121 ?_
      refine e_iload dX9_share_122 rfl ?_
      refine e_isub dX9_share_124 ?_
      obtain ⟨r125, e125, hf⟩ := bd_some hf
      refine e_callS1i dX9_share_125 rfl lk_956 ⟨rfl, rfl, Nat.le_of_ble_eq_true rfl, Nat.le_of_ble_eq_true rfl⟩ (Nat.le_of_ble_eq_true rfl) (q_X9_orders h   (wr ((wr ((h 45 5) - 1)) - r104)) e125) ?_
      refine e_imul dX9_share_128 ?_
      refine e_aload_n dX9_share_129 rfl ?_
      refine e_getR dX9_share_130 rfl fl_709 rfl rfl ?_
      refine e_iload dX9_share_133 rfl ?_
      refine e_iconst dX9_share_135 ⟨by decide, by decide⟩ ?_
      refine e_iload_n dX9_share_136 rfl ?_
      refine e_ishl dX9_share_137 ?_
      refine e_ior dX9_share_138 ?_
      obtain ⟨g139, hf⟩ := gd_some hf
      refine e_iald dX9_share_139 rfl g139 ?_
      refine e_aload_n dX9_share_140 rfl ?_
      refine e_getR dX9_share_141 rfl fl_709 rfl rfl ?_
      refine e_iload dX9_share_144 rfl ?_
      obtain ⟨g146, hf⟩ := gd_some hf
      refine e_iald dX9_share_146 rfl g146 ?_
      refine e_isub dX9_share_147 ?_
      refine e_imul dX9_share_148 ?_
      refine e_iadd dX9_share_149 ?_
      refine e_istore (ls' := [some (vr 45), some (vi l1), none, some (vi l3), some (vi (wr (l4 + (wr ((wr (r113 * r125)) * (wr ((h 61 (bor l5 (bshl 1 l1))) - (h 61 l5)))))))), some (vi l5), some (vi r104)]) dX9_share_150 (Nat.le_of_ble_eq_true rfl) rfl ?_
      exact e_mask [true, true, false, true, true, true, false] (q_X9_share_152 K84 h     l1 l3 (wr (l4 + (wr ((wr (r113 * r125)) * (wr ((h 61 (bor l5 (bshl 1 l1))) - (h 61 l5))))))) l5 hK84 hf)
def p_X9_share_L84     : Nat → Mem → Int → Int → Int → Int → Option (Int × Mem)
  | 0, _, _, _, _, _ => none
  | n + 1, h, l1, l3, l4, l5 => p_X9_share_84 (fun (h : Mem) (l1 l3 l4 l5 : Int) => p_X9_share_L84     n h l1 l3 l4 l5) h   l1 l3 l4 l5
theorem q_X9_share_L84       {X : Int × Mem}  : ∀ (n : Nat) (h : Mem) (l1 l3 l4 l5 : Int), p_X9_share_L84     n h l1 l3 l4 l5 = some X → E m_X9_share none (fun r h' => r = some (vi X.1) ∧ h' = X.2) 84 [some (vr 45), some (vi l1), none, some (vi l3), some (vi l4), some (vi l5), none] [] h := by
  intro n
  induction n with
  | zero => intro h l1 l3 l4 l5 hf; have hf2 : (none : Option (Int × Mem)) = some X := hf; cases hf2
  | succ n ih => intro h l1 l3 l4 l5 hf; exact q_X9_share_84 (fun (h : Mem) (l1 l3 l4 l5 : Int) => p_X9_share_L84     n h l1 l3 l4 l5) h     l1 l3 l4 l5 (fun h l1 l3 l4 l5 hf => ih h l1 l3 l4 l5 hf) hf
def p_X9_share_78  (h : Mem)   (l1 l3 : Int) : Option (Int × Mem) :=
  p_X9_share_L84     300 h l1 l3 0 0
set_option maxRecDepth 20000 in
theorem q_X9_share_78  (h : Mem)     (l1 l3 : Int) {X : Int × Mem}  (hf : p_X9_share_78  h   l1 l3 = some X) : E m_X9_share none (fun r h' => r = some (vi X.1) ∧ h' = X.2) 78 [some (vr 45), some (vi l1), none, some (vi l3), none, none, none] [] h := by
  unfold p_X9_share_78 at hf
  refine e_iconst dX9_share_78 ⟨by decide, by decide⟩ ?_
  refine e_istore (ls' := [some (vr 45), some (vi l1), none, some (vi l3), some (vi 0), none, none]) dX9_share_79 (Nat.le_of_ble_eq_true rfl) rfl ?_
  refine e_iconst dX9_share_81 ⟨by decide, by decide⟩ ?_
  refine e_istore (ls' := [some (vr 45), some (vi l1), none, some (vi l3), some (vi 0), some (vi 0), none]) dX9_share_82 (Nat.le_of_ble_eq_true rfl) rfl ?_
  exact e_mask [true, true, false, true, true, true, false] (q_X9_share_L84        300 h l1 l3 0 0 hf)
def p_X9_share_33 (K33 : Mem → Int → Int → Int → Int → Option (Int × Mem)) (h : Mem)   (l1 l2 l3 l4 : Int) : Option (Int × Mem) :=
  bd (p_X9_all h ) (fun r36 => if r36 < l4 then (p_X9_share_78  h   l1 l3) else (bd (p_X9_rentsOf h 53 l4 (h 53 16) l2 4 (h 45 4)) (fun r68 => gd (0 ≤ l4 ∧ l4 < 32) (K33 (up h 61 l4 r68) l1 l2 l3 (wr (l4 + 1))))))
set_option maxRecDepth 20000 in
theorem q_X9_share_33 (K33 : Mem → Int → Int → Int → Int → Option (Int × Mem)) (h : Mem)     (l1 l2 l3 l4 : Int) {X : Int × Mem} (hK33 : ∀ (h : Mem) (l1 l2 l3 l4 : Int), K33 h l1 l2 l3 l4 = some X → E m_X9_share none (fun r h' => r = some (vi X.1) ∧ h' = X.2) 33 [some (vr 45), some (vi l1), some (vi l2), some (vi l3), some (vi l4), none, none] [] h) (hf : p_X9_share_33 K33 h   l1 l2 l3 l4 = some X) : E m_X9_share none (fun r h' => r = some (vi X.1) ∧ h' = X.2) 33 [some (vr 45), some (vi l1), some (vi l2), some (vi l3), some (vi l4), none, none] [] h := by
  unfold p_X9_share_33 at hf
  refine e_iload dX9_share_33 rfl ?_
  refine e_aload_n dX9_share_35 rfl ?_
  obtain ⟨r36, e36, hf⟩ := bd_some hf
  refine e_callV0i dX9_share_36 rfl lk_842 ⟨rfl, rfl, Nat.le_of_ble_eq_true rfl, Nat.le_of_ble_eq_true rfl⟩ rfl rfl (Nat.le_of_ble_eq_true rfl) (q_X9_all h    e36) ?_
  refine e_icmp_gt (tgt := 78) dX9_share_39 (by decide) (fun c39 => ?_) (fun c39 => ?_)
  · replace hf := ifp hf c39
    exact e_mask [true, true, false, true, false, false, false] (q_X9_share_78  h     l1 l3  hf)
  · replace hf := ifn hf c39
    refine e_aload_n dX9_share_42 rfl ?_
    refine e_getR dX9_share_43 rfl fl_709 rfl rfl ?_
    refine e_iload dX9_share_46 rfl ?_
    refine e_aload_n dX9_share_48 rfl ?_
    refine e_aload_n dX9_share_49 rfl ?_
    refine e_getR dX9_share_50 rfl fl_698 rfl rfl ?_
    refine e_iload dX9_share_53 rfl ?_
    refine e_aload_n dX9_share_55 rfl ?_
    refine e_getR dX9_share_56 rfl fl_698 rfl rfl ?_
    refine e_bipush dX9_share_59 ⟨by decide, by decide, by decide⟩ ?_
    refine e_iald dX9_share_61 rfl (by decide) ?_
    refine e_iload_n dX9_share_62 rfl ?_
    refine e_iconst dX9_share_63 ⟨by decide, by decide⟩ ?_
    refine e_aload_n dX9_share_64 rfl ?_
    refine e_getI (kz := 4) rfl dX9_share_65 rfl fl_686 rfl rfl (Or.inl rfl) ?_
    obtain ⟨r68, e68, hf⟩ := bd_some hf
    refine e_callV6i dX9_share_68 rfl lk_918 ⟨rfl, rfl, Nat.le_of_ble_eq_true rfl, Nat.le_of_ble_eq_true rfl⟩ rfl rfl (Nat.le_of_ble_eq_true rfl) (q_X9_rentsOf h 53 rfl l4 (h 53 16) l2 4 (h 45 4) e68) ?_
    obtain ⟨g71, hf⟩ := gd_some hf
    refine e_iast dX9_share_71 rfl g71 ?_
    refine e_iinc (ls' := [some (vr 45), some (vi l1), some (vi l2), some (vi l3), some (vi (wr (l4 + 1))), none, none]) dX9_share_72 rfl (Nat.le_of_ble_eq_true rfl) rfl ?_
    refine e_goto (tgt := 33) dX9_share_75 (by decide) ?_
    exact e_mask [true, true, true, true, true, false, false] (hK33 (up h 61 l4 r68) l1 l2 l3 (wr (l4 + 1)) hf)
def p_X9_share_L33     : Nat → Mem → Int → Int → Int → Int → Option (Int × Mem)
  | 0, _, _, _, _, _ => none
  | n + 1, h, l1, l2, l3, l4 => p_X9_share_33 (fun (h : Mem) (l1 l2 l3 l4 : Int) => p_X9_share_L33     n h l1 l2 l3 l4) h   l1 l2 l3 l4
theorem q_X9_share_L33       {X : Int × Mem}  : ∀ (n : Nat) (h : Mem) (l1 l2 l3 l4 : Int), p_X9_share_L33     n h l1 l2 l3 l4 = some X → E m_X9_share none (fun r h' => r = some (vi X.1) ∧ h' = X.2) 33 [some (vr 45), some (vi l1), some (vi l2), some (vi l3), some (vi l4), none, none] [] h := by
  intro n
  induction n with
  | zero => intro h l1 l2 l3 l4 hf; have hf2 : (none : Option (Int × Mem)) = some X := hf; cases hf2
  | succ n ih => intro h l1 l2 l3 l4 hf; exact q_X9_share_33 (fun (h : Mem) (l1 l2 l3 l4 : Int) => p_X9_share_L33     n h l1 l2 l3 l4) h     l1 l2 l3 l4 (fun h l1 l2 l3 l4 hf => ih h l1 l2 l3 l4 hf) hf
def p_X9_share (h : Mem)  (l1 l2 l3 : Int) : Option (Int × Mem) :=
  bd (p_X9_noRoof (up h 45 0 0) l1) (fun r7 => if r7 = 0 then (bd (p_X9_in (up h 45 0 0) l2 1 10) (fun r21 => if r21 = 0 then (some ((-2), (up h 45 0 0))) else (p_X9_share_L33     300 (up h 45 0 0) l1 l2 l3 0))) else (some ((-1), (up h 45 0 0))))
set_option maxRecDepth 20000 in
theorem q_X9_share (h : Mem)   (l1 l2 l3 : Int) {X : Int × Mem} (hf : p_X9_share h  l1 l2 l3 = some X) : Cn m_X9_share [vr 45, vi l1, vi l2, vi l3] h (fun r h' => r = some (vi X.1) ∧ h' = X.2) := by
  unfold p_X9_share at hf
  have key : E m_X9_share none (fun r h' => r = some (vi X.1) ∧ h' = X.2) 0 [some (vr 45), some (vi l1), some (vi l2), some (vi l3), none, none, none] [] h := by
    refine e_aload_n dX9_share_0 rfl ?_
    refine e_iconst dX9_share_1 ⟨by decide, by decide⟩ ?_
    refine e_putI (t := 0) (kz := 0) rfl dX9_share_2 rfl fp_682 rfl rfl (Or.inl rfl) ?_
    refine e_aload_n dX9_share_5 rfl ?_
    refine e_iload_n dX9_share_6 rfl ?_
    obtain ⟨r7, e7, hf⟩ := bd_some hf
    refine e_callV1i dX9_share_7 rfl lk_860 ⟨rfl, rfl, Nat.le_of_ble_eq_true rfl, Nat.le_of_ble_eq_true rfl⟩ rfl rfl (Nat.le_of_ble_eq_true rfl) (q_X9_noRoof (up h 45 0 0)   l1 e7) ?_
    refine e_if_eq (tgt := 15) dX9_share_10 (by decide) (fun c10 => ?_) (fun c10 => ?_)
    · replace hf := ifp hf c10
      refine e_iload_n dX9_share_15 rfl ?_
      refine e_i2l dX9_share_16 ?_
      refine e_lconst (a := 1) dX9_share_17 ⟨by decide, by decide, by decide⟩ ?_
      refine e_ldc2 (a := 10) dX9_share_18 rfl tw_936 ⟨by decide, by decide⟩ ?_
      obtain ⟨r21, e21, hf⟩ := bd_some hf
      refine e_callS3i dX9_share_21 rfl lk_799 ⟨rfl, rfl, Nat.le_of_ble_eq_true rfl, Nat.le_of_ble_eq_true rfl⟩ (Nat.le_of_ble_eq_true rfl) (q_X9_in (up h 45 0 0)   l2 1 10 e21) ?_
      refine e_if_ne (tgt := 30) dX9_share_24 (by decide) (fun c24 => ?_) (fun c24 => ?_)
      · replace hf := ifn hf c24
        refine e_iconst dX9_share_30 ⟨by decide, by decide⟩ ?_
        refine e_istore (ls' := [some (vr 45), some (vi l1), some (vi l2), some (vi l3), some (vi 0), none, none]) dX9_share_31 (Nat.le_of_ble_eq_true rfl) rfl ?_
        exact e_mask [true, true, true, true, true, false, false] (q_X9_share_L33        300 (up h 45 0 0) l1 l2 l3 0 hf)
      · replace hf := ifp hf c24
        refine e_bipush dX9_share_27 ⟨by decide, by decide, by decide⟩ ?_
        obtain rfl := Option.some.inj hf
        exact e_ireturn dX9_share_29 rfl ⟨rfl, rfl⟩
    · replace hf := ifn hf c10
      refine e_iconst dX9_share_13 ⟨by decide, by decide⟩ ?_
      obtain rfl := Option.some.inj hf
      exact e_ireturn dX9_share_14 rfl ⟨rfl, rfl⟩
  exact Cn_of rfl (fun _ => Nat.le_of_ble_eq_true rfl) ⟨rfl, rfl⟩ (e_pad 3 key)
abbrev m_X9_bestLaw : MI := (yX9_bestLaw, cX9_bestLaw, 7, some .int, { frames := 5, cells := 0, slots := 0, locals := 130 })
def p_X9_bestLaw_102 (K43 : Mem → Int → Int → Int → Int → Int → Option (Int × Mem)) (h : Mem)   (l1 l2 l3 l5 s0 : Int) : Option (Int × Mem) :=
  K43 h l1 l2 l3 s0 (wr (l5 + 1))
set_option maxRecDepth 20000 in
theorem q_X9_bestLaw_102 (K43 : Mem → Int → Int → Int → Int → Int → Option (Int × Mem)) (h : Mem)     (l1 l2 l3 l5 s0 : Int) {X : Int × Mem} (hK43 : ∀ (h : Mem) (l1 l2 l3 l4 l5 : Int), K43 h l1 l2 l3 l4 l5 = some X → E m_X9_bestLaw none (fun r h' => r = some (vi X.1) ∧ h' = X.2) 43 [some (vr 45), some (vi l1), some (vi l2), some (vi l3), some (vi l4), some (vi l5), none] [] h) (hf : p_X9_bestLaw_102 K43 h   l1 l2 l3 l5 s0 = some X) : E m_X9_bestLaw none (fun r h' => r = some (vi X.1) ∧ h' = X.2) 102 [some (vr 45), some (vi l1), some (vi l2), some (vi l3), none, some (vi l5), none] [vi s0] h := by
  unfold p_X9_bestLaw_102 at hf
  refine e_istore (ls' := [some (vr 45), some (vi l1), some (vi l2), some (vi l3), some (vi s0), some (vi l5), none]) dX9_bestLaw_102 (Nat.le_of_ble_eq_true rfl) rfl ?_
  refine e_iinc (ls' := [some (vr 45), some (vi l1), some (vi l2), some (vi l3), some (vi s0), some (vi (wr (l5 + 1))), none]) dX9_bestLaw_104 rfl (Nat.le_of_ble_eq_true rfl) rfl ?_
  refine e_goto (tgt := 43) dX9_bestLaw_107 (by decide) ?_
  exact e_mask [true, true, true, true, true, true, false] (hK43 h l1 l2 l3 s0 (wr (l5 + 1)) hf)
def p_X9_bestLaw_87 (K43 : Mem → Int → Int → Int → Int → Int → Option (Int × Mem)) (h : Mem)   (l1 l2 l4 l5 l6 s0 : Int) : Option (Int × Mem) :=
  if l6 ≤ l4 then (p_X9_bestLaw_102 K43 h   l1 l2 s0 l5 l4) else (p_X9_bestLaw_102 K43 h   l1 l2 s0 l5 l6)
set_option maxRecDepth 20000 in
theorem q_X9_bestLaw_87 (K43 : Mem → Int → Int → Int → Int → Int → Option (Int × Mem)) (h : Mem)     (l1 l2 l4 l5 l6 s0 : Int) {X : Int × Mem} (hK43 : ∀ (h : Mem) (l1 l2 l3 l4 l5 : Int), K43 h l1 l2 l3 l4 l5 = some X → E m_X9_bestLaw none (fun r h' => r = some (vi X.1) ∧ h' = X.2) 43 [some (vr 45), some (vi l1), some (vi l2), some (vi l3), some (vi l4), some (vi l5), none] [] h) (hf : p_X9_bestLaw_87 K43 h   l1 l2 l4 l5 l6 s0 = some X) : E m_X9_bestLaw none (fun r h' => r = some (vi X.1) ∧ h' = X.2) 87 [some (vr 45), some (vi l1), some (vi l2), none, some (vi l4), some (vi l5), some (vi l6)] [vi s0] h := by
  unfold p_X9_bestLaw_87 at hf
  refine e_istore_n (ls' := [some (vr 45), some (vi l1), some (vi l2), some (vi s0), some (vi l4), some (vi l5), some (vi l6)]) dX9_bestLaw_87 (Nat.le_of_ble_eq_true rfl) rfl ?_
  refine e_iload dX9_bestLaw_88 rfl ?_
  refine e_iload dX9_bestLaw_90 rfl ?_
  refine e_icmp_le (tgt := 100) dX9_bestLaw_92 (by decide) (fun c92 => ?_) (fun c92 => ?_)
  · replace hf := ifp hf c92
    refine e_iload dX9_bestLaw_100 rfl ?_
    exact e_mask [true, true, true, true, false, true, false] (q_X9_bestLaw_102 K43 h     l1 l2 s0 l5 l4 hK43 hf)
  · replace hf := ifn hf c92
    refine e_iload dX9_bestLaw_95 rfl ?_
    refine e_goto (tgt := 102) dX9_bestLaw_97 (by decide) ?_
    exact e_mask [true, true, true, true, false, true, false] (q_X9_bestLaw_102 K43 h     l1 l2 s0 l5 l6 hK43 hf)
def p_X9_bestLaw_43 (K43 : Mem → Int → Int → Int → Int → Int → Option (Int × Mem)) (h : Mem)   (l1 l2 l3 l4 l5 : Int) : Option (Int × Mem) :=
  if 3 ≤ l5 then (some (l3, h)) else (bd (p_X9_all h ) (fun r55 => bd (p_X9_rentsOf h 53 r55 (h 53 16) l2 l1 l5) (fun r69 => if r69 ≤ l4 then (p_X9_bestLaw_87 K43 h   l1 l2 l4 l5 r69 l3) else (p_X9_bestLaw_87 K43 h   l1 l2 l4 l5 r69 l5))))
set_option maxRecDepth 20000 in
theorem q_X9_bestLaw_43 (K43 : Mem → Int → Int → Int → Int → Int → Option (Int × Mem)) (h : Mem)     (l1 l2 l3 l4 l5 : Int) {X : Int × Mem} (hK43 : ∀ (h : Mem) (l1 l2 l3 l4 l5 : Int), K43 h l1 l2 l3 l4 l5 = some X → E m_X9_bestLaw none (fun r h' => r = some (vi X.1) ∧ h' = X.2) 43 [some (vr 45), some (vi l1), some (vi l2), some (vi l3), some (vi l4), some (vi l5), none] [] h) (hf : p_X9_bestLaw_43 K43 h   l1 l2 l3 l4 l5 = some X) : E m_X9_bestLaw none (fun r h' => r = some (vi X.1) ∧ h' = X.2) 43 [some (vr 45), some (vi l1), some (vi l2), some (vi l3), some (vi l4), some (vi l5), none] [] h := by
  unfold p_X9_bestLaw_43 at hf
  refine e_iload dX9_bestLaw_43 rfl ?_
  refine e_iconst dX9_bestLaw_45 ⟨by decide, by decide⟩ ?_
  refine e_icmp_ge (tgt := 110) dX9_bestLaw_46 (by decide) (fun c46 => ?_) (fun c46 => ?_)
  · replace hf := ifp hf c46
    refine e_iload_n dX9_bestLaw_110 rfl ?_
    obtain rfl := Option.some.inj hf
    exact e_ireturn dX9_bestLaw_111 rfl ⟨rfl, rfl⟩
  · replace hf := ifn hf c46
    refine e_aload_n dX9_bestLaw_49 rfl ?_
    refine e_aload_n dX9_bestLaw_50 rfl ?_
    refine e_getR dX9_bestLaw_51 rfl fl_698 rfl rfl ?_
    refine e_aload_n dX9_bestLaw_54 rfl ?_
    obtain ⟨r55, e55, hf⟩ := bd_some hf
    refine e_callV0i dX9_bestLaw_55 rfl lk_842 ⟨rfl, rfl, Nat.le_of_ble_eq_true rfl, Nat.le_of_ble_eq_true rfl⟩ rfl rfl (Nat.le_of_ble_eq_true rfl) (q_X9_all h    e55) ?_
    refine e_aload_n dX9_bestLaw_58 rfl ?_
    refine e_getR dX9_bestLaw_59 rfl fl_698 rfl rfl ?_
    refine e_bipush dX9_bestLaw_62 ⟨by decide, by decide, by decide⟩ ?_
    refine e_iald dX9_bestLaw_64 rfl (by decide) ?_
    refine e_iload_n dX9_bestLaw_65 rfl ?_
    refine e_iload_n dX9_bestLaw_66 rfl ?_
    refine e_iload dX9_bestLaw_67 rfl ?_
    obtain ⟨r69, e69, hf⟩ := bd_some hf
    refine e_callV6i dX9_bestLaw_69 rfl lk_918 ⟨rfl, rfl, Nat.le_of_ble_eq_true rfl, Nat.le_of_ble_eq_true rfl⟩ rfl rfl (Nat.le_of_ble_eq_true rfl) (q_X9_rentsOf h 53 rfl r55 (h 53 16) l2 l1 l5 e69) ?_
    refine e_istore (ls' := [some (vr 45), some (vi l1), some (vi l2), some (vi l3), some (vi l4), some (vi l5), some (vi r69)]) dX9_bestLaw_72 (Nat.le_of_ble_eq_true rfl) rfl ?_
    refine e_iload dX9_bestLaw_74 rfl ?_
    refine e_iload dX9_bestLaw_76 rfl ?_
    refine e_icmp_le (tgt := 86) dX9_bestLaw_78 (by decide) (fun c78 => ?_) (fun c78 => ?_)
    · replace hf := ifp hf c78
      refine e_iload_n dX9_bestLaw_86 rfl ?_
      exact e_mask [true, true, true, false, true, true, true] (q_X9_bestLaw_87 K43 h     l1 l2 l4 l5 r69 l3 hK43 hf)
    · replace hf := ifn hf c78
      refine e_iload dX9_bestLaw_81 rfl ?_
      refine e_goto (tgt := 87) dX9_bestLaw_83 (by decide) ?_
      exact e_mask [true, true, true, false, true, true, true] (q_X9_bestLaw_87 K43 h     l1 l2 l4 l5 r69 l5 hK43 hf)
def p_X9_bestLaw_L43     : Nat → Mem → Int → Int → Int → Int → Int → Option (Int × Mem)
  | 0, _, _, _, _, _, _ => none
  | n + 1, h, l1, l2, l3, l4, l5 => p_X9_bestLaw_43 (fun (h : Mem) (l1 l2 l3 l4 l5 : Int) => p_X9_bestLaw_L43     n h l1 l2 l3 l4 l5) h   l1 l2 l3 l4 l5
theorem q_X9_bestLaw_L43       {X : Int × Mem}  : ∀ (n : Nat) (h : Mem) (l1 l2 l3 l4 l5 : Int), p_X9_bestLaw_L43     n h l1 l2 l3 l4 l5 = some X → E m_X9_bestLaw none (fun r h' => r = some (vi X.1) ∧ h' = X.2) 43 [some (vr 45), some (vi l1), some (vi l2), some (vi l3), some (vi l4), some (vi l5), none] [] h := by
  intro n
  induction n with
  | zero => intro h l1 l2 l3 l4 l5 hf; have hf2 : (none : Option (Int × Mem)) = some X := hf; cases hf2
  | succ n ih => intro h l1 l2 l3 l4 l5 hf; exact q_X9_bestLaw_43 (fun (h : Mem) (l1 l2 l3 l4 l5 : Int) => p_X9_bestLaw_L43     n h l1 l2 l3 l4 l5) h     l1 l2 l3 l4 l5 (fun h l1 l2 l3 l4 l5 hf => ih h l1 l2 l3 l4 l5 hf) hf
def p_X9_bestLaw (h : Mem)  (l1 l2 : Int) : Option (Int × Mem) :=
  bd (p_X9_in (up h 45 0 0) l1 0 3) (fun r11 => if r11 = 0 then (some ((-1), (up h 45 0 0))) else (bd (p_X9_in (up h 45 0 0) l2 0 12) (fun r25 => if r25 = 0 then (some ((-2), (up h 45 0 0))) else (p_X9_bestLaw_L43     300 (up h 45 0 0) l1 l2 0 (-9) 0))))
set_option maxRecDepth 20000 in
theorem q_X9_bestLaw (h : Mem)   (l1 l2 : Int) {X : Int × Mem} (hf : p_X9_bestLaw h  l1 l2 = some X) : Cn m_X9_bestLaw [vr 45, vi l1, vi l2] h (fun r h' => r = some (vi X.1) ∧ h' = X.2) := by
  unfold p_X9_bestLaw at hf
  have key : E m_X9_bestLaw none (fun r h' => r = some (vi X.1) ∧ h' = X.2) 0 [some (vr 45), some (vi l1), some (vi l2), none, none, none, none] [] h := by
    refine e_aload_n dX9_bestLaw_0 rfl ?_
    refine e_iconst dX9_bestLaw_1 ⟨by decide, by decide⟩ ?_
    refine e_putI (t := 0) (kz := 0) rfl dX9_bestLaw_2 rfl fp_682 rfl rfl (Or.inl rfl) ?_
    refine e_iload_n dX9_bestLaw_5 rfl ?_
    refine e_i2l dX9_bestLaw_6 ?_
    refine e_lconst (a := 0) dX9_bestLaw_7 ⟨by decide, by decide, by decide⟩ ?_
    refine e_ldc2 (a := 3) dX9_bestLaw_8 rfl tw_892 ⟨by decide, by decide⟩ ?_
    obtain ⟨r11, e11, hf⟩ := bd_some hf
    refine e_callS3i dX9_bestLaw_11 rfl lk_799 ⟨rfl, rfl, Nat.le_of_ble_eq_true rfl, Nat.le_of_ble_eq_true rfl⟩ (Nat.le_of_ble_eq_true rfl) (q_X9_in (up h 45 0 0)   l1 0 3 e11) ?_
    refine e_if_ne (tgt := 19) dX9_bestLaw_14 (by decide) (fun c14 => ?_) (fun c14 => ?_)
    · replace hf := ifn hf c14
      refine e_iload_n dX9_bestLaw_19 rfl ?_
      refine e_i2l dX9_bestLaw_20 ?_
      refine e_lconst (a := 0) dX9_bestLaw_21 ⟨by decide, by decide, by decide⟩ ?_
      refine e_ldc2 (a := 12) dX9_bestLaw_22 rfl tw_931 ⟨by decide, by decide⟩ ?_
      obtain ⟨r25, e25, hf⟩ := bd_some hf
      refine e_callS3i dX9_bestLaw_25 rfl lk_799 ⟨rfl, rfl, Nat.le_of_ble_eq_true rfl, Nat.le_of_ble_eq_true rfl⟩ (Nat.le_of_ble_eq_true rfl) (q_X9_in (up h 45 0 0)   l2 0 12 e25) ?_
      refine e_if_ne (tgt := 34) dX9_bestLaw_28 (by decide) (fun c28 => ?_) (fun c28 => ?_)
      · replace hf := ifn hf c28
        refine e_iconst dX9_bestLaw_34 ⟨by decide, by decide⟩ ?_
        refine e_istore_n (ls' := [some (vr 45), some (vi l1), some (vi l2), some (vi 0), none, none, none]) dX9_bestLaw_35 (Nat.le_of_ble_eq_true rfl) rfl ?_
        refine e_bipush dX9_bestLaw_36 ⟨by decide, by decide, by decide⟩ ?_
        refine e_istore (ls' := [some (vr 45), some (vi l1), some (vi l2), some (vi 0), some (vi (-9)), none, none]) dX9_bestLaw_38 (Nat.le_of_ble_eq_true rfl) rfl ?_
        refine e_iconst dX9_bestLaw_40 ⟨by decide, by decide⟩ ?_
        refine e_istore (ls' := [some (vr 45), some (vi l1), some (vi l2), some (vi 0), some (vi (-9)), some (vi 0), none]) dX9_bestLaw_41 (Nat.le_of_ble_eq_true rfl) rfl ?_
        exact e_mask [true, true, true, true, true, true, false] (q_X9_bestLaw_L43        300 (up h 45 0 0) l1 l2 0 (-9) 0 hf)
      · replace hf := ifp hf c28
        refine e_bipush dX9_bestLaw_31 ⟨by decide, by decide, by decide⟩ ?_
        obtain rfl := Option.some.inj hf
        exact e_ireturn dX9_bestLaw_33 rfl ⟨rfl, rfl⟩
    · replace hf := ifp hf c14
      refine e_iconst dX9_bestLaw_17 ⟨by decide, by decide⟩ ?_
      obtain rfl := Option.some.inj hf
      exact e_ireturn dX9_bestLaw_18 rfl ⟨rfl, rfl⟩
  exact Cn_of rfl (fun _ => Nat.le_of_ble_eq_true rfl) ⟨rfl, rfl⟩ (e_pad 4 key)
abbrev m_X9_starless : MI := (yX9_starless, cX9_starless, 7, some .int, { frames := 4, cells := 0, slots := 0, locals := 100 })
def p_X9_starless_155 (K155 : Mem → Int → Int → Int → Option (Int × Mem)) (h : Mem)   (l2 l3 l4 : Int) : Option (Int × Mem) :=
  if 4 ≤ l4 then (some ((-9), h)) else (bd (p_X9_has h (band l2 (bxor l3 (-1))) l4) (fun r168 => if r168 = 0 then (K155 h l2 l3 (wr (l4 + 1))) else (some (l4, h))))
set_option maxRecDepth 20000 in
theorem q_X9_starless_155 (K155 : Mem → Int → Int → Int → Option (Int × Mem)) (h : Mem)     (l2 l3 l4 : Int) {X : Int × Mem} (hK155 : ∀ (h : Mem) (l2 l3 l4 : Int), K155 h l2 l3 l4 = some X → E m_X9_starless none (fun r h' => r = some (vi X.1) ∧ h' = X.2) 155 [some (vr 45), none, some (vi l2), some (vi l3), some (vi l4), none, none] [] h) (hf : p_X9_starless_155 K155 h   l2 l3 l4 = some X) : E m_X9_starless none (fun r h' => r = some (vi X.1) ∧ h' = X.2) 155 [some (vr 45), none, some (vi l2), some (vi l3), some (vi l4), none, none] [] h := by
  unfold p_X9_starless_155 at hf
  refine e_iload dX9_starless_155 rfl ?_
  refine e_iconst dX9_starless_157 ⟨by decide, by decide⟩ ?_
  refine e_icmp_ge (tgt := 183) dX9_starless_158 (by decide) (fun c158 => ?_) (fun c158 => ?_)
  · replace hf := ifp hf c158
    refine e_bipush dX9_starless_183 ⟨by decide, by decide, by decide⟩ ?_
    obtain rfl := Option.some.inj hf
    exact e_ireturn dX9_starless_185 rfl ⟨rfl, rfl⟩
  · replace hf := ifn hf c158
    refine e_iload_n dX9_starless_161 rfl ?_
    refine e_iload_n dX9_starless_162 rfl ?_
    refine e_iconst dX9_starless_163 ⟨by decide, by decide⟩ ?_
    refine e_ixor dX9_starless_164 ?_
    refine e_iand dX9_starless_165 ?_
    refine e_iload dX9_starless_166 rfl ?_
    obtain ⟨r168, e168, hf⟩ := bd_some hf
    refine e_callS2i dX9_starless_168 rfl lk_850 ⟨rfl, rfl, Nat.le_of_ble_eq_true rfl, Nat.le_of_ble_eq_true rfl⟩ (Nat.le_of_ble_eq_true rfl) (q_X9_has h   (band l2 (bxor l3 (-1))) l4 e168) ?_
    refine e_if_eq (tgt := 177) dX9_starless_171 (by decide) (fun c171 => ?_) (fun c171 => ?_)
    · replace hf := ifp hf c171
      refine e_iinc (ls' := [some (vr 45), none, some (vi l2), some (vi l3), some (vi (wr (l4 + 1))), none, none]) dX9_starless_177 rfl (Nat.le_of_ble_eq_true rfl) rfl ?_
      refine e_goto (tgt := 155) dX9_starless_180 (by decide) ?_
      exact e_mask [true, false, true, true, true, false, false] (hK155 h l2 l3 (wr (l4 + 1)) hf)
    · replace hf := ifn hf c171
      refine e_iload dX9_starless_174 rfl ?_
      obtain rfl := Option.some.inj hf
      exact e_ireturn dX9_starless_176 rfl ⟨rfl, rfl⟩
def p_X9_starless_L155     : Nat → Mem → Int → Int → Int → Option (Int × Mem)
  | 0, _, _, _, _ => none
  | n + 1, h, l2, l3, l4 => p_X9_starless_155 (fun (h : Mem) (l2 l3 l4 : Int) => p_X9_starless_L155     n h l2 l3 l4) h   l2 l3 l4
theorem q_X9_starless_L155       {X : Int × Mem}  : ∀ (n : Nat) (h : Mem) (l2 l3 l4 : Int), p_X9_starless_L155     n h l2 l3 l4 = some X → E m_X9_starless none (fun r h' => r = some (vi X.1) ∧ h' = X.2) 155 [some (vr 45), none, some (vi l2), some (vi l3), some (vi l4), none, none] [] h := by
  intro n
  induction n with
  | zero => intro h l2 l3 l4 hf; have hf2 : (none : Option (Int × Mem)) = some X := hf; cases hf2
  | succ n ih => intro h l2 l3 l4 hf; exact q_X9_starless_155 (fun (h : Mem) (l2 l3 l4 : Int) => p_X9_starless_L155     n h l2 l3 l4) h     l2 l3 l4 (fun h l2 l3 l4 hf => ih h l2 l3 l4 hf) hf
def p_X9_starless_152  (h : Mem)   (l2 l3 : Int) : Option (Int × Mem) :=
  p_X9_starless_L155     300 h l2 l3 0
set_option maxRecDepth 20000 in
theorem q_X9_starless_152  (h : Mem)     (l2 l3 : Int) {X : Int × Mem}  (hf : p_X9_starless_152  h   l2 l3 = some X) : E m_X9_starless none (fun r h' => r = some (vi X.1) ∧ h' = X.2) 152 [some (vr 45), none, some (vi l2), some (vi l3), none, none, none] [] h := by
  unfold p_X9_starless_152 at hf
  refine e_iconst dX9_starless_152 ⟨by decide, by decide⟩ ?_
  refine e_istore (ls' := [some (vr 45), none, some (vi l2), some (vi l3), some (vi 0), none, none]) dX9_starless_153 (Nat.le_of_ble_eq_true rfl) rfl ?_
  exact e_mask [true, false, true, true, true, false, false] (q_X9_starless_L155        300 h l2 l3 0 hf)
def p_X9_starless_146 (K66 : Mem → Int → Int → Int → Int → Option (Int × Mem)) (h : Mem)   (l1 l2 l3 l4 : Int) : Option (Int × Mem) :=
  K66 h l1 l2 l3 (wr (l4 + 1))
set_option maxRecDepth 20000 in
theorem q_X9_starless_146 (K66 : Mem → Int → Int → Int → Int → Option (Int × Mem)) (h : Mem)     (l1 l2 l3 l4 : Int) {X : Int × Mem} (hK66 : ∀ (h : Mem) (l1 l2 l3 l4 : Int), K66 h l1 l2 l3 l4 = some X → E m_X9_starless none (fun r h' => r = some (vi X.1) ∧ h' = X.2) 66 [some (vr 45), some (vi l1), some (vi l2), some (vi l3), some (vi l4), none, none] [] h) (hf : p_X9_starless_146 K66 h   l1 l2 l3 l4 = some X) : E m_X9_starless none (fun r h' => r = some (vi X.1) ∧ h' = X.2) 146 [some (vr 45), some (vi l1), some (vi l2), some (vi l3), some (vi l4), none, none] [] h := by
  unfold p_X9_starless_146 at hf
  refine e_iinc (ls' := [some (vr 45), some (vi l1), some (vi l2), some (vi l3), some (vi (wr (l4 + 1))), none, none]) dX9_starless_146 rfl (Nat.le_of_ble_eq_true rfl) rfl ?_
  refine e_goto (tgt := 66) dX9_starless_149 (by decide) ?_
  exact e_mask [true, true, true, true, true, false, false] (hK66 h l1 l2 l3 (wr (l4 + 1)) hf)
def p_X9_starless_138 (K66 : Mem → Int → Int → Int → Int → Option (Int × Mem)) (K83 : Mem → Int → Int → Int → Int → Int → Option (Int × Mem)) (h : Mem)   (l1 l2 l4 l5 s0 s1 : Int) : Option (Int × Mem) :=
  K83 h l1 l2 (bor s0 s1) l4 (wr (l5 + 1))
set_option maxRecDepth 20000 in
theorem q_X9_starless_138 (K66 : Mem → Int → Int → Int → Int → Option (Int × Mem)) (K83 : Mem → Int → Int → Int → Int → Int → Option (Int × Mem)) (h : Mem)     (l1 l2 l4 l5 s0 s1 : Int) {X : Int × Mem} (hK66 : ∀ (h : Mem) (l1 l2 l3 l4 : Int), K66 h l1 l2 l3 l4 = some X → E m_X9_starless none (fun r h' => r = some (vi X.1) ∧ h' = X.2) 66 [some (vr 45), some (vi l1), some (vi l2), some (vi l3), some (vi l4), none, none] [] h) (hK83 : ∀ (h : Mem) (l1 l2 l3 l4 l5 : Int), K83 h l1 l2 l3 l4 l5 = some X → E m_X9_starless none (fun r h' => r = some (vi X.1) ∧ h' = X.2) 83 [some (vr 45), some (vi l1), some (vi l2), some (vi l3), some (vi l4), some (vi l5), none] [] h) (hf : p_X9_starless_138 K66 K83 h   l1 l2 l4 l5 s0 s1 = some X) : E m_X9_starless none (fun r h' => r = some (vi X.1) ∧ h' = X.2) 138 [some (vr 45), some (vi l1), some (vi l2), none, some (vi l4), some (vi l5), none] [vi s1, vi s0] h := by
  unfold p_X9_starless_138 at hf
  refine e_ior dX9_starless_138 ?_
  refine e_istore_n (ls' := [some (vr 45), some (vi l1), some (vi l2), some (vi (bor s0 s1)), some (vi l4), some (vi l5), none]) dX9_starless_139 (Nat.le_of_ble_eq_true rfl) rfl ?_
  refine e_iinc (ls' := [some (vr 45), some (vi l1), some (vi l2), some (vi (bor s0 s1)), some (vi l4), some (vi (wr (l5 + 1))), none]) dX9_starless_140 rfl (Nat.le_of_ble_eq_true rfl) rfl ?_
  refine e_goto (tgt := 83) dX9_starless_143 (by decide) ?_
  exact e_mask [true, true, true, true, true, true, false] (hK83 h l1 l2 (bor s0 s1) l4 (wr (l5 + 1)) hf)
def p_X9_starless_83 (K66 : Mem → Int → Int → Int → Int → Option (Int × Mem)) (K83 : Mem → Int → Int → Int → Int → Int → Option (Int × Mem)) (h : Mem)   (l1 l2 l3 l4 l5 : Int) : Option (Int × Mem) :=
  if h 45 6 ≤ l5 then (p_X9_starless_146 K66 h   l1 l2 l3 l4) else (bd (p_X9_all h ) (fun r98 => bd (p_X9_holder h 53 r98 l5 l4 (h 45 4)) (fun r109 => if r109 = (-9) then (p_X9_starless_138 K66 K83 h   l1 l2 l4 l5 l3 0) else (gd (0 ≤ wr (6 + r109) ∧ wr (6 + r109) < 17) (p_X9_starless_138 K66 K83 h   l1 l2 l4 l5 l3 (bshl 1 (h 53 (wr (6 + r109)))))))))
set_option maxRecDepth 20000 in
theorem q_X9_starless_83 (K66 : Mem → Int → Int → Int → Int → Option (Int × Mem)) (K83 : Mem → Int → Int → Int → Int → Int → Option (Int × Mem)) (h : Mem)     (l1 l2 l3 l4 l5 : Int) {X : Int × Mem} (hK66 : ∀ (h : Mem) (l1 l2 l3 l4 : Int), K66 h l1 l2 l3 l4 = some X → E m_X9_starless none (fun r h' => r = some (vi X.1) ∧ h' = X.2) 66 [some (vr 45), some (vi l1), some (vi l2), some (vi l3), some (vi l4), none, none] [] h) (hK83 : ∀ (h : Mem) (l1 l2 l3 l4 l5 : Int), K83 h l1 l2 l3 l4 l5 = some X → E m_X9_starless none (fun r h' => r = some (vi X.1) ∧ h' = X.2) 83 [some (vr 45), some (vi l1), some (vi l2), some (vi l3), some (vi l4), some (vi l5), none] [] h) (hf : p_X9_starless_83 K66 K83 h   l1 l2 l3 l4 l5 = some X) : E m_X9_starless none (fun r h' => r = some (vi X.1) ∧ h' = X.2) 83 [some (vr 45), some (vi l1), some (vi l2), some (vi l3), some (vi l4), some (vi l5), none] [] h := by
  unfold p_X9_starless_83 at hf
  refine e_iload dX9_starless_83 rfl ?_
  refine e_aload_n dX9_starless_85 rfl ?_
  refine e_getI (kz := 6) rfl dX9_starless_86 rfl fl_688 rfl rfl (Or.inl rfl) ?_
  refine e_icmp_ge (tgt := 146) dX9_starless_89 (by decide) (fun c89 => ?_) (fun c89 => ?_)
  · replace hf := ifp hf c89
    exact e_mask [true, true, true, true, true, false, false] (q_X9_starless_146 K66 h     l1 l2 l3 l4 hK66 hf)
  · replace hf := ifn hf c89
    refine e_aload_n dX9_starless_92 rfl ?_
    refine e_aload_n dX9_starless_93 rfl ?_
    refine e_getR dX9_starless_94 rfl fl_698 rfl rfl ?_
    refine e_aload_n dX9_starless_97 rfl ?_
    obtain ⟨r98, e98, hf⟩ := bd_some hf
    refine e_callV0i dX9_starless_98 rfl lk_842 ⟨rfl, rfl, Nat.le_of_ble_eq_true rfl, Nat.le_of_ble_eq_true rfl⟩ rfl rfl (Nat.le_of_ble_eq_true rfl) (q_X9_all h    e98) ?_
    refine e_iload dX9_starless_101 rfl ?_
    refine e_iload dX9_starless_103 rfl ?_
    refine e_aload_n dX9_starless_105 rfl ?_
    refine e_getI (kz := 4) rfl dX9_starless_106 rfl fl_686 rfl rfl (Or.inl rfl) ?_
    obtain ⟨r109, e109, hf⟩ := bd_some hf
    refine e_callV5i dX9_starless_109 rfl lk_868 ⟨rfl, rfl, Nat.le_of_ble_eq_true rfl, Nat.le_of_ble_eq_true rfl⟩ rfl rfl (Nat.le_of_ble_eq_true rfl) (q_X9_holder h 53 rfl r98 l5 l4 (h 45 4) e109) ?_
    refine e_istore (ls' := [some (vr 45), some (vi l1), some (vi l2), some (vi l3), some (vi l4), some (vi l5), some (vi r109)]) dX9_starless_112 (Nat.le_of_ble_eq_true rfl) rfl ?_
    refine e_iload_n dX9_starless_114 rfl ?_
    refine e_iload dX9_starless_115 rfl ?_
    refine e_bipush dX9_starless_117 ⟨by decide, by decide, by decide⟩ ?_
    refine e_icmp_ne (tgt := 126) dX9_starless_119 (by decide) (fun c119 => ?_) (fun c119 => ?_)
    · replace hf := ifn hf c119
      refine e_iconst dX9_starless_126 ⟨by decide, by decide⟩ ?_
      refine e_aload_n dX9_starless_127 rfl ?_
      refine e_getR dX9_starless_128 rfl fl_698 rfl rfl ?_
      refine e_bipush dX9_starless_131 ⟨by decide, by decide, by decide⟩ ?_
      refine e_iload dX9_starless_133 rfl ?_
      refine e_iadd dX9_starless_135 ?_
      obtain ⟨g136, hf⟩ := gd_some hf
      refine e_iald dX9_starless_136 rfl g136 ?_
      refine e_ishl dX9_starless_137 ?_
      exact e_mask [true, true, true, false, true, true, false] (q_X9_starless_138 K66 K83 h     l1 l2 l4 l5 l3 (bshl 1 (h 53 (wr (6 + r109)))) hK66 hK83 hf)
    · replace hf := ifp hf c119
      refine e_iconst dX9_starless_122 ⟨by decide, by decide⟩ ?_
      refine e_goto (tgt := 138) dX9_starless_123 (by decide) ?_
      exact e_mask [true, true, true, false, true, true, false] (q_X9_starless_138 K66 K83 h     l1 l2 l4 l5 l3 0 hK66 hK83 hf)
def p_X9_starless_L83 (K66 : Mem → Int → Int → Int → Int → Option (Int × Mem))    : Nat → Mem → Int → Int → Int → Int → Int → Option (Int × Mem)
  | 0, _, _, _, _, _, _ => none
  | n + 1, h, l1, l2, l3, l4, l5 => p_X9_starless_83 K66 (fun (h : Mem) (l1 l2 l3 l4 l5 : Int) => p_X9_starless_L83 K66    n h l1 l2 l3 l4 l5) h   l1 l2 l3 l4 l5
theorem q_X9_starless_L83 (K66 : Mem → Int → Int → Int → Int → Option (Int × Mem))      {X : Int × Mem} (hK66 : ∀ (h : Mem) (l1 l2 l3 l4 : Int), K66 h l1 l2 l3 l4 = some X → E m_X9_starless none (fun r h' => r = some (vi X.1) ∧ h' = X.2) 66 [some (vr 45), some (vi l1), some (vi l2), some (vi l3), some (vi l4), none, none] [] h) : ∀ (n : Nat) (h : Mem) (l1 l2 l3 l4 l5 : Int), p_X9_starless_L83 K66    n h l1 l2 l3 l4 l5 = some X → E m_X9_starless none (fun r h' => r = some (vi X.1) ∧ h' = X.2) 83 [some (vr 45), some (vi l1), some (vi l2), some (vi l3), some (vi l4), some (vi l5), none] [] h := by
  intro n
  induction n with
  | zero => intro h l1 l2 l3 l4 l5 hf; have hf2 : (none : Option (Int × Mem)) = some X := hf; cases hf2
  | succ n ih => intro h l1 l2 l3 l4 l5 hf; exact q_X9_starless_83 K66 (fun (h : Mem) (l1 l2 l3 l4 l5 : Int) => p_X9_starless_L83 K66    n h l1 l2 l3 l4 l5) h     l1 l2 l3 l4 l5 hK66 (fun h l1 l2 l3 l4 l5 hf => ih h l1 l2 l3 l4 l5 hf) hf
def p_X9_starless_66 (K66 : Mem → Int → Int → Int → Int → Option (Int × Mem)) (h : Mem)   (l1 l2 l3 l4 : Int) : Option (Int × Mem) :=
  if wr ((h 53 16) + l1) ≤ l4 then (p_X9_starless_152  h   l2 l3) else (p_X9_starless_L83 K66    300 h l1 l2 l3 l4 0)
set_option maxRecDepth 20000 in
theorem q_X9_starless_66 (K66 : Mem → Int → Int → Int → Int → Option (Int × Mem)) (h : Mem)     (l1 l2 l3 l4 : Int) {X : Int × Mem} (hK66 : ∀ (h : Mem) (l1 l2 l3 l4 : Int), K66 h l1 l2 l3 l4 = some X → E m_X9_starless none (fun r h' => r = some (vi X.1) ∧ h' = X.2) 66 [some (vr 45), some (vi l1), some (vi l2), some (vi l3), some (vi l4), none, none] [] h) (hf : p_X9_starless_66 K66 h   l1 l2 l3 l4 = some X) : E m_X9_starless none (fun r h' => r = some (vi X.1) ∧ h' = X.2) 66 [some (vr 45), some (vi l1), some (vi l2), some (vi l3), some (vi l4), none, none] [] h := by
  unfold p_X9_starless_66 at hf
  refine e_iload dX9_starless_66 rfl ?_
  refine e_aload_n dX9_starless_68 rfl ?_
  refine e_getR dX9_starless_69 rfl fl_698 rfl rfl ?_
  refine e_bipush dX9_starless_72 ⟨by decide, by decide, by decide⟩ ?_
  refine e_iald dX9_starless_74 rfl (by decide) ?_
  refine e_iload_n dX9_starless_75 rfl ?_
  refine e_iadd dX9_starless_76 ?_
  refine e_icmp_ge (tgt := 152) dX9_starless_77 (by decide) (fun c77 => ?_) (fun c77 => ?_)
  · replace hf := ifp hf c77
    exact e_mask [true, false, true, true, false, false, false] (q_X9_starless_152  h     l2 l3  hf)
  · replace hf := ifn hf c77
    refine e_iconst dX9_starless_80 ⟨by decide, by decide⟩ ?_
    refine e_istore (ls' := [some (vr 45), some (vi l1), some (vi l2), some (vi l3), some (vi l4), some (vi 0), none]) dX9_starless_81 (Nat.le_of_ble_eq_true rfl) rfl ?_
    exact e_mask [true, true, true, true, true, true, false] (q_X9_starless_L83 K66      hK66 300 h l1 l2 l3 l4 0 hf)
def p_X9_starless_L66     : Nat → Mem → Int → Int → Int → Int → Option (Int × Mem)
  | 0, _, _, _, _, _ => none
  | n + 1, h, l1, l2, l3, l4 => p_X9_starless_66 (fun (h : Mem) (l1 l2 l3 l4 : Int) => p_X9_starless_L66     n h l1 l2 l3 l4) h   l1 l2 l3 l4
theorem q_X9_starless_L66       {X : Int × Mem}  : ∀ (n : Nat) (h : Mem) (l1 l2 l3 l4 : Int), p_X9_starless_L66     n h l1 l2 l3 l4 = some X → E m_X9_starless none (fun r h' => r = some (vi X.1) ∧ h' = X.2) 66 [some (vr 45), some (vi l1), some (vi l2), some (vi l3), some (vi l4), none, none] [] h := by
  intro n
  induction n with
  | zero => intro h l1 l2 l3 l4 hf; have hf2 : (none : Option (Int × Mem)) = some X := hf; cases hf2
  | succ n ih => intro h l1 l2 l3 l4 hf; exact q_X9_starless_66 (fun (h : Mem) (l1 l2 l3 l4 : Int) => p_X9_starless_L66     n h l1 l2 l3 l4) h     l1 l2 l3 l4 (fun h l1 l2 l3 l4 hf => ih h l1 l2 l3 l4 hf) hf
def p_X9_starless_57  (h : Mem)   (l1 l2 l3 : Int) : Option (Int × Mem) :=
  p_X9_starless_L66     300 h l1 l2 l3 (h 53 16)
set_option maxRecDepth 20000 in
theorem q_X9_starless_57  (h : Mem)     (l1 l2 l3 : Int) {X : Int × Mem}  (hf : p_X9_starless_57  h   l1 l2 l3 = some X) : E m_X9_starless none (fun r h' => r = some (vi X.1) ∧ h' = X.2) 57 [some (vr 45), some (vi l1), some (vi l2), some (vi l3), none, none, none] [] h := by
  unfold p_X9_starless_57 at hf
  refine e_aload_n dX9_starless_57 rfl ?_
  refine e_getR dX9_starless_58 rfl fl_698 rfl rfl ?_
  refine e_bipush dX9_starless_61 ⟨by decide, by decide, by decide⟩ ?_
  refine e_iald dX9_starless_63 rfl (by decide) ?_
  refine e_istore (ls' := [some (vr 45), some (vi l1), some (vi l2), some (vi l3), some (vi (h 53 16)), none, none]) dX9_starless_64 (Nat.le_of_ble_eq_true rfl) rfl ?_
  exact e_mask [true, true, true, true, true, false, false] (q_X9_starless_L66        300 h l1 l2 l3 (h 53 16) hf)
def p_X9_starless_27 (K27 : Mem → Int → Int → Int → Int → Option (Int × Mem)) (h : Mem)   (l1 l2 l3 l4 : Int) : Option (Int × Mem) :=
  if h 45 5 ≤ l4 then (p_X9_starless_57  h   l1 l2 l3) else (gd (0 ≤ wr (6 + l4) ∧ wr (6 + l4) < 17) (K27 h l1 (bor l2 (bshl 1 (h 53 (wr (6 + l4))))) l3 (wr (l4 + 1))))
set_option maxRecDepth 20000 in
theorem q_X9_starless_27 (K27 : Mem → Int → Int → Int → Int → Option (Int × Mem)) (h : Mem)     (l1 l2 l3 l4 : Int) {X : Int × Mem} (hK27 : ∀ (h : Mem) (l1 l2 l3 l4 : Int), K27 h l1 l2 l3 l4 = some X → E m_X9_starless none (fun r h' => r = some (vi X.1) ∧ h' = X.2) 27 [some (vr 45), some (vi l1), some (vi l2), some (vi l3), some (vi l4), none, none] [] h) (hf : p_X9_starless_27 K27 h   l1 l2 l3 l4 = some X) : E m_X9_starless none (fun r h' => r = some (vi X.1) ∧ h' = X.2) 27 [some (vr 45), some (vi l1), some (vi l2), some (vi l3), some (vi l4), none, none] [] h := by
  unfold p_X9_starless_27 at hf
  refine e_iload dX9_starless_27 rfl ?_
  refine e_aload_n dX9_starless_29 rfl ?_
  refine e_getI (kz := 5) rfl dX9_starless_30 rfl fl_687 rfl rfl (Or.inl rfl) ?_
  refine e_icmp_ge (tgt := 57) dX9_starless_33 (by decide) (fun c33 => ?_) (fun c33 => ?_)
  · replace hf := ifp hf c33
    exact e_mask [true, true, true, true, false, false, false] (q_X9_starless_57  h     l1 l2 l3  hf)
  · replace hf := ifn hf c33
    refine e_iload_n dX9_starless_36 rfl ?_
    refine e_iconst dX9_starless_37 ⟨by decide, by decide⟩ ?_
    refine e_aload_n dX9_starless_38 rfl ?_
    refine e_getR dX9_starless_39 rfl fl_698 rfl rfl ?_
    refine e_bipush dX9_starless_42 ⟨by decide, by decide, by decide⟩ ?_
    refine e_iload dX9_starless_44 rfl ?_
    refine e_iadd dX9_starless_46 ?_
    obtain ⟨g47, hf⟩ := gd_some hf
    refine e_iald dX9_starless_47 rfl g47 ?_
    refine e_ishl dX9_starless_48 ?_
    refine e_ior dX9_starless_49 ?_
    refine e_istore_n (ls' := [some (vr 45), some (vi l1), some (vi (bor l2 (bshl 1 (h 53 (wr (6 + l4)))))), some (vi l3), some (vi l4), none, none]) dX9_starless_50 (Nat.le_of_ble_eq_true rfl) rfl ?_
    refine e_iinc (ls' := [some (vr 45), some (vi l1), some (vi (bor l2 (bshl 1 (h 53 (wr (6 + l4)))))), some (vi l3), some (vi (wr (l4 + 1))), none, none]) dX9_starless_51 rfl (Nat.le_of_ble_eq_true rfl) rfl ?_
    refine e_goto (tgt := 27) dX9_starless_54 (by decide) ?_
    exact e_mask [true, true, true, true, true, false, false] (hK27 h l1 (bor l2 (bshl 1 (h 53 (wr (6 + l4))))) l3 (wr (l4 + 1)) hf)
def p_X9_starless_L27     : Nat → Mem → Int → Int → Int → Int → Option (Int × Mem)
  | 0, _, _, _, _, _ => none
  | n + 1, h, l1, l2, l3, l4 => p_X9_starless_27 (fun (h : Mem) (l1 l2 l3 l4 : Int) => p_X9_starless_L27     n h l1 l2 l3 l4) h   l1 l2 l3 l4
theorem q_X9_starless_L27       {X : Int × Mem}  : ∀ (n : Nat) (h : Mem) (l1 l2 l3 l4 : Int), p_X9_starless_L27     n h l1 l2 l3 l4 = some X → E m_X9_starless none (fun r h' => r = some (vi X.1) ∧ h' = X.2) 27 [some (vr 45), some (vi l1), some (vi l2), some (vi l3), some (vi l4), none, none] [] h := by
  intro n
  induction n with
  | zero => intro h l1 l2 l3 l4 hf; have hf2 : (none : Option (Int × Mem)) = some X := hf; cases hf2
  | succ n ih => intro h l1 l2 l3 l4 hf; exact q_X9_starless_27 (fun (h : Mem) (l1 l2 l3 l4 : Int) => p_X9_starless_L27     n h l1 l2 l3 l4) h     l1 l2 l3 l4 (fun h l1 l2 l3 l4 hf => ih h l1 l2 l3 l4 hf) hf
def p_X9_starless (h : Mem)  (l1 : Int) : Option (Int × Mem) :=
  bd (p_X9_in (up h 45 0 0) l1 1 10) (fun r11 => if r11 = 0 then (some ((-2), (up h 45 0 0))) else (p_X9_starless_L27     300 (up h 45 0 0) l1 0 0 0))
set_option maxRecDepth 20000 in
theorem q_X9_starless (h : Mem)   (l1 : Int) {X : Int × Mem} (hf : p_X9_starless h  l1 = some X) : Cn m_X9_starless [vr 45, vi l1] h (fun r h' => r = some (vi X.1) ∧ h' = X.2) := by
  unfold p_X9_starless at hf
  have key : E m_X9_starless none (fun r h' => r = some (vi X.1) ∧ h' = X.2) 0 [some (vr 45), some (vi l1), none, none, none, none, none] [] h := by
    refine e_aload_n dX9_starless_0 rfl ?_
    refine e_iconst dX9_starless_1 ⟨by decide, by decide⟩ ?_
    refine e_putI (t := 0) (kz := 0) rfl dX9_starless_2 rfl fp_682 rfl rfl (Or.inl rfl) ?_
    refine e_iload_n dX9_starless_5 rfl ?_
    refine e_i2l dX9_starless_6 ?_
    refine e_lconst (a := 1) dX9_starless_7 ⟨by decide, by decide, by decide⟩ ?_
    refine e_ldc2 (a := 10) dX9_starless_8 rfl tw_936 ⟨by decide, by decide⟩ ?_
    obtain ⟨r11, e11, hf⟩ := bd_some hf
    refine e_callS3i dX9_starless_11 rfl lk_799 ⟨rfl, rfl, Nat.le_of_ble_eq_true rfl, Nat.le_of_ble_eq_true rfl⟩ (Nat.le_of_ble_eq_true rfl) (q_X9_in (up h 45 0 0)   l1 1 10 e11) ?_
    refine e_if_ne (tgt := 20) dX9_starless_14 (by decide) (fun c14 => ?_) (fun c14 => ?_)
    · replace hf := ifn hf c14
      refine e_iconst dX9_starless_20 ⟨by decide, by decide⟩ ?_
      refine e_istore_n (ls' := [some (vr 45), some (vi l1), some (vi 0), none, none, none, none]) dX9_starless_21 (Nat.le_of_ble_eq_true rfl) rfl ?_
      refine e_iconst dX9_starless_22 ⟨by decide, by decide⟩ ?_
      refine e_istore_n (ls' := [some (vr 45), some (vi l1), some (vi 0), some (vi 0), none, none, none]) dX9_starless_23 (Nat.le_of_ble_eq_true rfl) rfl ?_
      refine e_iconst dX9_starless_24 ⟨by decide, by decide⟩ ?_
      refine e_istore (ls' := [some (vr 45), some (vi l1), some (vi 0), some (vi 0), some (vi 0), none, none]) dX9_starless_25 (Nat.le_of_ble_eq_true rfl) rfl ?_
      exact e_mask [true, true, true, true, true, false, false] (q_X9_starless_L27        300 (up h 45 0 0) l1 0 0 0 hf)
    · replace hf := ifp hf c14
      refine e_bipush dX9_starless_17 ⟨by decide, by decide, by decide⟩ ?_
      obtain rfl := Option.some.inj hf
      exact e_ireturn dX9_starless_19 rfl ⟨rfl, rfl⟩
  exact Cn_of rfl (fun _ => Nat.le_of_ble_eq_true rfl) ⟨rfl, rfl⟩ (e_pad 5 key)
abbrev m_X9_layRest : MI := (yX9_layRest, cX9_layRest, 9, none, { frames := 4, cells := 0, slots := 0, locals := 100 })
def p_X9_layRest_180 (K41 : Mem → Int → Int → Int → Int → Option (Mem)) (h : Mem)   (l1 l3 l5 l6 : Int) : Option (Mem) :=
  K41 h l1 l3 l5 (wr (l6 + 1))
set_option maxRecDepth 20000 in
theorem q_X9_layRest_180 (K41 : Mem → Int → Int → Int → Int → Option (Mem)) (h : Mem)     (l1 l3 l5 l6 : Int) {X : Mem} (hK41 : ∀ (h : Mem) (l1 l3 l5 l6 : Int), K41 h l1 l3 l5 l6 = some X → E m_X9_layRest none (fun r h' => r = none ∧ h' = X) 41 [some (vr 45), some (vi l1), none, some (vi l3), none, some (vi l5), some (vi l6), none, none] [] h) (hf : p_X9_layRest_180 K41 h   l1 l3 l5 l6 = some X) : E m_X9_layRest none (fun r h' => r = none ∧ h' = X) 180 [some (vr 45), some (vi l1), none, some (vi l3), none, some (vi l5), some (vi l6), none, none] [] h := by
  unfold p_X9_layRest_180 at hf
  refine e_iinc (ls' := [some (vr 45), some (vi l1), none, some (vi l3), none, some (vi l5), some (vi (wr (l6 + 1))), none, none]) dX9_layRest_180 rfl (Nat.le_of_ble_eq_true rfl) rfl ?_
  refine e_goto (tgt := 41) dX9_layRest_183 (by decide) ?_
  exact e_mask [true, true, false, true, false, true, true, false, false] (hK41 h l1 l3 l5 (wr (l6 + 1)) hf)
def p_X9_layRest_170 (K41 : Mem → Int → Int → Int → Int → Option (Mem)) (K69 : Mem → Int → Int → Int → Int → Int → Option (Mem)) (h : Mem)   (l1 l3 l5 l6 l7 s0 s1 : Int) : Option (Mem) :=
  K69 (up h 45 34 (wr (s0 + s1))) l1 l3 l5 l6 (wr (l7 + 1))
set_option maxRecDepth 20000 in
theorem q_X9_layRest_170 (K41 : Mem → Int → Int → Int → Int → Option (Mem)) (K69 : Mem → Int → Int → Int → Int → Int → Option (Mem)) (h : Mem)     (l1 l3 l5 l6 l7 s0 s1 : Int) {X : Mem} (hK41 : ∀ (h : Mem) (l1 l3 l5 l6 : Int), K41 h l1 l3 l5 l6 = some X → E m_X9_layRest none (fun r h' => r = none ∧ h' = X) 41 [some (vr 45), some (vi l1), none, some (vi l3), none, some (vi l5), some (vi l6), none, none] [] h) (hK69 : ∀ (h : Mem) (l1 l3 l5 l6 l7 : Int), K69 h l1 l3 l5 l6 l7 = some X → E m_X9_layRest none (fun r h' => r = none ∧ h' = X) 69 [some (vr 45), some (vi l1), none, some (vi l3), none, some (vi l5), some (vi l6), some (vi l7), none] [] h) (hf : p_X9_layRest_170 K41 K69 h   l1 l3 l5 l6 l7 s0 s1 = some X) : E m_X9_layRest none (fun r h' => r = none ∧ h' = X) 170 [some (vr 45), some (vi l1), none, some (vi l3), none, some (vi l5), some (vi l6), some (vi l7), none] [vi s1, vi s0, vr 45] h := by
  unfold p_X9_layRest_170 at hf
  refine e_iadd dX9_layRest_170 ?_
  refine e_putI (t := 0) (kz := 34) rfl dX9_layRest_171 rfl fp_716 rfl rfl (Or.inl rfl) ?_
  refine e_iinc (ls' := [some (vr 45), some (vi l1), none, some (vi l3), none, some (vi l5), some (vi l6), some (vi (wr (l7 + 1))), none]) dX9_layRest_174 rfl (Nat.le_of_ble_eq_true rfl) rfl ?_
  refine e_goto (tgt := 69) dX9_layRest_177 (by decide) ?_
  exact e_mask [true, true, false, true, false, true, true, true, false] (hK69 (up h 45 34 (wr (s0 + s1))) l1 l3 l5 l6 (wr (l7 + 1)) hf)
def p_X9_layRest_133 (K41 : Mem → Int → Int → Int → Int → Option (Mem)) (K69 : Mem → Int → Int → Int → Int → Int → Option (Mem)) (h : Mem)   (l1 l3 l5 l6 l7 l8 s0 s1 : Int) : Option (Mem) :=
  if l8 = l3 then (bd (p_X9_all (up h 45 33 (wr (s0 + s1))) ) (fun r152 => bd (p_X9_pays (up h 45 33 (wr (s0 + s1))) l7 r152 ((up h 45 33 (wr (s0 + s1))) 54 5) l8) (fun r163 => p_X9_layRest_170 K41 K69 (up h 45 33 (wr (s0 + s1)))   l1 l3 l5 l6 l7 ((up h 45 33 (wr (s0 + s1))) 45 34) r163))) else (p_X9_layRest_170 K41 K69 (up h 45 33 (wr (s0 + s1)))   l1 l3 l5 l6 l7 ((up h 45 33 (wr (s0 + s1))) 45 34) 0)
set_option maxRecDepth 20000 in
theorem q_X9_layRest_133 (K41 : Mem → Int → Int → Int → Int → Option (Mem)) (K69 : Mem → Int → Int → Int → Int → Int → Option (Mem)) (h : Mem)     (l1 l3 l5 l6 l7 l8 s0 s1 : Int) {X : Mem} (hK41 : ∀ (h : Mem) (l1 l3 l5 l6 : Int), K41 h l1 l3 l5 l6 = some X → E m_X9_layRest none (fun r h' => r = none ∧ h' = X) 41 [some (vr 45), some (vi l1), none, some (vi l3), none, some (vi l5), some (vi l6), none, none] [] h) (hK69 : ∀ (h : Mem) (l1 l3 l5 l6 l7 : Int), K69 h l1 l3 l5 l6 l7 = some X → E m_X9_layRest none (fun r h' => r = none ∧ h' = X) 69 [some (vr 45), some (vi l1), none, some (vi l3), none, some (vi l5), some (vi l6), some (vi l7), none] [] h) (hf : p_X9_layRest_133 K41 K69 h   l1 l3 l5 l6 l7 l8 s0 s1 = some X) : E m_X9_layRest none (fun r h' => r = none ∧ h' = X) 133 [some (vr 45), some (vi l1), none, some (vi l3), none, some (vi l5), some (vi l6), some (vi l7), some (vi l8)] [vi s1, vi s0, vr 45] h := by
  unfold p_X9_layRest_133 at hf
  refine e_iadd dX9_layRest_133 ?_
  refine e_putI (t := 0) (kz := 33) rfl dX9_layRest_134 rfl fp_715 rfl rfl (Or.inl rfl) ?_
  refine e_aload_n dX9_layRest_137 rfl ?_
  refine e_dup dX9_layRest_138 (fun _ => rfl) ?_
  refine e_getI (kz := 34) rfl dX9_layRest_139 rfl fl_716 rfl rfl (Or.inl rfl) ?_
  refine e_iload dX9_layRest_142 rfl ?_
  refine e_iload_n dX9_layRest_144 rfl ?_
  refine e_icmp_ne (tgt := 169) dX9_layRest_145 (by decide) (fun c145 => ?_) (fun c145 => ?_)
  · replace hf := ifn hf c145
    refine e_iconst dX9_layRest_169 ⟨by decide, by decide⟩ ?_
    exact e_mask [true, true, false, true, false, true, true, true, false] (q_X9_layRest_170 K41 K69 (up h 45 33 (wr (s0 + s1)))     l1 l3 l5 l6 l7 ((up h 45 33 (wr (s0 + s1))) 45 34) 0 hK41 hK69 hf)
  · replace hf := ifp hf c145
    refine e_aload_n dX9_layRest_148 rfl ?_
    refine e_iload dX9_layRest_149 rfl ?_
    refine e_aload_n dX9_layRest_151 rfl ?_
    obtain ⟨r152, e152, hf⟩ := bd_some hf
    refine e_callV0i dX9_layRest_152 rfl lk_842 ⟨rfl, rfl, Nat.le_of_ble_eq_true rfl, Nat.le_of_ble_eq_true rfl⟩ rfl rfl (Nat.le_of_ble_eq_true rfl) (q_X9_all (up h 45 33 (wr (s0 + s1)))    e152) ?_
    refine e_aload_n dX9_layRest_155 rfl ?_
    refine e_getR dX9_layRest_156 rfl fl_699 rfl rfl ?_
    refine e_iconst dX9_layRest_159 ⟨by decide, by decide⟩ ?_
    refine e_iald dX9_layRest_160 rfl (by decide) ?_
    refine e_iload dX9_layRest_161 rfl ?_
    obtain ⟨r163, e163, hf⟩ := bd_some hf
    refine e_callV4i dX9_layRest_163 rfl lk_884 ⟨rfl, rfl, Nat.le_of_ble_eq_true rfl, Nat.le_of_ble_eq_true rfl⟩ rfl rfl (Nat.le_of_ble_eq_true rfl) (q_X9_pays (up h 45 33 (wr (s0 + s1)))   l7 r152 ((up h 45 33 (wr (s0 + s1))) 54 5) l8 e163) ?_
    refine e_goto (tgt := 170) dX9_layRest_166 (by decide) ?_
    exact e_mask [true, true, false, true, false, true, true, true, false] (q_X9_layRest_170 K41 K69 (up h 45 33 (wr (s0 + s1)))     l1 l3 l5 l6 l7 ((up h 45 33 (wr (s0 + s1))) 45 34) r163 hK41 hK69 hf)
def p_X9_layRest_69 (K41 : Mem → Int → Int → Int → Int → Option (Mem)) (K69 : Mem → Int → Int → Int → Int → Int → Option (Mem)) (h : Mem)   (l1 l3 l5 l6 l7 : Int) : Option (Mem) :=
  if h 45 6 ≤ l7 then (p_X9_layRest_180 K41 h   l1 l3 l5 l6) else (bd (p_X9_all h ) (fun r84 => bd (p_X9_holder h 54 r84 l7 l6 (h 45 4)) (fun r95 => if r95 = l1 then (bd (p_X9_all h ) (fun r115 => bd (p_X9_pays h l7 r115 (h 54 5) r95) (fun r126 => p_X9_layRest_133 K41 K69 h   l1 l3 l5 l6 l7 r95 (h 45 33) r126))) else (p_X9_layRest_133 K41 K69 h   l1 l3 l5 l6 l7 r95 (h 45 33) 0))))
set_option maxRecDepth 20000 in
theorem q_X9_layRest_69 (K41 : Mem → Int → Int → Int → Int → Option (Mem)) (K69 : Mem → Int → Int → Int → Int → Int → Option (Mem)) (h : Mem)     (l1 l3 l5 l6 l7 : Int) {X : Mem} (hK41 : ∀ (h : Mem) (l1 l3 l5 l6 : Int), K41 h l1 l3 l5 l6 = some X → E m_X9_layRest none (fun r h' => r = none ∧ h' = X) 41 [some (vr 45), some (vi l1), none, some (vi l3), none, some (vi l5), some (vi l6), none, none] [] h) (hK69 : ∀ (h : Mem) (l1 l3 l5 l6 l7 : Int), K69 h l1 l3 l5 l6 l7 = some X → E m_X9_layRest none (fun r h' => r = none ∧ h' = X) 69 [some (vr 45), some (vi l1), none, some (vi l3), none, some (vi l5), some (vi l6), some (vi l7), none] [] h) (hf : p_X9_layRest_69 K41 K69 h   l1 l3 l5 l6 l7 = some X) : E m_X9_layRest none (fun r h' => r = none ∧ h' = X) 69 [some (vr 45), some (vi l1), none, some (vi l3), none, some (vi l5), some (vi l6), some (vi l7), none] [] h := by
  unfold p_X9_layRest_69 at hf
  refine e_iload dX9_layRest_69 rfl ?_
  refine e_aload_n dX9_layRest_71 rfl ?_
  refine e_getI (kz := 6) rfl dX9_layRest_72 rfl fl_688 rfl rfl (Or.inl rfl) ?_
  refine e_icmp_ge (tgt := 180) dX9_layRest_75 (by decide) (fun c75 => ?_) (fun c75 => ?_)
  · replace hf := ifp hf c75
    exact e_mask [true, true, false, true, false, true, true, false, false] (q_X9_layRest_180 K41 h     l1 l3 l5 l6 hK41 hf)
  · replace hf := ifn hf c75
    refine e_aload_n dX9_layRest_78 rfl ?_
    refine e_aload_n dX9_layRest_79 rfl ?_
    refine e_getR dX9_layRest_80 rfl fl_699 rfl rfl ?_
    refine e_aload_n dX9_layRest_83 rfl ?_
    obtain ⟨r84, e84, hf⟩ := bd_some hf
    refine e_callV0i dX9_layRest_84 rfl lk_842 ⟨rfl, rfl, Nat.le_of_ble_eq_true rfl, Nat.le_of_ble_eq_true rfl⟩ rfl rfl (Nat.le_of_ble_eq_true rfl) (q_X9_all h    e84) ?_
    refine e_iload dX9_layRest_87 rfl ?_
    refine e_iload dX9_layRest_89 rfl ?_
    refine e_aload_n dX9_layRest_91 rfl ?_
    refine e_getI (kz := 4) rfl dX9_layRest_92 rfl fl_686 rfl rfl (Or.inl rfl) ?_
    obtain ⟨r95, e95, hf⟩ := bd_some hf
    refine e_callV5i dX9_layRest_95 rfl lk_868 ⟨rfl, rfl, Nat.le_of_ble_eq_true rfl, Nat.le_of_ble_eq_true rfl⟩ rfl rfl (Nat.le_of_ble_eq_true rfl) (q_X9_holder h 54 rfl r84 l7 l6 (h 45 4) e95) ?_
    refine e_istore (ls' := [some (vr 45), some (vi l1), none, some (vi l3), none, some (vi l5), some (vi l6), some (vi l7), some (vi r95)]) dX9_layRest_98 (Nat.le_of_ble_eq_true rfl) rfl ?_
    refine e_aload_n dX9_layRest_100 rfl ?_
    refine e_dup dX9_layRest_101 (fun _ => rfl) ?_
    refine e_getI (kz := 33) rfl dX9_layRest_102 rfl fl_715 rfl rfl (Or.inl rfl) ?_
    refine e_iload dX9_layRest_105 rfl ?_
    refine e_iload_n dX9_layRest_107 rfl ?_
    refine e_icmp_ne (tgt := 132) dX9_layRest_108 (by decide) (fun c108 => ?_) (fun c108 => ?_)
    · replace hf := ifn hf c108
      refine e_iconst dX9_layRest_132 ⟨by decide, by decide⟩ ?_
      exact e_mask [true, true, false, true, false, true, true, true, true] (q_X9_layRest_133 K41 K69 h     l1 l3 l5 l6 l7 r95 (h 45 33) 0 hK41 hK69 hf)
    · replace hf := ifp hf c108
      refine e_aload_n dX9_layRest_111 rfl ?_
      refine e_iload dX9_layRest_112 rfl ?_
      refine e_aload_n dX9_layRest_114 rfl ?_
      obtain ⟨r115, e115, hf⟩ := bd_some hf
      refine e_callV0i dX9_layRest_115 rfl lk_842 ⟨rfl, rfl, Nat.le_of_ble_eq_true rfl, Nat.le_of_ble_eq_true rfl⟩ rfl rfl (Nat.le_of_ble_eq_true rfl) (q_X9_all h    e115) ?_
      refine e_aload_n dX9_layRest_118 rfl ?_
      refine e_getR dX9_layRest_119 rfl fl_699 rfl rfl ?_
      refine e_iconst dX9_layRest_122 ⟨by decide, by decide⟩ ?_
      refine e_iald dX9_layRest_123 rfl (by decide) ?_
      refine e_iload dX9_layRest_124 rfl ?_
      obtain ⟨r126, e126, hf⟩ := bd_some hf
      refine e_callV4i dX9_layRest_126 rfl lk_884 ⟨rfl, rfl, Nat.le_of_ble_eq_true rfl, Nat.le_of_ble_eq_true rfl⟩ rfl rfl (Nat.le_of_ble_eq_true rfl) (q_X9_pays h   l7 r115 (h 54 5) r95 e126) ?_
      refine e_goto (tgt := 133) dX9_layRest_129 (by decide) ?_
      exact e_mask [true, true, false, true, false, true, true, true, true] (q_X9_layRest_133 K41 K69 h     l1 l3 l5 l6 l7 r95 (h 45 33) r126 hK41 hK69 hf)
def p_X9_layRest_L69 (K41 : Mem → Int → Int → Int → Int → Option (Mem))    : Nat → Mem → Int → Int → Int → Int → Int → Option (Mem)
  | 0, _, _, _, _, _, _ => none
  | n + 1, h, l1, l3, l5, l6, l7 => p_X9_layRest_69 K41 (fun (h : Mem) (l1 l3 l5 l6 l7 : Int) => p_X9_layRest_L69 K41    n h l1 l3 l5 l6 l7) h   l1 l3 l5 l6 l7
theorem q_X9_layRest_L69 (K41 : Mem → Int → Int → Int → Int → Option (Mem))      {X : Mem} (hK41 : ∀ (h : Mem) (l1 l3 l5 l6 : Int), K41 h l1 l3 l5 l6 = some X → E m_X9_layRest none (fun r h' => r = none ∧ h' = X) 41 [some (vr 45), some (vi l1), none, some (vi l3), none, some (vi l5), some (vi l6), none, none] [] h) : ∀ (n : Nat) (h : Mem) (l1 l3 l5 l6 l7 : Int), p_X9_layRest_L69 K41    n h l1 l3 l5 l6 l7 = some X → E m_X9_layRest none (fun r h' => r = none ∧ h' = X) 69 [some (vr 45), some (vi l1), none, some (vi l3), none, some (vi l5), some (vi l6), some (vi l7), none] [] h := by
  intro n
  induction n with
  | zero => intro h l1 l3 l5 l6 l7 hf; have hf2 : (none : Option (Mem)) = some X := hf; cases hf2
  | succ n ih => intro h l1 l3 l5 l6 l7 hf; exact q_X9_layRest_69 K41 (fun (h : Mem) (l1 l3 l5 l6 l7 : Int) => p_X9_layRest_L69 K41    n h l1 l3 l5 l6 l7) h     l1 l3 l5 l6 l7 hK41 (fun h l1 l3 l5 l6 l7 hf => ih h l1 l3 l5 l6 l7 hf) hf
def p_X9_layRest_41 (K41 : Mem → Int → Int → Int → Int → Option (Mem)) (h : Mem)   (l1 l3 l5 l6 : Int) : Option (Mem) :=
  if wr ((h 53 16) + l5) ≤ l6 then (some h) else (if h 53 11 = 0 then (p_X9_layRest_L69 K41    300 h l1 l3 l5 l6 0) else (some h))
set_option maxRecDepth 20000 in
theorem q_X9_layRest_41 (K41 : Mem → Int → Int → Int → Int → Option (Mem)) (h : Mem)     (l1 l3 l5 l6 : Int) {X : Mem} (hK41 : ∀ (h : Mem) (l1 l3 l5 l6 : Int), K41 h l1 l3 l5 l6 = some X → E m_X9_layRest none (fun r h' => r = none ∧ h' = X) 41 [some (vr 45), some (vi l1), none, some (vi l3), none, some (vi l5), some (vi l6), none, none] [] h) (hf : p_X9_layRest_41 K41 h   l1 l3 l5 l6 = some X) : E m_X9_layRest none (fun r h' => r = none ∧ h' = X) 41 [some (vr 45), some (vi l1), none, some (vi l3), none, some (vi l5), some (vi l6), none, none] [] h := by
  unfold p_X9_layRest_41 at hf
  refine e_iload dX9_layRest_41 rfl ?_
  refine e_aload_n dX9_layRest_43 rfl ?_
  refine e_getR dX9_layRest_44 rfl fl_698 rfl rfl ?_
  refine e_bipush dX9_layRest_47 ⟨by decide, by decide, by decide⟩ ?_
  refine e_iald dX9_layRest_49 rfl (by decide) ?_
  refine e_iload dX9_layRest_50 rfl ?_
  refine e_iadd dX9_layRest_52 ?_
  refine e_icmp_ge (tgt := 186) dX9_layRest_53 (by decide) (fun c53 => ?_) (fun c53 => ?_)
  · replace hf := ifp hf c53
    obtain rfl := Option.some.inj hf
    exact e_return dX9_layRest_186 rfl ⟨rfl, rfl⟩
  · replace hf := ifn hf c53
    refine e_aload_n dX9_layRest_56 rfl ?_
    refine e_getR dX9_layRest_57 rfl fl_698 rfl rfl ?_
    refine e_bipush dX9_layRest_60 ⟨by decide, by decide, by decide⟩ ?_
    refine e_iald dX9_layRest_62 rfl (by decide) ?_
    refine e_if_ne (tgt := 186) dX9_layRest_63 (by decide) (fun c63 => ?_) (fun c63 => ?_)
    · replace hf := ifn hf c63
      obtain rfl := Option.some.inj hf
      exact e_return dX9_layRest_186 rfl ⟨rfl, rfl⟩
    · replace hf := ifp hf c63
      refine e_iconst dX9_layRest_66 ⟨by decide, by decide⟩ ?_
      refine e_istore (ls' := [some (vr 45), some (vi l1), none, some (vi l3), none, some (vi l5), some (vi l6), some (vi 0), none]) dX9_layRest_67 (Nat.le_of_ble_eq_true rfl) rfl ?_
      exact e_mask [true, true, false, true, false, true, true, true, false] (q_X9_layRest_L69 K41      hK41 300 h l1 l3 l5 l6 0 hf)
def p_X9_layRest_L41     : Nat → Mem → Int → Int → Int → Int → Option (Mem)
  | 0, _, _, _, _, _ => none
  | n + 1, h, l1, l3, l5, l6 => p_X9_layRest_41 (fun (h : Mem) (l1 l3 l5 l6 : Int) => p_X9_layRest_L41     n h l1 l3 l5 l6) h   l1 l3 l5 l6
theorem q_X9_layRest_L41       {X : Mem}  : ∀ (n : Nat) (h : Mem) (l1 l3 l5 l6 : Int), p_X9_layRest_L41     n h l1 l3 l5 l6 = some X → E m_X9_layRest none (fun r h' => r = none ∧ h' = X) 41 [some (vr 45), some (vi l1), none, some (vi l3), none, some (vi l5), some (vi l6), none, none] [] h := by
  intro n
  induction n with
  | zero => intro h l1 l3 l5 l6 hf; have hf2 : (none : Option (Mem)) = some X := hf; cases hf2
  | succ n ih => intro h l1 l3 l5 l6 hf; exact q_X9_layRest_41 (fun (h : Mem) (l1 l3 l5 l6 : Int) => p_X9_layRest_L41     n h l1 l3 l5 l6) h     l1 l3 l5 l6 (fun h l1 l3 l5 l6 hf => ih h l1 l3 l5 l6 hf) hf
def p_X9_layRest (h : Mem)  (l1 l2 l3 l4 l5 : Int) : Option (Mem) :=
  bd (p_X9_begin h ) (fun h1 => gd (0 ≤ l1 ∧ l1 < 17) (gd (0 ≤ l3 ∧ l3 < 17) (p_X9_layRest_L41     300 (up (up (up (up h1 54 l1 l2) 54 l3 l4) 45 33 (wr (-l2))) 45 34 (wr (-l4))) l1 l3 l5 ((up (up (up (up h1 54 l1 l2) 54 l3 l4) 45 33 (wr (-l2))) 45 34 (wr (-l4))) 53 16))))
set_option maxRecDepth 20000 in
theorem q_X9_layRest (h : Mem)   (l1 l2 l3 l4 l5 : Int) {X : Mem} (hf : p_X9_layRest h  l1 l2 l3 l4 l5 = some X) : Cn m_X9_layRest [vr 45, vi l1, vi l2, vi l3, vi l4, vi l5] h (fun r h' => r = none ∧ h' = X) := by
  unfold p_X9_layRest at hf
  have key : E m_X9_layRest none (fun r h' => r = none ∧ h' = X) 0 [some (vr 45), some (vi l1), some (vi l2), some (vi l3), some (vi l4), some (vi l5), none, none, none] [] h := by
    refine e_aload_n dX9_layRest_0 rfl ?_
    obtain ⟨h1, e1, hf⟩ := bd_some hf
    refine e_callV0v dX9_layRest_1 rfl lk_948 ⟨rfl, rfl, Nat.le_of_ble_eq_true rfl, Nat.le_of_ble_eq_true rfl⟩ rfl rfl (Nat.le_of_ble_eq_true rfl) (q_X9_begin h    e1) ?_
    refine e_aload_n dX9_layRest_4 rfl ?_
    refine e_getR dX9_layRest_5 rfl fl_699 rfl rfl ?_
    refine e_iload_n dX9_layRest_8 rfl ?_
    refine e_iload_n dX9_layRest_9 rfl ?_
    obtain ⟨g10, hf⟩ := gd_some hf
    refine e_iast dX9_layRest_10 rfl g10 ?_
    refine e_aload_n dX9_layRest_11 rfl ?_
    refine e_getR dX9_layRest_12 rfl fl_699 rfl rfl ?_
    refine e_iload_n dX9_layRest_15 rfl ?_
    refine e_iload dX9_layRest_16 rfl ?_
    obtain ⟨g18, hf⟩ := gd_some hf
    refine e_iast dX9_layRest_18 rfl g18 ?_
    refine e_aload_n dX9_layRest_19 rfl ?_
    refine e_iload_n dX9_layRest_20 rfl ?_
    refine e_ineg dX9_layRest_21 ?_
    refine e_putI (t := 0) (kz := 33) rfl dX9_layRest_22 rfl fp_715 rfl rfl (Or.inl rfl) ?_
    refine e_aload_n dX9_layRest_25 rfl ?_
    refine e_iload dX9_layRest_26 rfl ?_
    refine e_ineg dX9_layRest_28 ?_
    refine e_putI (t := 0) (kz := 34) rfl dX9_layRest_29 rfl fp_716 rfl rfl (Or.inl rfl) ?_
    refine e_aload_n dX9_layRest_32 rfl ?_
    refine e_getR dX9_layRest_33 rfl fl_698 rfl rfl ?_
    refine e_bipush dX9_layRest_36 ⟨by decide, by decide, by decide⟩ ?_
    refine e_iald dX9_layRest_38 rfl (by decide) ?_
    refine e_istore (ls' := [some (vr 45), some (vi l1), some (vi l2), some (vi l3), some (vi l4), some (vi l5), some (vi ((up (up (up (up h1 54 l1 l2) 54 l3 l4) 45 33 (wr (-l2))) 45 34 (wr (-l4))) 53 16)), none, none]) dX9_layRest_39 (Nat.le_of_ble_eq_true rfl) rfl ?_
    exact e_mask [true, true, false, true, false, true, true, false, false] (q_X9_layRest_L41        300 (up (up (up (up h1 54 l1 l2) 54 l3 l4) 45 33 (wr (-l2))) 45 34 (wr (-l4))) l1 l3 l5 ((up (up (up (up h1 54 l1 l2) 54 l3 l4) 45 33 (wr (-l2))) 45 34 (wr (-l4))) 53 16) hf)
  exact Cn_of rfl (fun _ => Nat.le_of_ble_eq_true rfl) ⟨rfl, rfl⟩ (e_pad 3 key)
theorem lk_981 : VLk "StarRightModel" 207 m_X9_layRest 5 := ⟨tw_981, tw_983, twp_39, tw_10, tw_984, by decide +kernel⟩
abbrev m_X9_doesRest : MI := (yX9_doesRest, cX9_doesRest, 10, some .boolean, { frames := 5, cells := 0, slots := 0, locals := 128 })
def p_X9_doesRest_99 (K29 : Mem → Int → Int → Int → Int → Int → Int → Int → Int → Int → Option (Int × Mem)) (h : Mem)   (l1 l2 l3 l4 l5 l6 l7 l9 s0 : Int) : Option (Int × Mem) :=
  K29 h l1 l2 l3 l4 l5 l6 l7 s0 (wr (l9 + 1))
set_option maxRecDepth 20000 in
theorem q_X9_doesRest_99 (K29 : Mem → Int → Int → Int → Int → Int → Int → Int → Int → Int → Option (Int × Mem)) (h : Mem)     (l1 l2 l3 l4 l5 l6 l7 l9 s0 : Int) {X : Int × Mem} (hK29 : ∀ (h : Mem) (l1 l2 l3 l4 l5 l6 l7 l8 l9 : Int), K29 h l1 l2 l3 l4 l5 l6 l7 l8 l9 = some X → E m_X9_doesRest none (fun r h' => r = some (vi X.1) ∧ h' = X.2) 29 [some (vr 45), some (vi l1), some (vi l2), some (vi l3), some (vi l4), some (vi l5), some (vi l6), some (vi l7), some (vi l8), some (vi l9)] [] h) (hf : p_X9_doesRest_99 K29 h   l1 l2 l3 l4 l5 l6 l7 l9 s0 = some X) : E m_X9_doesRest none (fun r h' => r = some (vi X.1) ∧ h' = X.2) 99 [some (vr 45), some (vi l1), some (vi l2), some (vi l3), some (vi l4), some (vi l5), some (vi l6), some (vi l7), none, some (vi l9)] [vi s0] h := by
  unfold p_X9_doesRest_99 at hf
  refine e_istore (ls' := [some (vr 45), some (vi l1), some (vi l2), some (vi l3), some (vi l4), some (vi l5), some (vi l6), some (vi l7), some (vi s0), some (vi l9)]) dX9_doesRest_99 (Nat.le_of_ble_eq_true rfl) rfl ?_
  refine e_iinc (ls' := [some (vr 45), some (vi l1), some (vi l2), some (vi l3), some (vi l4), some (vi l5), some (vi l6), some (vi l7), some (vi s0), some (vi (wr (l9 + 1)))]) dX9_doesRest_101 rfl (Nat.le_of_ble_eq_true rfl) rfl ?_
  refine e_goto (tgt := 29) dX9_doesRest_104 (by decide) ?_
  exact e_mask [true, true, true, true, true, true, true, true, true, true] (hK29 h l1 l2 l3 l4 l5 l6 l7 s0 (wr (l9 + 1)) hf)
def p_X9_doesRest_98 (K29 : Mem → Int → Int → Int → Int → Int → Int → Int → Int → Int → Option (Int × Mem)) (h : Mem)   (l1 l2 l3 l4 l5 l6 l7 l9 : Int) : Option (Int × Mem) :=
  p_X9_doesRest_99 K29 h   l1 l2 l3 l4 l5 l6 l7 l9 0
set_option maxRecDepth 20000 in
theorem q_X9_doesRest_98 (K29 : Mem → Int → Int → Int → Int → Int → Int → Int → Int → Int → Option (Int × Mem)) (h : Mem)     (l1 l2 l3 l4 l5 l6 l7 l9 : Int) {X : Int × Mem} (hK29 : ∀ (h : Mem) (l1 l2 l3 l4 l5 l6 l7 l8 l9 : Int), K29 h l1 l2 l3 l4 l5 l6 l7 l8 l9 = some X → E m_X9_doesRest none (fun r h' => r = some (vi X.1) ∧ h' = X.2) 29 [some (vr 45), some (vi l1), some (vi l2), some (vi l3), some (vi l4), some (vi l5), some (vi l6), some (vi l7), some (vi l8), some (vi l9)] [] h) (hf : p_X9_doesRest_98 K29 h   l1 l2 l3 l4 l5 l6 l7 l9 = some X) : E m_X9_doesRest none (fun r h' => r = some (vi X.1) ∧ h' = X.2) 98 [some (vr 45), some (vi l1), some (vi l2), some (vi l3), some (vi l4), some (vi l5), some (vi l6), some (vi l7), none, some (vi l9)] [] h := by
  unfold p_X9_doesRest_98 at hf
  refine e_iconst dX9_doesRest_98 ⟨by decide, by decide⟩ ?_
  exact e_mask [true, true, true, true, true, true, true, true, false, true] (q_X9_doesRest_99 K29 h     l1 l2 l3 l4 l5 l6 l7 l9 0 hK29 hf)
def p_X9_doesRest_67 (K29 : Mem → Int → Int → Int → Int → Int → Int → Int → Int → Int → Option (Int × Mem)) (h : Mem)   (l1 l2 l3 l4 l5 l6 l7 l9 s0 : Int) : Option (Int × Mem) :=
  bd (p_X9_layRest h l1 l2 l3 l9 l5) (fun h77 => if s0 = 0 then (p_X9_doesRest_98 K29 h77   l1 l2 l3 l4 l5 l6 l7 l9) else (if l7 < h77 45 34 then (p_X9_doesRest_98 K29 h77   l1 l2 l3 l4 l5 l6 l7 l9) else (p_X9_doesRest_99 K29 h77   l1 l2 l3 l4 l5 l6 l7 l9 1)))
set_option maxRecDepth 20000 in
theorem q_X9_doesRest_67 (K29 : Mem → Int → Int → Int → Int → Int → Int → Int → Int → Int → Option (Int × Mem)) (h : Mem)     (l1 l2 l3 l4 l5 l6 l7 l9 s0 : Int) {X : Int × Mem} (hK29 : ∀ (h : Mem) (l1 l2 l3 l4 l5 l6 l7 l8 l9 : Int), K29 h l1 l2 l3 l4 l5 l6 l7 l8 l9 = some X → E m_X9_doesRest none (fun r h' => r = some (vi X.1) ∧ h' = X.2) 29 [some (vr 45), some (vi l1), some (vi l2), some (vi l3), some (vi l4), some (vi l5), some (vi l6), some (vi l7), some (vi l8), some (vi l9)] [] h) (hf : p_X9_doesRest_67 K29 h   l1 l2 l3 l4 l5 l6 l7 l9 s0 = some X) : E m_X9_doesRest none (fun r h' => r = some (vi X.1) ∧ h' = X.2) 67 [some (vr 45), some (vi l1), some (vi l2), some (vi l3), some (vi l4), some (vi l5), some (vi l6), some (vi l7), none, some (vi l9)] [vi s0] h := by
  unfold p_X9_doesRest_67 at hf
  refine e_istore (ls' := [some (vr 45), some (vi l1), some (vi l2), some (vi l3), some (vi l4), some (vi l5), some (vi l6), some (vi l7), some (vi s0), some (vi l9)]) dX9_doesRest_67 (Nat.le_of_ble_eq_true rfl) rfl ?_
  refine e_aload_n dX9_doesRest_69 rfl ?_
  refine e_iload_n dX9_doesRest_70 rfl ?_
  refine e_iload_n dX9_doesRest_71 rfl ?_
  refine e_iload_n dX9_doesRest_72 rfl ?_
  refine e_iload dX9_doesRest_73 rfl ?_
  refine e_iload dX9_doesRest_75 rfl ?_
  obtain ⟨h77, e77, hf⟩ := bd_some hf
  refine e_callV5v dX9_doesRest_77 rfl lk_981 ⟨rfl, rfl, Nat.le_of_ble_eq_true rfl, Nat.le_of_ble_eq_true rfl⟩ rfl rfl (Nat.le_of_ble_eq_true rfl) (q_X9_layRest h   l1 l2 l3 l9 l5 e77) ?_
  refine e_iload dX9_doesRest_80 rfl ?_
  refine e_if_eq (tgt := 98) dX9_doesRest_82 (by decide) (fun c82 => ?_) (fun c82 => ?_)
  · replace hf := ifp hf c82
    exact e_mask [true, true, true, true, true, true, true, true, false, true] (q_X9_doesRest_98 K29 h77     l1 l2 l3 l4 l5 l6 l7 l9 hK29 hf)
  · replace hf := ifn hf c82
    refine e_aload_n dX9_doesRest_85 rfl ?_
    refine e_getI (kz := 34) rfl dX9_doesRest_86 rfl fl_716 rfl rfl (Or.inl rfl) ?_
    refine e_iload dX9_doesRest_89 rfl ?_
    refine e_icmp_gt (tgt := 98) dX9_doesRest_91 (by decide) (fun c91 => ?_) (fun c91 => ?_)
    · replace hf := ifp hf c91
      exact e_mask [true, true, true, true, true, true, true, true, false, true] (q_X9_doesRest_98 K29 h77     l1 l2 l3 l4 l5 l6 l7 l9 hK29 hf)
    · replace hf := ifn hf c91
      refine e_iconst dX9_doesRest_94 ⟨by decide, by decide⟩ ?_
      refine e_goto (tgt := 99) dX9_doesRest_95 (by decide) ?_
      exact e_mask [true, true, true, true, true, true, true, true, false, true] (q_X9_doesRest_99 K29 h77     l1 l2 l3 l4 l5 l6 l7 l9 1 hK29 hf)
def p_X9_doesRest_29 (K29 : Mem → Int → Int → Int → Int → Int → Int → Int → Int → Int → Option (Int × Mem)) (h : Mem)   (l1 l2 l3 l4 l5 l6 l7 l8 l9 : Int) : Option (Int × Mem) :=
  if 10 ≤ l9 then (gd (l8 = 0 ∨ l8 = 1) (some (l8, h))) else (if l8 = 0 then (gd (l8 = 0 ∨ l8 = 1) (some (l8, h))) else (bd (p_X9_layRest h l1 l9 l3 l4 l5) (fun h50 => if l6 < h50 45 33 then (p_X9_doesRest_67 K29 h50   l1 l2 l3 l4 l5 l6 l7 l9 0) else (p_X9_doesRest_67 K29 h50   l1 l2 l3 l4 l5 l6 l7 l9 1))))
set_option maxRecDepth 20000 in
theorem q_X9_doesRest_29 (K29 : Mem → Int → Int → Int → Int → Int → Int → Int → Int → Int → Option (Int × Mem)) (h : Mem)     (l1 l2 l3 l4 l5 l6 l7 l8 l9 : Int) {X : Int × Mem} (hK29 : ∀ (h : Mem) (l1 l2 l3 l4 l5 l6 l7 l8 l9 : Int), K29 h l1 l2 l3 l4 l5 l6 l7 l8 l9 = some X → E m_X9_doesRest none (fun r h' => r = some (vi X.1) ∧ h' = X.2) 29 [some (vr 45), some (vi l1), some (vi l2), some (vi l3), some (vi l4), some (vi l5), some (vi l6), some (vi l7), some (vi l8), some (vi l9)] [] h) (hf : p_X9_doesRest_29 K29 h   l1 l2 l3 l4 l5 l6 l7 l8 l9 = some X) : E m_X9_doesRest none (fun r h' => r = some (vi X.1) ∧ h' = X.2) 29 [some (vr 45), some (vi l1), some (vi l2), some (vi l3), some (vi l4), some (vi l5), some (vi l6), some (vi l7), some (vi l8), some (vi l9)] [] h := by
  unfold p_X9_doesRest_29 at hf
  refine e_iload dX9_doesRest_29 rfl ?_
  refine e_bipush dX9_doesRest_31 ⟨by decide, by decide, by decide⟩ ?_
  refine e_icmp_ge (tgt := 107) dX9_doesRest_33 (by decide) (fun c33 => ?_) (fun c33 => ?_)
  · replace hf := ifp hf c33
    refine e_iload dX9_doesRest_107 rfl ?_
    obtain ⟨g109, hf⟩ := gd_some hf
    obtain rfl := Option.some.inj hf
    exact e_zreturn dX9_doesRest_109 rfl g109 ⟨rfl, rfl⟩
  · replace hf := ifn hf c33
    refine e_iload dX9_doesRest_36 rfl ?_
    refine e_if_eq (tgt := 107) dX9_doesRest_38 (by decide) (fun c38 => ?_) (fun c38 => ?_)
    · replace hf := ifp hf c38
      refine e_iload dX9_doesRest_107 rfl ?_
      obtain ⟨g109, hf⟩ := gd_some hf
      obtain rfl := Option.some.inj hf
      exact e_zreturn dX9_doesRest_109 rfl g109 ⟨rfl, rfl⟩
    · replace hf := ifn hf c38
      refine e_aload_n dX9_doesRest_41 rfl ?_
      refine e_iload_n dX9_doesRest_42 rfl ?_
      refine e_iload dX9_doesRest_43 rfl ?_
      refine e_iload_n dX9_doesRest_45 rfl ?_
      refine e_iload dX9_doesRest_46 rfl ?_
      refine e_iload dX9_doesRest_48 rfl ?_
      obtain ⟨h50, e50, hf⟩ := bd_some hf
      refine e_callV5v dX9_doesRest_50 rfl lk_981 ⟨rfl, rfl, Nat.le_of_ble_eq_true rfl, Nat.le_of_ble_eq_true rfl⟩ rfl rfl (Nat.le_of_ble_eq_true rfl) (q_X9_layRest h   l1 l9 l3 l4 l5 e50) ?_
      refine e_aload_n dX9_doesRest_53 rfl ?_
      refine e_getI (kz := 33) rfl dX9_doesRest_54 rfl fl_715 rfl rfl (Or.inl rfl) ?_
      refine e_iload dX9_doesRest_57 rfl ?_
      refine e_icmp_gt (tgt := 66) dX9_doesRest_59 (by decide) (fun c59 => ?_) (fun c59 => ?_)
      · replace hf := ifp hf c59
        refine e_iconst dX9_doesRest_66 ⟨by decide, by decide⟩ ?_
        exact e_mask [true, true, true, true, true, true, true, true, false, true] (q_X9_doesRest_67 K29 h50     l1 l2 l3 l4 l5 l6 l7 l9 0 hK29 hf)
      · replace hf := ifn hf c59
        refine e_iconst dX9_doesRest_62 ⟨by decide, by decide⟩ ?_
        refine e_goto (tgt := 67) dX9_doesRest_63 (by decide) ?_
        exact e_mask [true, true, true, true, true, true, true, true, false, true] (q_X9_doesRest_67 K29 h50     l1 l2 l3 l4 l5 l6 l7 l9 1 hK29 hf)
def p_X9_doesRest_L29     : Nat → Mem → Int → Int → Int → Int → Int → Int → Int → Int → Int → Option (Int × Mem)
  | 0, _, _, _, _, _, _, _, _, _, _ => none
  | n + 1, h, l1, l2, l3, l4, l5, l6, l7, l8, l9 => p_X9_doesRest_29 (fun (h : Mem) (l1 l2 l3 l4 l5 l6 l7 l8 l9 : Int) => p_X9_doesRest_L29     n h l1 l2 l3 l4 l5 l6 l7 l8 l9) h   l1 l2 l3 l4 l5 l6 l7 l8 l9
theorem q_X9_doesRest_L29       {X : Int × Mem}  : ∀ (n : Nat) (h : Mem) (l1 l2 l3 l4 l5 l6 l7 l8 l9 : Int), p_X9_doesRest_L29     n h l1 l2 l3 l4 l5 l6 l7 l8 l9 = some X → E m_X9_doesRest none (fun r h' => r = some (vi X.1) ∧ h' = X.2) 29 [some (vr 45), some (vi l1), some (vi l2), some (vi l3), some (vi l4), some (vi l5), some (vi l6), some (vi l7), some (vi l8), some (vi l9)] [] h := by
  intro n
  induction n with
  | zero => intro h l1 l2 l3 l4 l5 l6 l7 l8 l9 hf; have hf2 : (none : Option (Int × Mem)) = some X := hf; cases hf2
  | succ n ih => intro h l1 l2 l3 l4 l5 l6 l7 l8 l9 hf; exact q_X9_doesRest_29 (fun (h : Mem) (l1 l2 l3 l4 l5 l6 l7 l8 l9 : Int) => p_X9_doesRest_L29     n h l1 l2 l3 l4 l5 l6 l7 l8 l9) h     l1 l2 l3 l4 l5 l6 l7 l8 l9 (fun h l1 l2 l3 l4 l5 l6 l7 l8 l9 hf => ih h l1 l2 l3 l4 l5 l6 l7 l8 l9 hf) hf
def p_X9_doesRest (h : Mem)  (l1 l2 l3 l4 l5 : Int) : Option (Int × Mem) :=
  bd (p_X9_layRest h l1 l2 l3 l4 l5) (fun h8 => p_X9_doesRest_L29     300 h8 l1 l2 l3 l4 l5 (h8 45 33) (h8 45 34) 1 0)
set_option maxRecDepth 20000 in
theorem q_X9_doesRest (h : Mem)   (l1 l2 l3 l4 l5 : Int) {X : Int × Mem} (hf : p_X9_doesRest h  l1 l2 l3 l4 l5 = some X) : Cn m_X9_doesRest [vr 45, vi l1, vi l2, vi l3, vi l4, vi l5] h (fun r h' => r = some (vi X.1) ∧ h' = X.2) := by
  unfold p_X9_doesRest at hf
  have key : E m_X9_doesRest none (fun r h' => r = some (vi X.1) ∧ h' = X.2) 0 [some (vr 45), some (vi l1), some (vi l2), some (vi l3), some (vi l4), some (vi l5), none, none, none, none] [] h := by
    refine e_aload_n dX9_doesRest_0 rfl ?_
    refine e_iload_n dX9_doesRest_1 rfl ?_
    refine e_iload_n dX9_doesRest_2 rfl ?_
    refine e_iload_n dX9_doesRest_3 rfl ?_
    refine e_iload dX9_doesRest_4 rfl ?_
    refine e_iload dX9_doesRest_6 rfl ?_
    obtain ⟨h8, e8, hf⟩ := bd_some hf
    refine e_callV5v dX9_doesRest_8 rfl lk_981 ⟨rfl, rfl, Nat.le_of_ble_eq_true rfl, Nat.le_of_ble_eq_true rfl⟩ rfl rfl (Nat.le_of_ble_eq_true rfl) (q_X9_layRest h   l1 l2 l3 l4 l5 e8) ?_
    refine e_aload_n dX9_doesRest_11 rfl ?_
    refine e_getI (kz := 33) rfl dX9_doesRest_12 rfl fl_715 rfl rfl (Or.inl rfl) ?_
    refine e_istore (ls' := [some (vr 45), some (vi l1), some (vi l2), some (vi l3), some (vi l4), some (vi l5), some (vi (h8 45 33)), none, none, none]) dX9_doesRest_15 (Nat.le_of_ble_eq_true rfl) rfl ?_
    refine e_aload_n dX9_doesRest_17 rfl ?_
    refine e_getI (kz := 34) rfl dX9_doesRest_18 rfl fl_716 rfl rfl (Or.inl rfl) ?_
    refine e_istore (ls' := [some (vr 45), some (vi l1), some (vi l2), some (vi l3), some (vi l4), some (vi l5), some (vi (h8 45 33)), some (vi (h8 45 34)), none, none]) dX9_doesRest_21 (Nat.le_of_ble_eq_true rfl) rfl ?_
    refine e_iconst dX9_doesRest_23 ⟨by decide, by decide⟩ ?_
    refine e_istore (ls' := [some (vr 45), some (vi l1), some (vi l2), some (vi l3), some (vi l4), some (vi l5), some (vi (h8 45 33)), some (vi (h8 45 34)), some (vi 1), none]) dX9_doesRest_24 (Nat.le_of_ble_eq_true rfl) rfl ?_
    refine e_iconst dX9_doesRest_26 ⟨by decide, by decide⟩ ?_
    refine e_istore (ls' := [some (vr 45), some (vi l1), some (vi l2), some (vi l3), some (vi l4), some (vi l5), some (vi (h8 45 33)), some (vi (h8 45 34)), some (vi 1), some (vi 0)]) dX9_doesRest_27 (Nat.le_of_ble_eq_true rfl) rfl ?_
    exact e_mask [true, true, true, true, true, true, true, true, true, true] (q_X9_doesRest_L29        300 h8 l1 l2 l3 l4 l5 (h8 45 33) (h8 45 34) 1 0 hf)
  exact Cn_of rfl (fun _ => Nat.le_of_ble_eq_true rfl) ⟨rfl, rfl⟩ (e_pad 4 key)
theorem lk_977 : VLk "StarRightModel" 217 m_X9_doesRest 5 := ⟨tw_977, tw_979, twp_38, tw_10, tw_980, by decide +kernel⟩
abbrev m_X9_rests : MI := (yX9_rests, cX9_rests, 6, some .int, { frames := 6, cells := 0, slots := 0, locals := 157 })
def p_X9_rests_131  (h : Mem)   (l4 : Int) : Option (Int × Mem) :=
  if l4 = 0 then (some (h 45 31, h)) else (some (h 45 32, h))
set_option maxRecDepth 20000 in
theorem q_X9_rests_131  (h : Mem)     (l4 : Int) {X : Int × Mem}  (hf : p_X9_rests_131  h   l4 = some X) : E m_X9_rests none (fun r h' => r = some (vi X.1) ∧ h' = X.2) 131 [some (vr 45), none, none, none, some (vi l4), none] [] h := by
  unfold p_X9_rests_131 at hf
  refine e_iload dX9_rests_131 rfl ?_
  refine e_if_ne (tgt := 143) dX9_rests_133 (by decide) (fun c133 => ?_) (fun c133 => ?_)
  · replace hf := ifn hf c133
    refine e_aload_n dX9_rests_143 rfl ?_
    refine e_getI (kz := 32) rfl dX9_rests_144 rfl fl_714 rfl rfl (Or.inl rfl) ?_
    obtain rfl := Option.some.inj hf
    exact e_ireturn dX9_rests_147 rfl ⟨rfl, rfl⟩
  · replace hf := ifp hf c133
    refine e_aload_n dX9_rests_136 rfl ?_
    refine e_getI (kz := 31) rfl dX9_rests_137 rfl fl_713 rfl rfl (Or.inl rfl) ?_
    refine e_goto (tgt := 147) dX9_rests_140 (by decide) ?_
    obtain rfl := Option.some.inj hf
    exact e_ireturn dX9_rests_147 rfl ⟨rfl, rfl⟩
def p_X9_rests_125 (K68 : Mem → Int → Int → Int → Int → Int → Option (Int × Mem)) (h : Mem)   (l1 l2 l3 l4 l5 : Int) : Option (Int × Mem) :=
  K68 h l1 l2 l3 l4 (wr (l5 + 1))
set_option maxRecDepth 20000 in
theorem q_X9_rests_125 (K68 : Mem → Int → Int → Int → Int → Int → Option (Int × Mem)) (h : Mem)     (l1 l2 l3 l4 l5 : Int) {X : Int × Mem} (hK68 : ∀ (h : Mem) (l1 l2 l3 l4 l5 : Int), K68 h l1 l2 l3 l4 l5 = some X → E m_X9_rests none (fun r h' => r = some (vi X.1) ∧ h' = X.2) 68 [some (vr 45), some (vi l1), some (vi l2), some (vi l3), some (vi l4), some (vi l5)] [] h) (hf : p_X9_rests_125 K68 h   l1 l2 l3 l4 l5 = some X) : E m_X9_rests none (fun r h' => r = some (vi X.1) ∧ h' = X.2) 125 [some (vr 45), some (vi l1), some (vi l2), some (vi l3), some (vi l4), some (vi l5)] [] h := by
  unfold p_X9_rests_125 at hf
  refine e_iinc (ls' := [some (vr 45), some (vi l1), some (vi l2), some (vi l3), some (vi l4), some (vi (wr (l5 + 1)))]) dX9_rests_125 rfl (Nat.le_of_ble_eq_true rfl) rfl ?_
  refine e_goto (tgt := 68) dX9_rests_128 (by decide) ?_
  exact e_mask [true, true, true, true, true, true] (hK68 h l1 l2 l3 l4 (wr (l5 + 1)) hf)
def p_X9_rests_112 (K68 : Mem → Int → Int → Int → Int → Int → Option (Int × Mem)) (h : Mem)   (l1 l2 l3 l4 l5 s0 : Int) : Option (Int × Mem) :=
  p_X9_rests_125 K68 (up (up h 45 32 s0) 45 31 (wr (((up h 45 32 s0) 45 31) + 1)))   l1 l2 l3 l4 l5
set_option maxRecDepth 20000 in
theorem q_X9_rests_112 (K68 : Mem → Int → Int → Int → Int → Int → Option (Int × Mem)) (h : Mem)     (l1 l2 l3 l4 l5 s0 : Int) {X : Int × Mem} (hK68 : ∀ (h : Mem) (l1 l2 l3 l4 l5 : Int), K68 h l1 l2 l3 l4 l5 = some X → E m_X9_rests none (fun r h' => r = some (vi X.1) ∧ h' = X.2) 68 [some (vr 45), some (vi l1), some (vi l2), some (vi l3), some (vi l4), some (vi l5)] [] h) (hf : p_X9_rests_112 K68 h   l1 l2 l3 l4 l5 s0 = some X) : E m_X9_rests none (fun r h' => r = some (vi X.1) ∧ h' = X.2) 112 [some (vr 45), some (vi l1), some (vi l2), some (vi l3), some (vi l4), some (vi l5)] [vi s0, vr 45] h := by
  unfold p_X9_rests_112 at hf
  refine e_putI (t := 0) (kz := 32) rfl dX9_rests_112 rfl fp_714 rfl rfl (Or.inl rfl) ?_
  refine e_aload_n dX9_rests_115 rfl ?_
  refine e_dup dX9_rests_116 (fun _ => rfl) ?_
  refine e_getI (kz := 31) rfl dX9_rests_117 rfl fl_713 rfl rfl (Or.inl rfl) ?_
  refine e_iconst dX9_rests_120 ⟨by decide, by decide⟩ ?_
  refine e_iadd dX9_rests_121 ?_
  refine e_putI (t := 0) (kz := 31) rfl dX9_rests_122 rfl fp_713 rfl rfl (Or.inl rfl) ?_
  exact e_mask [true, true, true, true, true, true] (q_X9_rests_125 K68 (up (up h 45 32 s0) 45 31 (wr (((up h 45 32 s0) 45 31) + 1)))     l1 l2 l3 l4 l5 hK68 hf)
def p_X9_rests_68 (K68 : Mem → Int → Int → Int → Int → Int → Option (Int × Mem)) (h : Mem)   (l1 l2 l3 l4 l5 : Int) : Option (Int × Mem) :=
  if 100 ≤ l5 then (p_X9_rests_131  h   l4) else (bd (p_X9_doesRest h l1 (qdiv l5 10) l2 (qrem l5 10) l3) (fun q89 => if q89.1 = 0 then (p_X9_rests_125 K68 q89.2   l1 l2 l3 l4 l5) else (if q89.2 45 31 = 0 then (p_X9_rests_112 K68 q89.2   l1 l2 l3 l4 l5 l5) else (p_X9_rests_112 K68 q89.2   l1 l2 l3 l4 l5 (q89.2 45 32)))))
set_option maxRecDepth 20000 in
theorem q_X9_rests_68 (K68 : Mem → Int → Int → Int → Int → Int → Option (Int × Mem)) (h : Mem)     (l1 l2 l3 l4 l5 : Int) {X : Int × Mem} (hK68 : ∀ (h : Mem) (l1 l2 l3 l4 l5 : Int), K68 h l1 l2 l3 l4 l5 = some X → E m_X9_rests none (fun r h' => r = some (vi X.1) ∧ h' = X.2) 68 [some (vr 45), some (vi l1), some (vi l2), some (vi l3), some (vi l4), some (vi l5)] [] h) (hf : p_X9_rests_68 K68 h   l1 l2 l3 l4 l5 = some X) : E m_X9_rests none (fun r h' => r = some (vi X.1) ∧ h' = X.2) 68 [some (vr 45), some (vi l1), some (vi l2), some (vi l3), some (vi l4), some (vi l5)] [] h := by
  unfold p_X9_rests_68 at hf
  refine e_iload dX9_rests_68 rfl ?_
  refine e_bipush dX9_rests_70 ⟨by decide, by decide, by decide⟩ ?_
  refine e_icmp_ge (tgt := 131) dX9_rests_72 (by decide) (fun c72 => ?_) (fun c72 => ?_)
  · replace hf := ifp hf c72
    exact e_mask [true, false, false, false, true, false] (q_X9_rests_131  h     l4  hf)
  · replace hf := ifn hf c72
    refine e_aload_n dX9_rests_75 rfl ?_
    refine e_iload_n dX9_rests_76 rfl ?_
    refine e_iload dX9_rests_77 rfl ?_
    refine e_bipush dX9_rests_79 ⟨by decide, by decide, by decide⟩ ?_
    refine e_idiv dX9_rests_81 (by decide) ?_
    refine e_iload_n dX9_rests_82 rfl ?_
    refine e_iload dX9_rests_83 rfl ?_
    refine e_bipush dX9_rests_85 ⟨by decide, by decide, by decide⟩ ?_
    refine e_irem dX9_rests_87 (by decide) ?_
    refine e_iload_n dX9_rests_88 rfl ?_
    obtain ⟨q89, e89, hf⟩ := bd_some hf
    refine e_callV5i dX9_rests_89 rfl lk_977 ⟨rfl, rfl, Nat.le_of_ble_eq_true rfl, Nat.le_of_ble_eq_true rfl⟩ rfl rfl (Nat.le_of_ble_eq_true rfl) (q_X9_doesRest h   l1 (qdiv l5 10) l2 (qrem l5 10) l3 e89) ?_
    refine e_if_eq (tgt := 125) dX9_rests_92 (by decide) (fun c92 => ?_) (fun c92 => ?_)
    · replace hf := ifp hf c92
      exact e_mask [true, true, true, true, true, true] (q_X9_rests_125 K68 q89.2     l1 l2 l3 l4 l5 hK68 hf)
    · replace hf := ifn hf c92
      refine e_aload_n dX9_rests_95 rfl ?_
      refine e_aload_n dX9_rests_96 rfl ?_
      refine e_getI (kz := 31) rfl dX9_rests_97 rfl fl_713 rfl rfl (Or.inl rfl) ?_
      refine e_if_ne (tgt := 108) dX9_rests_100 (by decide) (fun c100 => ?_) (fun c100 => ?_)
      · replace hf := ifn hf c100
        refine e_aload_n dX9_rests_108 rfl ?_
        refine e_getI (kz := 32) rfl dX9_rests_109 rfl fl_714 rfl rfl (Or.inl rfl) ?_
        exact e_mask [true, true, true, true, true, true] (q_X9_rests_112 K68 q89.2     l1 l2 l3 l4 l5 (q89.2 45 32) hK68 hf)
      · replace hf := ifp hf c100
        refine e_iload dX9_rests_103 rfl ?_
        refine e_goto (tgt := 112) dX9_rests_105 (by decide) ?_
        exact e_mask [true, true, true, true, true, true] (q_X9_rests_112 K68 q89.2     l1 l2 l3 l4 l5 l5 hK68 hf)
def p_X9_rests_L68     : Nat → Mem → Int → Int → Int → Int → Int → Option (Int × Mem)
  | 0, _, _, _, _, _, _ => none
  | n + 1, h, l1, l2, l3, l4, l5 => p_X9_rests_68 (fun (h : Mem) (l1 l2 l3 l4 l5 : Int) => p_X9_rests_L68     n h l1 l2 l3 l4 l5) h   l1 l2 l3 l4 l5
theorem q_X9_rests_L68       {X : Int × Mem}  : ∀ (n : Nat) (h : Mem) (l1 l2 l3 l4 l5 : Int), p_X9_rests_L68     n h l1 l2 l3 l4 l5 = some X → E m_X9_rests none (fun r h' => r = some (vi X.1) ∧ h' = X.2) 68 [some (vr 45), some (vi l1), some (vi l2), some (vi l3), some (vi l4), some (vi l5)] [] h := by
  intro n
  induction n with
  | zero => intro h l1 l2 l3 l4 l5 hf; have hf2 : (none : Option (Int × Mem)) = some X := hf; cases hf2
  | succ n ih => intro h l1 l2 l3 l4 l5 hf; exact q_X9_rests_68 (fun (h : Mem) (l1 l2 l3 l4 l5 : Int) => p_X9_rests_L68     n h l1 l2 l3 l4 l5) h     l1 l2 l3 l4 l5 (fun h l1 l2 l3 l4 l5 hf => ih h l1 l2 l3 l4 l5 hf) hf
def p_X9_rests (h : Mem)  (l1 l2 l3 l4 : Int) : Option (Int × Mem) :=
  bd (p_X9_noRoof (up h 45 0 0) l1) (fun r7 => if r7 = 0 then (bd (p_X9_noRoof (up h 45 0 0) l2) (fun r15 => if r15 = 0 then (if l1 = l2 then (some ((-2), (up h 45 0 0))) else (bd (p_X9_in (up h 45 0 0) l3 1 10) (fun r34 => if r34 = 0 then (some ((-2), (up h 45 0 0))) else (bd (p_X9_in (up h 45 0 0) l4 0 1) (fun r45 => if r45 = 0 then (some ((-2), (up h 45 0 0))) else (p_X9_rests_L68     300 (up (up (up h 45 0 0) 45 31 0) 45 32 (-9)) l1 l2 l3 l4 0)))))) else (some ((-1), (up h 45 0 0))))) else (some ((-1), (up h 45 0 0))))
set_option maxRecDepth 20000 in
theorem q_X9_rests (h : Mem)   (l1 l2 l3 l4 : Int) {X : Int × Mem} (hf : p_X9_rests h  l1 l2 l3 l4 = some X) : Cn m_X9_rests [vr 45, vi l1, vi l2, vi l3, vi l4] h (fun r h' => r = some (vi X.1) ∧ h' = X.2) := by
  unfold p_X9_rests at hf
  have key : E m_X9_rests none (fun r h' => r = some (vi X.1) ∧ h' = X.2) 0 [some (vr 45), some (vi l1), some (vi l2), some (vi l3), some (vi l4), none] [] h := by
    refine e_aload_n dX9_rests_0 rfl ?_
    refine e_iconst dX9_rests_1 ⟨by decide, by decide⟩ ?_
    refine e_putI (t := 0) (kz := 0) rfl dX9_rests_2 rfl fp_682 rfl rfl (Or.inl rfl) ?_
    refine e_aload_n dX9_rests_5 rfl ?_
    refine e_iload_n dX9_rests_6 rfl ?_
    obtain ⟨r7, e7, hf⟩ := bd_some hf
    refine e_callV1i dX9_rests_7 rfl lk_860 ⟨rfl, rfl, Nat.le_of_ble_eq_true rfl, Nat.le_of_ble_eq_true rfl⟩ rfl rfl (Nat.le_of_ble_eq_true rfl) (q_X9_noRoof (up h 45 0 0)   l1 e7) ?_
    refine e_if_ne (tgt := 21) dX9_rests_10 (by decide) (fun c10 => ?_) (fun c10 => ?_)
    · replace hf := ifn hf c10
      refine e_iconst dX9_rests_21 ⟨by decide, by decide⟩ ?_
      obtain rfl := Option.some.inj hf
      exact e_ireturn dX9_rests_22 rfl ⟨rfl, rfl⟩
    · replace hf := ifp hf c10
      refine e_aload_n dX9_rests_13 rfl ?_
      refine e_iload_n dX9_rests_14 rfl ?_
      obtain ⟨r15, e15, hf⟩ := bd_some hf
      refine e_callV1i dX9_rests_15 rfl lk_860 ⟨rfl, rfl, Nat.le_of_ble_eq_true rfl, Nat.le_of_ble_eq_true rfl⟩ rfl rfl (Nat.le_of_ble_eq_true rfl) (q_X9_noRoof (up h 45 0 0)   l2 e15) ?_
      refine e_if_eq (tgt := 23) dX9_rests_18 (by decide) (fun c18 => ?_) (fun c18 => ?_)
      · replace hf := ifp hf c18
        refine e_iload_n dX9_rests_23 rfl ?_
        refine e_iload_n dX9_rests_24 rfl ?_
        refine e_icmp_eq (tgt := 51) dX9_rests_25 (by decide) (fun c25 => ?_) (fun c25 => ?_)
        · replace hf := ifp hf c25
          refine e_bipush dX9_rests_51 ⟨by decide, by decide, by decide⟩ ?_
          obtain rfl := Option.some.inj hf
          exact e_ireturn dX9_rests_53 rfl ⟨rfl, rfl⟩
        · replace hf := ifn hf c25
          refine e_iload_n dX9_rests_28 rfl ?_
          refine e_i2l dX9_rests_29 ?_
          refine e_lconst (a := 1) dX9_rests_30 ⟨by decide, by decide, by decide⟩ ?_
          refine e_ldc2 (a := 10) dX9_rests_31 rfl tw_936 ⟨by decide, by decide⟩ ?_
          obtain ⟨r34, e34, hf⟩ := bd_some hf
          refine e_callS3i dX9_rests_34 rfl lk_799 ⟨rfl, rfl, Nat.le_of_ble_eq_true rfl, Nat.le_of_ble_eq_true rfl⟩ (Nat.le_of_ble_eq_true rfl) (q_X9_in (up h 45 0 0)   l3 1 10 e34) ?_
          refine e_if_eq (tgt := 51) dX9_rests_37 (by decide) (fun c37 => ?_) (fun c37 => ?_)
          · replace hf := ifp hf c37
            refine e_bipush dX9_rests_51 ⟨by decide, by decide, by decide⟩ ?_
            obtain rfl := Option.some.inj hf
            exact e_ireturn dX9_rests_53 rfl ⟨rfl, rfl⟩
          · replace hf := ifn hf c37
            refine e_iload dX9_rests_40 rfl ?_
            refine e_i2l dX9_rests_42 ?_
            refine e_lconst (a := 0) dX9_rests_43 ⟨by decide, by decide, by decide⟩ ?_
            refine e_lconst (a := 1) dX9_rests_44 ⟨by decide, by decide, by decide⟩ ?_
            obtain ⟨r45, e45, hf⟩ := bd_some hf
            refine e_callS3i dX9_rests_45 rfl lk_799 ⟨rfl, rfl, Nat.le_of_ble_eq_true rfl, Nat.le_of_ble_eq_true rfl⟩ (Nat.le_of_ble_eq_true rfl) (q_X9_in (up h 45 0 0)   l4 0 1 e45) ?_
            refine e_if_ne (tgt := 54) dX9_rests_48 (by decide) (fun c48 => ?_) (fun c48 => ?_)
            · replace hf := ifn hf c48
              refine e_aload_n dX9_rests_54 rfl ?_
              refine e_iconst dX9_rests_55 ⟨by decide, by decide⟩ ?_
              refine e_putI (t := 0) (kz := 31) rfl dX9_rests_56 rfl fp_713 rfl rfl (Or.inl rfl) ?_
              refine e_aload_n dX9_rests_59 rfl ?_
              refine e_bipush dX9_rests_60 ⟨by decide, by decide, by decide⟩ ?_
              refine e_putI (t := 0) (kz := 32) rfl dX9_rests_62 rfl fp_714 rfl rfl (Or.inl rfl) ?_
              refine e_iconst dX9_rests_65 ⟨by decide, by decide⟩ ?_
              refine e_istore (ls' := [some (vr 45), some (vi l1), some (vi l2), some (vi l3), some (vi l4), some (vi 0)]) dX9_rests_66 (Nat.le_of_ble_eq_true rfl) rfl ?_
              exact e_mask [true, true, true, true, true, true] (q_X9_rests_L68        300 (up (up (up h 45 0 0) 45 31 0) 45 32 (-9)) l1 l2 l3 l4 0 hf)
            · replace hf := ifp hf c48
              refine e_bipush dX9_rests_51 ⟨by decide, by decide, by decide⟩ ?_
              obtain rfl := Option.some.inj hf
              exact e_ireturn dX9_rests_53 rfl ⟨rfl, rfl⟩
      · replace hf := ifn hf c18
        refine e_iconst dX9_rests_21 ⟨by decide, by decide⟩ ?_
        obtain rfl := Option.some.inj hf
        exact e_ireturn dX9_rests_22 rfl ⟨rfl, rfl⟩
  exact Cn_of rfl (fun _ => Nat.le_of_ble_eq_true rfl) ⟨rfl, rfl⟩ (e_pad 1 key)
abbrev m_X9_shine : MI := (yX9_shine, cX9_shine, 4, some .int, { frames := 1, cells := 0, slots := 0, locals := 25 })
def p_X9_shine_74  (h : Mem)    : Option (Int × Mem) :=
  some ((up h 45 22 (wr ((h 45 22) + 1))) 45 22, (up h 45 22 (wr ((h 45 22) + 1))))
set_option maxRecDepth 20000 in
theorem q_X9_shine_74  (h : Mem)      {X : Int × Mem}  (hf : p_X9_shine_74  h    = some X) : E m_X9_shine none (fun r h' => r = some (vi X.1) ∧ h' = X.2) 74 [some (vr 45), none, none, none] [] h := by
  unfold p_X9_shine_74 at hf
  refine e_aload_n dX9_shine_74 rfl ?_
  refine e_dup dX9_shine_75 (fun _ => rfl) ?_
  refine e_getI (kz := 22) rfl dX9_shine_76 rfl fl_704 rfl rfl (Or.inl rfl) ?_
  refine e_iconst dX9_shine_79 ⟨by decide, by decide⟩ ?_
  refine e_iadd dX9_shine_80 ?_
  refine e_putI (t := 0) (kz := 22) rfl dX9_shine_81 rfl fp_704 rfl rfl (Or.inl rfl) ?_
  refine e_aload_n dX9_shine_84 rfl ?_
  refine e_getI (kz := 22) rfl dX9_shine_85 rfl fl_704 rfl rfl (Or.inl rfl) ?_
  obtain rfl := Option.some.inj hf
  exact e_ireturn dX9_shine_88 rfl ⟨rfl, rfl⟩
def p_X9_shine (h : Mem)  (l1 l2 l3 : Int) : Option (Int × Mem) :=
  bd (p_X9_in (up h 45 0 0) l1 0 9) (fun r11 => if r11 = 0 then (some ((-2), (up h 45 0 0))) else (bd (p_X9_in (up h 45 0 0) l2 0 9) (fun r23 => if r23 = 0 then (some ((-2), (up h 45 0 0))) else (if (up h 45 0 0) 45 22 = 6 then (some ((-4), (up h 45 0 0))) else (gd (0 ≤ (up h 45 0 0) 45 22 ∧ (up h 45 0 0) 45 22 < 6) (gd (0 ≤ (up (up h 45 0 0) 58 ((up h 45 0 0) 45 22) l1) 45 22 ∧ (up (up h 45 0 0) 58 ((up h 45 0 0) 45 22) l1) 45 22 < 6) (gd (0 ≤ (up (up (up h 45 0 0) 58 ((up h 45 0 0) 45 22) l1) 59 ((up (up h 45 0 0) 58 ((up h 45 0 0) 45 22) l1) 45 22) l2) 45 22 ∧ (up (up (up h 45 0 0) 58 ((up h 45 0 0) 45 22) l1) 59 ((up (up h 45 0 0) 58 ((up h 45 0 0) 45 22) l1) 45 22) l2) 45 22 < 6) (gd (l3 = 0 ∨ l3 = 1) (p_X9_shine_74  (up (up (up (up h 45 0 0) 58 ((up h 45 0 0) 45 22) l1) 59 ((up (up h 45 0 0) 58 ((up h 45 0 0) 45 22) l1) 45 22) l2) 60 ((up (up (up h 45 0 0) 58 ((up h 45 0 0) 45 22) l1) 59 ((up (up h 45 0 0) 58 ((up h 45 0 0) 45 22) l1) 45 22) l2) 45 22) l3)   )))))))))
set_option maxRecDepth 20000 in
theorem q_X9_shine (h : Mem)   (l1 l2 l3 : Int) {X : Int × Mem} (hf : p_X9_shine h  l1 l2 l3 = some X) : Cn m_X9_shine [vr 45, vi l1, vi l2, vi l3] h (fun r h' => r = some (vi X.1) ∧ h' = X.2) := by
  unfold p_X9_shine at hf
  have key : E m_X9_shine none (fun r h' => r = some (vi X.1) ∧ h' = X.2) 0 [some (vr 45), some (vi l1), some (vi l2), some (vi l3)] [] h := by
    refine e_aload_n dX9_shine_0 rfl ?_
    refine e_iconst dX9_shine_1 ⟨by decide, by decide⟩ ?_
    refine e_putI (t := 0) (kz := 0) rfl dX9_shine_2 rfl fp_682 rfl rfl (Or.inl rfl) ?_
    refine e_iload_n dX9_shine_5 rfl ?_
    refine e_i2l dX9_shine_6 ?_
    refine e_lconst (a := 0) dX9_shine_7 ⟨by decide, by decide, by decide⟩ ?_
    refine e_ldc2 (a := 9) dX9_shine_8 rfl tw_897 ⟨by decide, by decide⟩ ?_
    obtain ⟨r11, e11, hf⟩ := bd_some hf
    refine e_callS3i dX9_shine_11 rfl lk_799 ⟨rfl, rfl, Nat.le_of_ble_eq_true rfl, Nat.le_of_ble_eq_true rfl⟩ (Nat.le_of_ble_eq_true rfl) (q_X9_in (up h 45 0 0)   l1 0 9 e11) ?_
    refine e_if_eq (tgt := 29) dX9_shine_14 (by decide) (fun c14 => ?_) (fun c14 => ?_)
    · replace hf := ifp hf c14
      refine e_bipush dX9_shine_29 ⟨by decide, by decide, by decide⟩ ?_
      obtain rfl := Option.some.inj hf
      exact e_ireturn dX9_shine_31 rfl ⟨rfl, rfl⟩
    · replace hf := ifn hf c14
      refine e_iload_n dX9_shine_17 rfl ?_
      refine e_i2l dX9_shine_18 ?_
      refine e_lconst (a := 0) dX9_shine_19 ⟨by decide, by decide, by decide⟩ ?_
      refine e_ldc2 (a := 9) dX9_shine_20 rfl tw_897 ⟨by decide, by decide⟩ ?_
      obtain ⟨r23, e23, hf⟩ := bd_some hf
      refine e_callS3i dX9_shine_23 rfl lk_799 ⟨rfl, rfl, Nat.le_of_ble_eq_true rfl, Nat.le_of_ble_eq_true rfl⟩ (Nat.le_of_ble_eq_true rfl) (q_X9_in (up h 45 0 0)   l2 0 9 e23) ?_
      refine e_if_ne (tgt := 32) dX9_shine_26 (by decide) (fun c26 => ?_) (fun c26 => ?_)
      · replace hf := ifn hf c26
        refine e_aload_n dX9_shine_32 rfl ?_
        refine e_getI (kz := 22) rfl dX9_shine_33 rfl fl_704 rfl rfl (Or.inl rfl) ?_
        refine e_bipush dX9_shine_36 ⟨by decide, by decide, by decide⟩ ?_
        refine e_icmp_ne (tgt := 44) dX9_shine_38 (by decide) (fun c38 => ?_) (fun c38 => ?_)
        · replace hf := ifn hf c38
          refine e_aload_n dX9_shine_44 rfl ?_
          refine e_getR dX9_shine_45 rfl fl_705 rfl rfl ?_
          refine e_aload_n dX9_shine_48 rfl ?_
          refine e_getI (kz := 22) rfl dX9_shine_49 rfl fl_704 rfl rfl (Or.inl rfl) ?_
          refine e_iload_n dX9_shine_52 rfl ?_
          obtain ⟨g53, hf⟩ := gd_some hf
          refine e_iast dX9_shine_53 rfl g53 ?_
          refine e_aload_n dX9_shine_54 rfl ?_
          refine e_getR dX9_shine_55 rfl fl_706 rfl rfl ?_
          refine e_aload_n dX9_shine_58 rfl ?_
          refine e_getI (kz := 22) rfl dX9_shine_59 rfl fl_704 rfl rfl (Or.inl rfl) ?_
          refine e_iload_n dX9_shine_62 rfl ?_
          obtain ⟨g63, hf⟩ := gd_some hf
          refine e_iast dX9_shine_63 rfl g63 ?_
          refine e_aload_n dX9_shine_64 rfl ?_
          refine e_getR dX9_shine_65 rfl fl_707 rfl rfl ?_
          refine e_aload_n dX9_shine_68 rfl ?_
          refine e_getI (kz := 22) rfl dX9_shine_69 rfl fl_704 rfl rfl (Or.inl rfl) ?_
          refine e_iload_n dX9_shine_72 rfl ?_
          obtain ⟨g73, hf⟩ := gd_some hf
          obtain ⟨gv73, hf⟩ := gd_some hf
          refine e_bast dX9_shine_73 rfl g73 gv73 ?_
          exact e_mask [true, false, false, false] (q_X9_shine_74  (up (up (up (up h 45 0 0) 58 ((up h 45 0 0) 45 22) l1) 59 ((up (up h 45 0 0) 58 ((up h 45 0 0) 45 22) l1) 45 22) l2) 60 ((up (up (up h 45 0 0) 58 ((up h 45 0 0) 45 22) l1) 59 ((up (up h 45 0 0) 58 ((up h 45 0 0) 45 22) l1) 45 22) l2) 45 22) l3)       hf)
        · replace hf := ifp hf c38
          refine e_bipush dX9_shine_41 ⟨by decide, by decide, by decide⟩ ?_
          obtain rfl := Option.some.inj hf
          exact e_ireturn dX9_shine_43 rfl ⟨rfl, rfl⟩
      · replace hf := ifp hf c26
        refine e_bipush dX9_shine_29 ⟨by decide, by decide, by decide⟩ ?_
        obtain rfl := Option.some.inj hf
        exact e_ireturn dX9_shine_31 rfl ⟨rfl, rfl⟩
  exact Cn_of rfl (fun _ => Nat.le_of_ble_eq_true rfl) ⟨rfl, rfl⟩ (e_pad 0 key)
abbrev m_X9_unshine : MI := (yX9_unshine, cX9_unshine, 2, some .int, { frames := 0, cells := 0, slots := 0, locals := 0 })
def p_X9_unshine (h : Mem)   : Option (Int × Mem) :=
  some ((up h 45 0 0) 45 22, (up (up h 45 0 0) 45 22 0))
set_option maxRecDepth 20000 in
theorem q_X9_unshine (h : Mem)    {X : Int × Mem} (hf : p_X9_unshine h   = some X) : Cn m_X9_unshine [vr 45] h (fun r h' => r = some (vi X.1) ∧ h' = X.2) := by
  unfold p_X9_unshine at hf
  have key : E m_X9_unshine none (fun r h' => r = some (vi X.1) ∧ h' = X.2) 0 [some (vr 45), none] [] h := by
    refine e_aload_n dX9_unshine_0 rfl ?_
    refine e_iconst dX9_unshine_1 ⟨by decide, by decide⟩ ?_
    refine e_putI (t := 0) (kz := 0) rfl dX9_unshine_2 rfl fp_682 rfl rfl (Or.inl rfl) ?_
    refine e_aload_n dX9_unshine_5 rfl ?_
    refine e_getI (kz := 22) rfl dX9_unshine_6 rfl fl_704 rfl rfl (Or.inl rfl) ?_
    refine e_istore_n (ls' := [some (vr 45), some (vi ((up h 45 0 0) 45 22))]) dX9_unshine_9 (Nat.le_of_ble_eq_true rfl) rfl ?_
    refine e_aload_n dX9_unshine_10 rfl ?_
    refine e_iconst dX9_unshine_11 ⟨by decide, by decide⟩ ?_
    refine e_putI (t := 0) (kz := 22) rfl dX9_unshine_12 rfl fp_704 rfl rfl (Or.inl rfl) ?_
    refine e_iload_n dX9_unshine_15 rfl ?_
    obtain rfl := Option.some.inj hf
    exact e_ireturn dX9_unshine_16 rfl ⟨rfl, rfl⟩
  exact Cn_of rfl (fun _ => Nat.le_of_ble_eq_true rfl) ⟨rfl, rfl⟩ (e_pad 1 key)
abbrev m_X9_isOver : MI := (yX9_isOver, cX9_isOver, 3, some .boolean, { frames := 0, cells := 0, slots := 0, locals := 0 })
def p_X9_isOver (h : Mem)  (l0 l1 l2 : Int) : Option (Int) :=
  if qrem (wr ((qdiv l0 4) + (wr ((qrem l0 4) * l1)))) 10 = l2 then (some 1) else (some 0)
set_option maxRecDepth 20000 in
theorem q_X9_isOver (h : Mem)   (l0 l1 l2 : Int) {X : Int} (hf : p_X9_isOver h  l0 l1 l2 = some X) : Cn m_X9_isOver [vi l0, vi l1, vi l2] h (fun r h' => r = some (vi X) ∧ h' = h) := by
  unfold p_X9_isOver at hf
  have key : E m_X9_isOver none (fun r h' => r = some (vi X) ∧ h' = h) 0 [some (vi l0), some (vi l1), some (vi l2)] [] h := by
    refine e_iload_n dX9_isOver_0 rfl ?_
    refine e_iconst dX9_isOver_1 ⟨by decide, by decide⟩ ?_
    refine e_idiv dX9_isOver_2 (by decide) ?_
    refine e_iload_n dX9_isOver_3 rfl ?_
    refine e_iconst dX9_isOver_4 ⟨by decide, by decide⟩ ?_
    refine e_irem dX9_isOver_5 (by decide) ?_
    refine e_iload_n dX9_isOver_6 rfl ?_
    refine e_imul dX9_isOver_7 ?_
    refine e_iadd dX9_isOver_8 ?_
    refine e_bipush dX9_isOver_9 ⟨by decide, by decide, by decide⟩ ?_
    refine e_irem dX9_isOver_11 (by decide) ?_
    refine e_iload_n dX9_isOver_12 rfl ?_
    refine e_icmp_ne (tgt := 20) dX9_isOver_13 (by decide) (fun c13 => ?_) (fun c13 => ?_)
    · replace hf := ifn hf c13
      refine e_iconst dX9_isOver_20 ⟨by decide, by decide⟩ ?_
      obtain rfl := Option.some.inj hf
      exact e_zreturn dX9_isOver_21 rfl (by decide) ⟨rfl, rfl⟩
    · replace hf := ifp hf c13
      refine e_iconst dX9_isOver_16 ⟨by decide, by decide⟩ ?_
      refine e_goto (tgt := 21) dX9_isOver_17 (by decide) ?_
      obtain rfl := Option.some.inj hf
      exact e_zreturn dX9_isOver_21 rfl (by decide) ⟨rfl, rfl⟩
  exact Cn_of rfl (fun _ => Nat.le_of_ble_eq_true rfl) ⟨rfl, rfl⟩ (e_pad 0 key)
theorem lk_1001 : SLk "StarRightModel" 227 m_X9_isOver 3 := ⟨tw_1001, tw_1002, tw_10, tw_1003, by decide +kernel⟩
abbrev m_X9_find : MI := (yX9_find, cX9_find, 4, none, { frames := 1, cells := 0, slots := 0, locals := 22 })
def p_X9_find_125 (K13 : Mem → Int → Option (Mem)) (h : Mem)   (l1 s0 s1 : Int) : Option (Mem) :=
  K13 (up h 45 29 (wr (s0 + s1))) (wr (l1 + 1))
set_option maxRecDepth 20000 in
theorem q_X9_find_125 (K13 : Mem → Int → Option (Mem)) (h : Mem)     (l1 s0 s1 : Int) {X : Mem} (hK13 : ∀ (h : Mem) (l1 : Int), K13 h l1 = some X → E m_X9_find none (fun r h' => r = none ∧ h' = X) 13 [some (vr 45), some (vi l1), none, none] [] h) (hf : p_X9_find_125 K13 h   l1 s0 s1 = some X) : E m_X9_find none (fun r h' => r = none ∧ h' = X) 125 [some (vr 45), some (vi l1), none, none] [vi s1, vi s0, vr 45] h := by
  unfold p_X9_find_125 at hf
  refine e_iadd dX9_find_125 ?_
  refine e_putI (t := 0) (kz := 29) rfl dX9_find_126 rfl fp_711 rfl rfl (Or.inl rfl) ?_
  refine e_iinc (ls' := [some (vr 45), some (vi (wr (l1 + 1))), none, none]) dX9_find_129 rfl (Nat.le_of_ble_eq_true rfl) rfl ?_
  refine e_goto (tgt := 13) dX9_find_132 (by decide) ?_
  exact e_mask [true, true, false, false] (hK13 (up h 45 29 (wr (s0 + s1))) (wr (l1 + 1)) hf)
def p_X9_find_108 (K13 : Mem → Int → Option (Mem)) (h : Mem)   (l1 l2 s0 : Int) : Option (Mem) :=
  if l2 = 0 then (p_X9_find_125 K13 (up h 45 30 s0)   l1 ((up h 45 30 s0) 45 29) 0) else (p_X9_find_125 K13 (up h 45 30 s0)   l1 ((up h 45 30 s0) 45 29) 1)
set_option maxRecDepth 20000 in
theorem q_X9_find_108 (K13 : Mem → Int → Option (Mem)) (h : Mem)     (l1 l2 s0 : Int) {X : Mem} (hK13 : ∀ (h : Mem) (l1 : Int), K13 h l1 = some X → E m_X9_find none (fun r h' => r = none ∧ h' = X) 13 [some (vr 45), some (vi l1), none, none] [] h) (hf : p_X9_find_108 K13 h   l1 l2 s0 = some X) : E m_X9_find none (fun r h' => r = none ∧ h' = X) 108 [some (vr 45), some (vi l1), some (vi l2), none] [vi s0, vr 45] h := by
  unfold p_X9_find_108 at hf
  refine e_putI (t := 0) (kz := 30) rfl dX9_find_108 rfl fp_712 rfl rfl (Or.inl rfl) ?_
  refine e_aload_n dX9_find_111 rfl ?_
  refine e_dup dX9_find_112 (fun _ => rfl) ?_
  refine e_getI (kz := 29) rfl dX9_find_113 rfl fl_711 rfl rfl (Or.inl rfl) ?_
  refine e_iload_n dX9_find_116 rfl ?_
  refine e_if_eq (tgt := 124) dX9_find_117 (by decide) (fun c117 => ?_) (fun c117 => ?_)
  · replace hf := ifp hf c117
    refine e_iconst dX9_find_124 ⟨by decide, by decide⟩ ?_
    exact e_mask [true, true, false, false] (q_X9_find_125 K13 (up h 45 30 s0)     l1 ((up h 45 30 s0) 45 29) 0 hK13 hf)
  · replace hf := ifn hf c117
    refine e_iconst dX9_find_120 ⟨by decide, by decide⟩ ?_
    refine e_goto (tgt := 125) dX9_find_121 (by decide) ?_
    exact e_mask [true, true, false, false] (q_X9_find_125 K13 (up h 45 30 s0)     l1 ((up h 45 30 s0) 45 29) 1 hK13 hf)
def p_X9_find_104 (K13 : Mem → Int → Option (Mem)) (h : Mem)   (l1 l2 : Int) : Option (Mem) :=
  p_X9_find_108 K13 h   l1 l2 (h 45 30)
set_option maxRecDepth 20000 in
theorem q_X9_find_104 (K13 : Mem → Int → Option (Mem)) (h : Mem)     (l1 l2 : Int) {X : Mem} (hK13 : ∀ (h : Mem) (l1 : Int), K13 h l1 = some X → E m_X9_find none (fun r h' => r = none ∧ h' = X) 13 [some (vr 45), some (vi l1), none, none] [] h) (hf : p_X9_find_104 K13 h   l1 l2 = some X) : E m_X9_find none (fun r h' => r = none ∧ h' = X) 104 [some (vr 45), some (vi l1), some (vi l2), none] [vr 45] h := by
  unfold p_X9_find_104 at hf
  refine e_aload_n dX9_find_104 rfl ?_
  refine e_getI (kz := 30) rfl dX9_find_105 rfl fl_712 rfl rfl (Or.inl rfl) ?_
  exact e_mask [true, true, true, false] (q_X9_find_108 K13 h     l1 l2 (h 45 30) hK13 hf)
def p_X9_find_72 (K13 : Mem → Int → Option (Mem)) (h : Mem)   (l1 l2 : Int) : Option (Mem) :=
  gd (0 ≤ l1 ∧ l1 < 40) (gd (l2 = 0 ∨ l2 = 1) (if l2 = 0 then (p_X9_find_104 K13 (up h 62 l1 l2)   l1 l2) else (if (up h 62 l1 l2) 45 29 = 0 then (p_X9_find_108 K13 (up h 62 l1 l2)   l1 l2 (wr ((wr (10 * (qdiv l1 4))) + (qrem l1 4)))) else (p_X9_find_104 K13 (up h 62 l1 l2)   l1 l2))))
set_option maxRecDepth 20000 in
theorem q_X9_find_72 (K13 : Mem → Int → Option (Mem)) (h : Mem)     (l1 l2 : Int) {X : Mem} (hK13 : ∀ (h : Mem) (l1 : Int), K13 h l1 = some X → E m_X9_find none (fun r h' => r = none ∧ h' = X) 13 [some (vr 45), some (vi l1), none, none] [] h) (hf : p_X9_find_72 K13 h   l1 l2 = some X) : E m_X9_find none (fun r h' => r = none ∧ h' = X) 72 [some (vr 45), some (vi l1), some (vi l2), none] [] h := by
  unfold p_X9_find_72 at hf
  refine e_aload_n dX9_find_72 rfl ?_
  refine e_getR dX9_find_73 rfl fl_710 rfl rfl ?_
  refine e_iload_n dX9_find_76 rfl ?_
  refine e_iload_n dX9_find_77 rfl ?_
  obtain ⟨g78, hf⟩ := gd_some hf
  obtain ⟨gv78, hf⟩ := gd_some hf
  refine e_bast dX9_find_78 rfl g78 gv78 ?_
  refine e_aload_n dX9_find_79 rfl ?_
  refine e_iload_n dX9_find_80 rfl ?_
  refine e_if_eq (tgt := 104) dX9_find_81 (by decide) (fun c81 => ?_) (fun c81 => ?_)
  · replace hf := ifp hf c81
    exact e_mask [true, true, true, false] (q_X9_find_104 K13 (up h 62 l1 l2)     l1 l2 hK13 hf)
  · replace hf := ifn hf c81
    refine e_aload_n dX9_find_84 rfl ?_
    refine e_getI (kz := 29) rfl dX9_find_85 rfl fl_711 rfl rfl (Or.inl rfl) ?_
    refine e_if_ne (tgt := 104) dX9_find_88 (by decide) (fun c88 => ?_) (fun c88 => ?_)
    · replace hf := ifn hf c88
      exact e_mask [true, true, true, false] (q_X9_find_104 K13 (up h 62 l1 l2)     l1 l2 hK13 hf)
    · replace hf := ifp hf c88
      refine e_bipush dX9_find_91 ⟨by decide, by decide, by decide⟩ ?_
      refine e_iload_n dX9_find_93 rfl ?_
      refine e_iconst dX9_find_94 ⟨by decide, by decide⟩ ?_
      refine e_idiv dX9_find_95 (by decide) ?_
      refine e_imul dX9_find_96 ?_
      refine e_iload_n dX9_find_97 rfl ?_
      refine e_iconst dX9_find_98 ⟨by decide, by decide⟩ ?_
      refine e_irem dX9_find_99 (by decide) ?_
      refine e_iadd dX9_find_100 ?_
      refine e_goto (tgt := 108) dX9_find_101 (by decide) ?_
      exact e_mask [true, true, true, false] (q_X9_find_108 K13 (up h 62 l1 l2)     l1 l2 (wr ((wr (10 * (qdiv l1 4))) + (qrem l1 4))) hK13 hf)
def p_X9_find_65 (K13 : Mem → Int → Option (Mem)) (K23 : Mem → Int → Int → Int → Option (Mem)) (h : Mem)   (l1 l3 s0 : Int) : Option (Mem) :=
  K23 h l1 s0 (wr (l3 + 1))
set_option maxRecDepth 20000 in
theorem q_X9_find_65 (K13 : Mem → Int → Option (Mem)) (K23 : Mem → Int → Int → Int → Option (Mem)) (h : Mem)     (l1 l3 s0 : Int) {X : Mem} (hK13 : ∀ (h : Mem) (l1 : Int), K13 h l1 = some X → E m_X9_find none (fun r h' => r = none ∧ h' = X) 13 [some (vr 45), some (vi l1), none, none] [] h) (hK23 : ∀ (h : Mem) (l1 l2 l3 : Int), K23 h l1 l2 l3 = some X → E m_X9_find none (fun r h' => r = none ∧ h' = X) 23 [some (vr 45), some (vi l1), some (vi l2), some (vi l3)] [] h) (hf : p_X9_find_65 K13 K23 h   l1 l3 s0 = some X) : E m_X9_find none (fun r h' => r = none ∧ h' = X) 65 [some (vr 45), some (vi l1), none, some (vi l3)] [vi s0] h := by
  unfold p_X9_find_65 at hf
  refine e_istore_n (ls' := [some (vr 45), some (vi l1), some (vi s0), some (vi l3)]) dX9_find_65 (Nat.le_of_ble_eq_true rfl) rfl ?_
  refine e_iinc (ls' := [some (vr 45), some (vi l1), some (vi s0), some (vi (wr (l3 + 1)))]) dX9_find_66 rfl (Nat.le_of_ble_eq_true rfl) rfl ?_
  refine e_goto (tgt := 23) dX9_find_69 (by decide) ?_
  exact e_mask [true, true, true, true] (hK23 h l1 s0 (wr (l3 + 1)) hf)
def p_X9_find_23 (K13 : Mem → Int → Option (Mem)) (K23 : Mem → Int → Int → Int → Option (Mem)) (h : Mem)   (l1 l2 l3 : Int) : Option (Mem) :=
  if h 45 22 ≤ l3 then (p_X9_find_72 K13 h   l1 l2) else (if l2 = 0 then (p_X9_find_72 K13 h   l1 l2) else (gd (0 ≤ l3 ∧ l3 < 6) (gd (0 ≤ l3 ∧ l3 < 6) (bd (p_X9_isOver h l1 (h 59 l3) (h 58 l3)) (fun r48 => gd (0 ≤ l3 ∧ l3 < 6) (if r48 = h 60 l3 then (p_X9_find_65 K13 K23 h   l1 l3 1) else (p_X9_find_65 K13 K23 h   l1 l3 0)))))))
set_option maxRecDepth 20000 in
theorem q_X9_find_23 (K13 : Mem → Int → Option (Mem)) (K23 : Mem → Int → Int → Int → Option (Mem)) (h : Mem)     (l1 l2 l3 : Int) {X : Mem} (hK13 : ∀ (h : Mem) (l1 : Int), K13 h l1 = some X → E m_X9_find none (fun r h' => r = none ∧ h' = X) 13 [some (vr 45), some (vi l1), none, none] [] h) (hK23 : ∀ (h : Mem) (l1 l2 l3 : Int), K23 h l1 l2 l3 = some X → E m_X9_find none (fun r h' => r = none ∧ h' = X) 23 [some (vr 45), some (vi l1), some (vi l2), some (vi l3)] [] h) (hf : p_X9_find_23 K13 K23 h   l1 l2 l3 = some X) : E m_X9_find none (fun r h' => r = none ∧ h' = X) 23 [some (vr 45), some (vi l1), some (vi l2), some (vi l3)] [] h := by
  unfold p_X9_find_23 at hf
  refine e_iload_n dX9_find_23 rfl ?_
  refine e_aload_n dX9_find_24 rfl ?_
  refine e_getI (kz := 22) rfl dX9_find_25 rfl fl_704 rfl rfl (Or.inl rfl) ?_
  refine e_icmp_ge (tgt := 72) dX9_find_28 (by decide) (fun c28 => ?_) (fun c28 => ?_)
  · replace hf := ifp hf c28
    exact e_mask [true, true, true, false] (q_X9_find_72 K13 h     l1 l2 hK13 hf)
  · replace hf := ifn hf c28
    refine e_iload_n dX9_find_31 rfl ?_
    refine e_if_eq (tgt := 72) dX9_find_32 (by decide) (fun c32 => ?_) (fun c32 => ?_)
    · replace hf := ifp hf c32
      exact e_mask [true, true, true, false] (q_X9_find_72 K13 h     l1 l2 hK13 hf)
    · replace hf := ifn hf c32
      refine e_iload_n dX9_find_35 rfl ?_
      refine e_aload_n dX9_find_36 rfl ?_
      refine e_getR dX9_find_37 rfl fl_706 rfl rfl ?_
      refine e_iload_n dX9_find_40 rfl ?_
      obtain ⟨g41, hf⟩ := gd_some hf
      refine e_iald dX9_find_41 rfl g41 ?_
      refine e_aload_n dX9_find_42 rfl ?_
      refine e_getR dX9_find_43 rfl fl_705 rfl rfl ?_
      refine e_iload_n dX9_find_46 rfl ?_
      obtain ⟨g47, hf⟩ := gd_some hf
      refine e_iald dX9_find_47 rfl g47 ?_
      obtain ⟨r48, e48, hf⟩ := bd_some hf
      refine e_callS3i dX9_find_48 rfl lk_1001 ⟨rfl, rfl, Nat.le_of_ble_eq_true rfl, Nat.le_of_ble_eq_true rfl⟩ (Nat.le_of_ble_eq_true rfl) (q_X9_isOver h   l1 (h 59 l3) (h 58 l3) e48) ?_
      refine e_aload_n dX9_find_51 rfl ?_
      refine e_getR dX9_find_52 rfl fl_707 rfl rfl ?_
      refine e_iload_n dX9_find_55 rfl ?_
      obtain ⟨g56, hf⟩ := gd_some hf
      refine e_bald dX9_find_56 rfl g56 ?_
      refine e_icmp_ne (tgt := 64) dX9_find_57 (by decide) (fun c57 => ?_) (fun c57 => ?_)
      · replace hf := ifn hf c57
        refine e_iconst dX9_find_64 ⟨by decide, by decide⟩ ?_
        exact e_mask [true, true, false, true] (q_X9_find_65 K13 K23 h     l1 l3 0 hK13 hK23 hf)
      · replace hf := ifp hf c57
        refine e_iconst dX9_find_60 ⟨by decide, by decide⟩ ?_
        refine e_goto (tgt := 65) dX9_find_61 (by decide) ?_
        exact e_mask [true, true, false, true] (q_X9_find_65 K13 K23 h     l1 l3 1 hK13 hK23 hf)
def p_X9_find_L23 (K13 : Mem → Int → Option (Mem))    : Nat → Mem → Int → Int → Int → Option (Mem)
  | 0, _, _, _, _ => none
  | n + 1, h, l1, l2, l3 => p_X9_find_23 K13 (fun (h : Mem) (l1 l2 l3 : Int) => p_X9_find_L23 K13    n h l1 l2 l3) h   l1 l2 l3
theorem q_X9_find_L23 (K13 : Mem → Int → Option (Mem))      {X : Mem} (hK13 : ∀ (h : Mem) (l1 : Int), K13 h l1 = some X → E m_X9_find none (fun r h' => r = none ∧ h' = X) 13 [some (vr 45), some (vi l1), none, none] [] h) : ∀ (n : Nat) (h : Mem) (l1 l2 l3 : Int), p_X9_find_L23 K13    n h l1 l2 l3 = some X → E m_X9_find none (fun r h' => r = none ∧ h' = X) 23 [some (vr 45), some (vi l1), some (vi l2), some (vi l3)] [] h := by
  intro n
  induction n with
  | zero => intro h l1 l2 l3 hf; have hf2 : (none : Option (Mem)) = some X := hf; cases hf2
  | succ n ih => intro h l1 l2 l3 hf; exact q_X9_find_23 K13 (fun (h : Mem) (l1 l2 l3 : Int) => p_X9_find_L23 K13    n h l1 l2 l3) h     l1 l2 l3 hK13 (fun h l1 l2 l3 hf => ih h l1 l2 l3 hf) hf
def p_X9_find_13 (K13 : Mem → Int → Option (Mem)) (h : Mem)   (l1 : Int) : Option (Mem) :=
  if 40 ≤ l1 then (some h) else (p_X9_find_L23 K13    300 h l1 1 0)
set_option maxRecDepth 20000 in
theorem q_X9_find_13 (K13 : Mem → Int → Option (Mem)) (h : Mem)     (l1 : Int) {X : Mem} (hK13 : ∀ (h : Mem) (l1 : Int), K13 h l1 = some X → E m_X9_find none (fun r h' => r = none ∧ h' = X) 13 [some (vr 45), some (vi l1), none, none] [] h) (hf : p_X9_find_13 K13 h   l1 = some X) : E m_X9_find none (fun r h' => r = none ∧ h' = X) 13 [some (vr 45), some (vi l1), none, none] [] h := by
  unfold p_X9_find_13 at hf
  refine e_iload_n dX9_find_13 rfl ?_
  refine e_bipush dX9_find_14 ⟨by decide, by decide, by decide⟩ ?_
  refine e_icmp_ge (tgt := 135) dX9_find_16 (by decide) (fun c16 => ?_) (fun c16 => ?_)
  · replace hf := ifp hf c16
    obtain rfl := Option.some.inj hf
    exact e_return dX9_find_135 rfl ⟨rfl, rfl⟩
  · replace hf := ifn hf c16
    refine e_iconst dX9_find_19 ⟨by decide, by decide⟩ ?_
    refine e_istore_n (ls' := [some (vr 45), some (vi l1), some (vi 1), none]) dX9_find_20 (Nat.le_of_ble_eq_true rfl) rfl ?_
    refine e_iconst dX9_find_21 ⟨by decide, by decide⟩ ?_
    refine e_istore_n (ls' := [some (vr 45), some (vi l1), some (vi 1), some (vi 0)]) dX9_find_22 (Nat.le_of_ble_eq_true rfl) rfl ?_
    exact e_mask [true, true, true, true] (q_X9_find_L23 K13      hK13 300 h l1 1 0 hf)
def p_X9_find_L13     : Nat → Mem → Int → Option (Mem)
  | 0, _, _ => none
  | n + 1, h, l1 => p_X9_find_13 (fun (h : Mem) (l1 : Int) => p_X9_find_L13     n h l1) h   l1
theorem q_X9_find_L13       {X : Mem}  : ∀ (n : Nat) (h : Mem) (l1 : Int), p_X9_find_L13     n h l1 = some X → E m_X9_find none (fun r h' => r = none ∧ h' = X) 13 [some (vr 45), some (vi l1), none, none] [] h := by
  intro n
  induction n with
  | zero => intro h l1 hf; have hf2 : (none : Option (Mem)) = some X := hf; cases hf2
  | succ n ih => intro h l1 hf; exact q_X9_find_13 (fun (h : Mem) (l1 : Int) => p_X9_find_L13     n h l1) h     l1 (fun h l1 hf => ih h l1 hf) hf
def p_X9_find (h : Mem)   : Option (Mem) :=
  p_X9_find_L13     300 (up (up h 45 29 0) 45 30 (-9)) 0
set_option maxRecDepth 20000 in
theorem q_X9_find (h : Mem)    {X : Mem} (hf : p_X9_find h   = some X) : Cn m_X9_find [vr 45] h (fun r h' => r = none ∧ h' = X) := by
  unfold p_X9_find at hf
  have key : E m_X9_find none (fun r h' => r = none ∧ h' = X) 0 [some (vr 45), none, none, none] [] h := by
    refine e_aload_n dX9_find_0 rfl ?_
    refine e_iconst dX9_find_1 ⟨by decide, by decide⟩ ?_
    refine e_putI (t := 0) (kz := 29) rfl dX9_find_2 rfl fp_711 rfl rfl (Or.inl rfl) ?_
    refine e_aload_n dX9_find_5 rfl ?_
    refine e_bipush dX9_find_6 ⟨by decide, by decide, by decide⟩ ?_
    refine e_putI (t := 0) (kz := 30) rfl dX9_find_8 rfl fp_712 rfl rfl (Or.inl rfl) ?_
    refine e_iconst dX9_find_11 ⟨by decide, by decide⟩ ?_
    refine e_istore_n (ls' := [some (vr 45), some (vi 0), none, none]) dX9_find_12 (Nat.le_of_ble_eq_true rfl) rfl ?_
    exact e_mask [true, true, false, false] (q_X9_find_L13        300 (up (up h 45 29 0) 45 30 (-9)) 0 hf)
  exact Cn_of rfl (fun _ => Nat.le_of_ble_eq_true rfl) ⟨rfl, rfl⟩ (e_pad 3 key)
theorem lk_997 : VLk "StarRightModel" 231 m_X9_find 0 := ⟨tw_997, tw_999, twp_40, tw_10, tw_1000, by decide +kernel⟩
abbrev m_X9_found : MI := (yX9_found, cX9_found, 2, some .int, { frames := 2, cells := 0, slots := 0, locals := 45 })
def p_X9_found (h : Mem)  (l1 : Int) : Option (Int × Mem) :=
  bd (p_X9_in (up h 45 0 0) l1 0 1) (fun r9 => if r9 = 0 then (some ((-2), (up h 45 0 0))) else (bd (p_X9_find (up h 45 0 0) ) (fun h19 => if l1 = 0 then (some (h19 45 29, h19)) else (some (h19 45 30, h19)))))
set_option maxRecDepth 20000 in
theorem q_X9_found (h : Mem)   (l1 : Int) {X : Int × Mem} (hf : p_X9_found h  l1 = some X) : Cn m_X9_found [vr 45, vi l1] h (fun r h' => r = some (vi X.1) ∧ h' = X.2) := by
  unfold p_X9_found at hf
  have key : E m_X9_found none (fun r h' => r = some (vi X.1) ∧ h' = X.2) 0 [some (vr 45), some (vi l1)] [] h := by
    refine e_aload_n dX9_found_0 rfl ?_
    refine e_iconst dX9_found_1 ⟨by decide, by decide⟩ ?_
    refine e_putI (t := 0) (kz := 0) rfl dX9_found_2 rfl fp_682 rfl rfl (Or.inl rfl) ?_
    refine e_iload_n dX9_found_5 rfl ?_
    refine e_i2l dX9_found_6 ?_
    refine e_lconst (a := 0) dX9_found_7 ⟨by decide, by decide, by decide⟩ ?_
    refine e_lconst (a := 1) dX9_found_8 ⟨by decide, by decide, by decide⟩ ?_
    obtain ⟨r9, e9, hf⟩ := bd_some hf
    refine e_callS3i dX9_found_9 rfl lk_799 ⟨rfl, rfl, Nat.le_of_ble_eq_true rfl, Nat.le_of_ble_eq_true rfl⟩ (Nat.le_of_ble_eq_true rfl) (q_X9_in (up h 45 0 0)   l1 0 1 e9) ?_
    refine e_if_ne (tgt := 18) dX9_found_12 (by decide) (fun c12 => ?_) (fun c12 => ?_)
    · replace hf := ifn hf c12
      refine e_aload_n dX9_found_18 rfl ?_
      obtain ⟨h19, e19, hf⟩ := bd_some hf
      refine e_callV0v dX9_found_19 rfl lk_997 ⟨rfl, rfl, Nat.le_of_ble_eq_true rfl, Nat.le_of_ble_eq_true rfl⟩ rfl rfl (Nat.le_of_ble_eq_true rfl) (q_X9_find (up h 45 0 0)    e19) ?_
      refine e_iload_n dX9_found_22 rfl ?_
      refine e_if_ne (tgt := 33) dX9_found_23 (by decide) (fun c23 => ?_) (fun c23 => ?_)
      · replace hf := ifn hf c23
        refine e_aload_n dX9_found_33 rfl ?_
        refine e_getI (kz := 30) rfl dX9_found_34 rfl fl_712 rfl rfl (Or.inl rfl) ?_
        obtain rfl := Option.some.inj hf
        exact e_ireturn dX9_found_37 rfl ⟨rfl, rfl⟩
      · replace hf := ifp hf c23
        refine e_aload_n dX9_found_26 rfl ?_
        refine e_getI (kz := 29) rfl dX9_found_27 rfl fl_711 rfl rfl (Or.inl rfl) ?_
        refine e_goto (tgt := 37) dX9_found_30 (by decide) ?_
        obtain rfl := Option.some.inj hf
        exact e_ireturn dX9_found_37 rfl ⟨rfl, rfl⟩
    · replace hf := ifp hf c12
      refine e_bipush dX9_found_15 ⟨by decide, by decide, by decide⟩ ?_
      obtain rfl := Option.some.inj hf
      exact e_ireturn dX9_found_17 rfl ⟨rfl, rfl⟩
  exact Cn_of rfl (fun _ => Nat.le_of_ble_eq_true rfl) ⟨rfl, rfl⟩ (e_pad 0 key)
abbrev m_X9_look : MI := (yX9_look, cX9_look, 6, some .int, { frames := 2, cells := 0, slots := 0, locals := 45 })
def p_X9_look_136 (K18 : Mem → Int → Int → Int → Option (Int × Mem)) (h : Mem)   (l1 l3 s0 : Int) : Option (Int × Mem) :=
  K18 h l1 s0 (wr (l3 + 1))
set_option maxRecDepth 20000 in
theorem q_X9_look_136 (K18 : Mem → Int → Int → Int → Option (Int × Mem)) (h : Mem)     (l1 l3 s0 : Int) {X : Int × Mem} (hK18 : ∀ (h : Mem) (l1 l2 l3 : Int), K18 h l1 l2 l3 = some X → E m_X9_look none (fun r h' => r = some (vi X.1) ∧ h' = X.2) 18 [some (vr 45), some (vi l1), some (vi l2), some (vi l3), none, none] [] h) (hf : p_X9_look_136 K18 h   l1 l3 s0 = some X) : E m_X9_look none (fun r h' => r = some (vi X.1) ∧ h' = X.2) 136 [some (vr 45), some (vi l1), none, some (vi l3), none, none] [vi s0] h := by
  unfold p_X9_look_136 at hf
  refine e_istore_n (ls' := [some (vr 45), some (vi l1), some (vi s0), some (vi l3), none, none]) dX9_look_136 (Nat.le_of_ble_eq_true rfl) rfl ?_
  refine e_iinc (ls' := [some (vr 45), some (vi l1), some (vi s0), some (vi (wr (l3 + 1))), none, none]) dX9_look_137 rfl (Nat.le_of_ble_eq_true rfl) rfl ?_
  refine e_goto (tgt := 18) dX9_look_140 (by decide) ?_
  exact e_mask [true, true, true, true, false, false] (hK18 h l1 s0 (wr (l3 + 1)) hf)
def p_X9_look_123 (K18 : Mem → Int → Int → Int → Option (Int × Mem)) (h : Mem)   (l2 l3 l5 s0 : Int) : Option (Int × Mem) :=
  if l2 ≤ l5 then (p_X9_look_136 K18 h   s0 l3 l2) else (p_X9_look_136 K18 h   s0 l3 l5)
set_option maxRecDepth 20000 in
theorem q_X9_look_123 (K18 : Mem → Int → Int → Int → Option (Int × Mem)) (h : Mem)     (l2 l3 l5 s0 : Int) {X : Int × Mem} (hK18 : ∀ (h : Mem) (l1 l2 l3 : Int), K18 h l1 l2 l3 = some X → E m_X9_look none (fun r h' => r = some (vi X.1) ∧ h' = X.2) 18 [some (vr 45), some (vi l1), some (vi l2), some (vi l3), none, none] [] h) (hf : p_X9_look_123 K18 h   l2 l3 l5 s0 = some X) : E m_X9_look none (fun r h' => r = some (vi X.1) ∧ h' = X.2) 123 [some (vr 45), none, some (vi l2), some (vi l3), none, some (vi l5)] [vi s0] h := by
  unfold p_X9_look_123 at hf
  refine e_istore_n (ls' := [some (vr 45), some (vi s0), some (vi l2), some (vi l3), none, some (vi l5)]) dX9_look_123 (Nat.le_of_ble_eq_true rfl) rfl ?_
  refine e_iload dX9_look_124 rfl ?_
  refine e_iload_n dX9_look_126 rfl ?_
  refine e_icmp_ge (tgt := 135) dX9_look_127 (by decide) (fun c127 => ?_) (fun c127 => ?_)
  · replace hf := ifp hf c127
    refine e_iload_n dX9_look_135 rfl ?_
    exact e_mask [true, true, false, true, false, false] (q_X9_look_136 K18 h     s0 l3 l2 hK18 hf)
  · replace hf := ifn hf c127
    refine e_iload dX9_look_130 rfl ?_
    refine e_goto (tgt := 136) dX9_look_132 (by decide) ?_
    exact e_mask [true, true, false, true, false, false] (q_X9_look_136 K18 h     s0 l3 l5 hK18 hf)
def p_X9_look_110 (K18 : Mem → Int → Int → Int → Option (Int × Mem)) (h : Mem)   (l1 l2 l3 s0 : Int) : Option (Int × Mem) :=
  if l2 ≤ s0 then (p_X9_look_123 K18 h   l2 l3 s0 l1) else (p_X9_look_123 K18 h   l2 l3 s0 l3)
set_option maxRecDepth 20000 in
theorem q_X9_look_110 (K18 : Mem → Int → Int → Int → Option (Int × Mem)) (h : Mem)     (l1 l2 l3 s0 : Int) {X : Int × Mem} (hK18 : ∀ (h : Mem) (l1 l2 l3 : Int), K18 h l1 l2 l3 = some X → E m_X9_look none (fun r h' => r = some (vi X.1) ∧ h' = X.2) 18 [some (vr 45), some (vi l1), some (vi l2), some (vi l3), none, none] [] h) (hf : p_X9_look_110 K18 h   l1 l2 l3 s0 = some X) : E m_X9_look none (fun r h' => r = some (vi X.1) ∧ h' = X.2) 110 [some (vr 45), some (vi l1), some (vi l2), some (vi l3), none, none] [vi s0] h := by
  unfold p_X9_look_110 at hf
  refine e_istore (ls' := [some (vr 45), some (vi l1), some (vi l2), some (vi l3), none, some (vi s0)]) dX9_look_110 (Nat.le_of_ble_eq_true rfl) rfl ?_
  refine e_iload dX9_look_112 rfl ?_
  refine e_iload_n dX9_look_114 rfl ?_
  refine e_icmp_ge (tgt := 122) dX9_look_115 (by decide) (fun c115 => ?_) (fun c115 => ?_)
  · replace hf := ifp hf c115
    refine e_iload_n dX9_look_122 rfl ?_
    exact e_mask [true, false, true, true, false, true] (q_X9_look_123 K18 h     l2 l3 s0 l1 hK18 hf)
  · replace hf := ifn hf c115
    refine e_iload_n dX9_look_118 rfl ?_
    refine e_goto (tgt := 123) dX9_look_119 (by decide) ?_
    exact e_mask [true, false, true, true, false, true] (q_X9_look_123 K18 h     l2 l3 s0 l3 hK18 hf)
def p_X9_look_86 (K18 : Mem → Int → Int → Int → Option (Int × Mem)) (h : Mem)   (l1 l2 l3 l4 : Int) : Option (Int × Mem) :=
  if l4 ≤ wr ((h 45 29) - l4) then (p_X9_look_110 K18 h   l1 l2 l3 (wr ((h 45 29) - l4))) else (p_X9_look_110 K18 h   l1 l2 l3 l4)
set_option maxRecDepth 20000 in
theorem q_X9_look_86 (K18 : Mem → Int → Int → Int → Option (Int × Mem)) (h : Mem)     (l1 l2 l3 l4 : Int) {X : Int × Mem} (hK18 : ∀ (h : Mem) (l1 l2 l3 : Int), K18 h l1 l2 l3 = some X → E m_X9_look none (fun r h' => r = some (vi X.1) ∧ h' = X.2) 18 [some (vr 45), some (vi l1), some (vi l2), some (vi l3), none, none] [] h) (hf : p_X9_look_86 K18 h   l1 l2 l3 l4 = some X) : E m_X9_look none (fun r h' => r = some (vi X.1) ∧ h' = X.2) 86 [some (vr 45), some (vi l1), some (vi l2), some (vi l3), some (vi l4), none] [] h := by
  unfold p_X9_look_86 at hf
  refine e_iload dX9_look_86 rfl ?_
  refine e_aload_n dX9_look_88 rfl ?_
  refine e_getI (kz := 29) rfl dX9_look_89 rfl fl_711 rfl rfl (Or.inl rfl) ?_
  refine e_iload dX9_look_92 rfl ?_
  refine e_isub dX9_look_94 ?_
  refine e_icmp_le (tgt := 103) dX9_look_95 (by decide) (fun c95 => ?_) (fun c95 => ?_)
  · replace hf := ifp hf c95
    refine e_aload_n dX9_look_103 rfl ?_
    refine e_getI (kz := 29) rfl dX9_look_104 rfl fl_711 rfl rfl (Or.inl rfl) ?_
    refine e_iload dX9_look_107 rfl ?_
    refine e_isub dX9_look_109 ?_
    exact e_mask [true, true, true, true, false, false] (q_X9_look_110 K18 h     l1 l2 l3 (wr ((h 45 29) - l4)) hK18 hf)
  · replace hf := ifn hf c95
    refine e_iload dX9_look_98 rfl ?_
    refine e_goto (tgt := 110) dX9_look_100 (by decide) ?_
    exact e_mask [true, true, true, true, false, false] (q_X9_look_110 K18 h     l1 l2 l3 l4 hK18 hf)
def p_X9_look_77 (K18 : Mem → Int → Int → Int → Option (Int × Mem)) (K37 : Mem → Int → Int → Int → Int → Int → Option (Int × Mem)) (h : Mem)   (l1 l2 l3 l5 s0 s1 : Int) : Option (Int × Mem) :=
  K37 h l1 l2 l3 (wr (s0 + s1)) (wr (l5 + 1))
set_option maxRecDepth 20000 in
theorem q_X9_look_77 (K18 : Mem → Int → Int → Int → Option (Int × Mem)) (K37 : Mem → Int → Int → Int → Int → Int → Option (Int × Mem)) (h : Mem)     (l1 l2 l3 l5 s0 s1 : Int) {X : Int × Mem} (hK18 : ∀ (h : Mem) (l1 l2 l3 : Int), K18 h l1 l2 l3 = some X → E m_X9_look none (fun r h' => r = some (vi X.1) ∧ h' = X.2) 18 [some (vr 45), some (vi l1), some (vi l2), some (vi l3), none, none] [] h) (hK37 : ∀ (h : Mem) (l1 l2 l3 l4 l5 : Int), K37 h l1 l2 l3 l4 l5 = some X → E m_X9_look none (fun r h' => r = some (vi X.1) ∧ h' = X.2) 37 [some (vr 45), some (vi l1), some (vi l2), some (vi l3), some (vi l4), some (vi l5)] [] h) (hf : p_X9_look_77 K18 K37 h   l1 l2 l3 l5 s0 s1 = some X) : E m_X9_look none (fun r h' => r = some (vi X.1) ∧ h' = X.2) 77 [some (vr 45), some (vi l1), some (vi l2), some (vi l3), none, some (vi l5)] [vi s1, vi s0] h := by
  unfold p_X9_look_77 at hf
  refine e_iadd dX9_look_77 ?_
  refine e_istore (ls' := [some (vr 45), some (vi l1), some (vi l2), some (vi l3), some (vi (wr (s0 + s1))), some (vi l5)]) dX9_look_78 (Nat.le_of_ble_eq_true rfl) rfl ?_
  refine e_iinc (ls' := [some (vr 45), some (vi l1), some (vi l2), some (vi l3), some (vi (wr (s0 + s1))), some (vi (wr (l5 + 1)))]) dX9_look_80 rfl (Nat.le_of_ble_eq_true rfl) rfl ?_
  refine e_goto (tgt := 37) dX9_look_83 (by decide) ?_
  exact e_mask [true, true, true, true, true, true] (hK37 h l1 l2 l3 (wr (s0 + s1)) (wr (l5 + 1)) hf)
def p_X9_look_76 (K18 : Mem → Int → Int → Int → Option (Int × Mem)) (K37 : Mem → Int → Int → Int → Int → Int → Option (Int × Mem)) (h : Mem)   (l1 l2 l3 l5 s0 : Int) : Option (Int × Mem) :=
  p_X9_look_77 K18 K37 h   l1 l2 l3 l5 s0 0
set_option maxRecDepth 20000 in
theorem q_X9_look_76 (K18 : Mem → Int → Int → Int → Option (Int × Mem)) (K37 : Mem → Int → Int → Int → Int → Int → Option (Int × Mem)) (h : Mem)     (l1 l2 l3 l5 s0 : Int) {X : Int × Mem} (hK18 : ∀ (h : Mem) (l1 l2 l3 : Int), K18 h l1 l2 l3 = some X → E m_X9_look none (fun r h' => r = some (vi X.1) ∧ h' = X.2) 18 [some (vr 45), some (vi l1), some (vi l2), some (vi l3), none, none] [] h) (hK37 : ∀ (h : Mem) (l1 l2 l3 l4 l5 : Int), K37 h l1 l2 l3 l4 l5 = some X → E m_X9_look none (fun r h' => r = some (vi X.1) ∧ h' = X.2) 37 [some (vr 45), some (vi l1), some (vi l2), some (vi l3), some (vi l4), some (vi l5)] [] h) (hf : p_X9_look_76 K18 K37 h   l1 l2 l3 l5 s0 = some X) : E m_X9_look none (fun r h' => r = some (vi X.1) ∧ h' = X.2) 76 [some (vr 45), some (vi l1), some (vi l2), some (vi l3), none, some (vi l5)] [vi s0] h := by
  unfold p_X9_look_76 at hf
  refine e_iconst dX9_look_76 ⟨by decide, by decide⟩ ?_
  exact e_mask [true, true, true, true, false, true] (q_X9_look_77 K18 K37 h     l1 l2 l3 l5 s0 0 hK18 hK37 hf)
def p_X9_look_37 (K18 : Mem → Int → Int → Int → Option (Int × Mem)) (K37 : Mem → Int → Int → Int → Int → Int → Option (Int × Mem)) (h : Mem)   (l1 l2 l3 l4 l5 : Int) : Option (Int × Mem) :=
  if 40 ≤ l5 then (p_X9_look_86 K18 h   l1 l2 l3 l4) else (gd (0 ≤ l5 ∧ l5 < 40) (if h 62 l5 = 0 then (p_X9_look_76 K18 K37 h   l1 l2 l3 l5 l4) else (bd (p_X9_isOver h l5 (qdiv l3 10) (qrem l3 10)) (fun r66 => if r66 = 0 then (p_X9_look_76 K18 K37 h   l1 l2 l3 l5 l4) else (p_X9_look_77 K18 K37 h   l1 l2 l3 l5 l4 1)))))
set_option maxRecDepth 20000 in
theorem q_X9_look_37 (K18 : Mem → Int → Int → Int → Option (Int × Mem)) (K37 : Mem → Int → Int → Int → Int → Int → Option (Int × Mem)) (h : Mem)     (l1 l2 l3 l4 l5 : Int) {X : Int × Mem} (hK18 : ∀ (h : Mem) (l1 l2 l3 : Int), K18 h l1 l2 l3 = some X → E m_X9_look none (fun r h' => r = some (vi X.1) ∧ h' = X.2) 18 [some (vr 45), some (vi l1), some (vi l2), some (vi l3), none, none] [] h) (hK37 : ∀ (h : Mem) (l1 l2 l3 l4 l5 : Int), K37 h l1 l2 l3 l4 l5 = some X → E m_X9_look none (fun r h' => r = some (vi X.1) ∧ h' = X.2) 37 [some (vr 45), some (vi l1), some (vi l2), some (vi l3), some (vi l4), some (vi l5)] [] h) (hf : p_X9_look_37 K18 K37 h   l1 l2 l3 l4 l5 = some X) : E m_X9_look none (fun r h' => r = some (vi X.1) ∧ h' = X.2) 37 [some (vr 45), some (vi l1), some (vi l2), some (vi l3), some (vi l4), some (vi l5)] [] h := by
  unfold p_X9_look_37 at hf
  refine e_iload dX9_look_37 rfl ?_
  refine e_bipush dX9_look_39 ⟨by decide, by decide, by decide⟩ ?_
  refine e_icmp_ge (tgt := 86) dX9_look_41 (by decide) (fun c41 => ?_) (fun c41 => ?_)
  · replace hf := ifp hf c41
    exact e_mask [true, true, true, true, true, false] (q_X9_look_86 K18 h     l1 l2 l3 l4 hK18 hf)
  · replace hf := ifn hf c41
    refine e_iload dX9_look_44 rfl ?_
    refine e_aload_n dX9_look_46 rfl ?_
    refine e_getR dX9_look_47 rfl fl_710 rfl rfl ?_
    refine e_iload dX9_look_50 rfl ?_
    obtain ⟨g52, hf⟩ := gd_some hf
    refine e_bald dX9_look_52 rfl g52 ?_
    refine e_if_eq (tgt := 76) dX9_look_53 (by decide) (fun c53 => ?_) (fun c53 => ?_)
    · replace hf := ifp hf c53
      exact e_mask [true, true, true, true, false, true] (q_X9_look_76 K18 K37 h     l1 l2 l3 l5 l4 hK18 hK37 hf)
    · replace hf := ifn hf c53
      refine e_iload dX9_look_56 rfl ?_
      refine e_iload_n dX9_look_58 rfl ?_
      refine e_bipush dX9_look_59 ⟨by decide, by decide, by decide⟩ ?_
      refine e_idiv dX9_look_61 (by decide) ?_
      refine e_iload_n dX9_look_62 rfl ?_
      refine e_bipush dX9_look_63 ⟨by decide, by decide, by decide⟩ ?_
      refine e_irem dX9_look_65 (by decide) ?_
      obtain ⟨r66, e66, hf⟩ := bd_some hf
      refine e_callS3i dX9_look_66 rfl lk_1001 ⟨rfl, rfl, Nat.le_of_ble_eq_true rfl, Nat.le_of_ble_eq_true rfl⟩ (Nat.le_of_ble_eq_true rfl) (q_X9_isOver h   l5 (qdiv l3 10) (qrem l3 10) e66) ?_
      refine e_if_eq (tgt := 76) dX9_look_69 (by decide) (fun c69 => ?_) (fun c69 => ?_)
      · replace hf := ifp hf c69
        exact e_mask [true, true, true, true, false, true] (q_X9_look_76 K18 K37 h     l1 l2 l3 l5 l4 hK18 hK37 hf)
      · replace hf := ifn hf c69
        refine e_iconst dX9_look_72 ⟨by decide, by decide⟩ ?_
        refine e_goto (tgt := 77) dX9_look_73 (by decide) ?_
        exact e_mask [true, true, true, true, false, true] (q_X9_look_77 K18 K37 h     l1 l2 l3 l5 l4 1 hK18 hK37 hf)
def p_X9_look_L37 (K18 : Mem → Int → Int → Int → Option (Int × Mem))    : Nat → Mem → Int → Int → Int → Int → Int → Option (Int × Mem)
  | 0, _, _, _, _, _, _ => none
  | n + 1, h, l1, l2, l3, l4, l5 => p_X9_look_37 K18 (fun (h : Mem) (l1 l2 l3 l4 l5 : Int) => p_X9_look_L37 K18    n h l1 l2 l3 l4 l5) h   l1 l2 l3 l4 l5
theorem q_X9_look_L37 (K18 : Mem → Int → Int → Int → Option (Int × Mem))      {X : Int × Mem} (hK18 : ∀ (h : Mem) (l1 l2 l3 : Int), K18 h l1 l2 l3 = some X → E m_X9_look none (fun r h' => r = some (vi X.1) ∧ h' = X.2) 18 [some (vr 45), some (vi l1), some (vi l2), some (vi l3), none, none] [] h) : ∀ (n : Nat) (h : Mem) (l1 l2 l3 l4 l5 : Int), p_X9_look_L37 K18    n h l1 l2 l3 l4 l5 = some X → E m_X9_look none (fun r h' => r = some (vi X.1) ∧ h' = X.2) 37 [some (vr 45), some (vi l1), some (vi l2), some (vi l3), some (vi l4), some (vi l5)] [] h := by
  intro n
  induction n with
  | zero => intro h l1 l2 l3 l4 l5 hf; have hf2 : (none : Option (Int × Mem)) = some X := hf; cases hf2
  | succ n ih => intro h l1 l2 l3 l4 l5 hf; exact q_X9_look_37 K18 (fun (h : Mem) (l1 l2 l3 l4 l5 : Int) => p_X9_look_L37 K18    n h l1 l2 l3 l4 l5) h     l1 l2 l3 l4 l5 hK18 (fun h l1 l2 l3 l4 l5 hf => ih h l1 l2 l3 l4 l5 hf) hf
def p_X9_look_18 (K18 : Mem → Int → Int → Int → Option (Int × Mem)) (h : Mem)   (l1 l2 l3 : Int) : Option (Int × Mem) :=
  if 100 ≤ l3 then (some (l1, h)) else (if h 45 29 ≤ 0 then (some (l1, h)) else (p_X9_look_L37 K18    300 h l1 l2 l3 0 0))
set_option maxRecDepth 20000 in
theorem q_X9_look_18 (K18 : Mem → Int → Int → Int → Option (Int × Mem)) (h : Mem)     (l1 l2 l3 : Int) {X : Int × Mem} (hK18 : ∀ (h : Mem) (l1 l2 l3 : Int), K18 h l1 l2 l3 = some X → E m_X9_look none (fun r h' => r = some (vi X.1) ∧ h' = X.2) 18 [some (vr 45), some (vi l1), some (vi l2), some (vi l3), none, none] [] h) (hf : p_X9_look_18 K18 h   l1 l2 l3 = some X) : E m_X9_look none (fun r h' => r = some (vi X.1) ∧ h' = X.2) 18 [some (vr 45), some (vi l1), some (vi l2), some (vi l3), none, none] [] h := by
  unfold p_X9_look_18 at hf
  refine e_iload_n dX9_look_18 rfl ?_
  refine e_bipush dX9_look_19 ⟨by decide, by decide, by decide⟩ ?_
  refine e_icmp_ge (tgt := 143) dX9_look_21 (by decide) (fun c21 => ?_) (fun c21 => ?_)
  · replace hf := ifp hf c21
    refine e_iload_n dX9_look_143 rfl ?_
    obtain rfl := Option.some.inj hf
    exact e_ireturn dX9_look_144 rfl ⟨rfl, rfl⟩
  · replace hf := ifn hf c21
    refine e_aload_n dX9_look_24 rfl ?_
    refine e_getI (kz := 29) rfl dX9_look_25 rfl fl_711 rfl rfl (Or.inl rfl) ?_
    refine e_if_le (tgt := 143) dX9_look_28 (by decide) (fun c28 => ?_) (fun c28 => ?_)
    · replace hf := ifp hf c28
      refine e_iload_n dX9_look_143 rfl ?_
      obtain rfl := Option.some.inj hf
      exact e_ireturn dX9_look_144 rfl ⟨rfl, rfl⟩
    · replace hf := ifn hf c28
      refine e_iconst dX9_look_31 ⟨by decide, by decide⟩ ?_
      refine e_istore (ls' := [some (vr 45), some (vi l1), some (vi l2), some (vi l3), some (vi 0), none]) dX9_look_32 (Nat.le_of_ble_eq_true rfl) rfl ?_
      refine e_iconst dX9_look_34 ⟨by decide, by decide⟩ ?_
      refine e_istore (ls' := [some (vr 45), some (vi l1), some (vi l2), some (vi l3), some (vi 0), some (vi 0)]) dX9_look_35 (Nat.le_of_ble_eq_true rfl) rfl ?_
      exact e_mask [true, true, true, true, true, true] (q_X9_look_L37 K18      hK18 300 h l1 l2 l3 0 0 hf)
def p_X9_look_L18     : Nat → Mem → Int → Int → Int → Option (Int × Mem)
  | 0, _, _, _, _ => none
  | n + 1, h, l1, l2, l3 => p_X9_look_18 (fun (h : Mem) (l1 l2 l3 : Int) => p_X9_look_L18     n h l1 l2 l3) h   l1 l2 l3
theorem q_X9_look_L18       {X : Int × Mem}  : ∀ (n : Nat) (h : Mem) (l1 l2 l3 : Int), p_X9_look_L18     n h l1 l2 l3 = some X → E m_X9_look none (fun r h' => r = some (vi X.1) ∧ h' = X.2) 18 [some (vr 45), some (vi l1), some (vi l2), some (vi l3), none, none] [] h := by
  intro n
  induction n with
  | zero => intro h l1 l2 l3 hf; have hf2 : (none : Option (Int × Mem)) = some X := hf; cases hf2
  | succ n ih => intro h l1 l2 l3 hf; exact q_X9_look_18 (fun (h : Mem) (l1 l2 l3 : Int) => p_X9_look_L18     n h l1 l2 l3) h     l1 l2 l3 (fun h l1 l2 l3 hf => ih h l1 l2 l3 hf) hf
def p_X9_look (h : Mem)   : Option (Int × Mem) :=
  bd (p_X9_find (up h 45 0 0) ) (fun h6 => p_X9_look_L18     300 h6 (-9) 9999 0)
set_option maxRecDepth 20000 in
theorem q_X9_look (h : Mem)    {X : Int × Mem} (hf : p_X9_look h   = some X) : Cn m_X9_look [vr 45] h (fun r h' => r = some (vi X.1) ∧ h' = X.2) := by
  unfold p_X9_look at hf
  have key : E m_X9_look none (fun r h' => r = some (vi X.1) ∧ h' = X.2) 0 [some (vr 45), none, none, none, none, none] [] h := by
    refine e_aload_n dX9_look_0 rfl ?_
    refine e_iconst dX9_look_1 ⟨by decide, by decide⟩ ?_
    refine e_putI (t := 0) (kz := 0) rfl dX9_look_2 rfl fp_682 rfl rfl (Or.inl rfl) ?_
    refine e_aload_n dX9_look_5 rfl ?_
    obtain ⟨h6, e6, hf⟩ := bd_some hf
    refine e_callV0v dX9_look_6 rfl lk_997 ⟨rfl, rfl, Nat.le_of_ble_eq_true rfl, Nat.le_of_ble_eq_true rfl⟩ rfl rfl (Nat.le_of_ble_eq_true rfl) (q_X9_find (up h 45 0 0)    e6) ?_
    refine e_bipush dX9_look_9 ⟨by decide, by decide, by decide⟩ ?_
    refine e_istore_n (ls' := [some (vr 45), some (vi (-9)), none, none, none, none]) dX9_look_11 (Nat.le_of_ble_eq_true rfl) rfl ?_
    refine e_sipush dX9_look_12 ⟨by decide, by decide, by decide⟩ ?_
    refine e_istore_n (ls' := [some (vr 45), some (vi (-9)), some (vi 9999), none, none, none]) dX9_look_15 (Nat.le_of_ble_eq_true rfl) rfl ?_
    refine e_iconst dX9_look_16 ⟨by decide, by decide⟩ ?_
    refine e_istore_n (ls' := [some (vr 45), some (vi (-9)), some (vi 9999), some (vi 0), none, none]) dX9_look_17 (Nat.le_of_ble_eq_true rfl) rfl ?_
    exact e_mask [true, true, true, true, false, false] (q_X9_look_L18        300 h6 (-9) 9999 0 hf)
  exact Cn_of rfl (fun _ => Nat.le_of_ble_eq_true rfl) ⟨rfl, rfl⟩ (e_pad 5 key)
abbrev m_X9_chance : MI := (yX9_chance, cX9_chance, 10, some .int, { frames := 4, cells := 0, slots := 0, locals := 100 })
def p_X9_chance_155  (h : Mem)   (l4 l5 l6 : Int) : Option (Int × Mem) :=
  bd (p_X9_fraction h (wr (l6 - l5)) l6 l4) (fun r164 => some (r164, h))
set_option maxRecDepth 20000 in
theorem q_X9_chance_155  (h : Mem)     (l4 l5 l6 : Int) {X : Int × Mem}  (hf : p_X9_chance_155  h   l4 l5 l6 = some X) : E m_X9_chance none (fun r h' => r = some (vi X.1) ∧ h' = X.2) 155 [some (vr 45), none, none, none, some (vi l4), some (vi l5), some (vi l6), none, none, none] [] h := by
  unfold p_X9_chance_155 at hf
  refine e_iload dX9_chance_155 rfl ?_
  refine e_iload dX9_chance_157 rfl ?_
  refine e_isub dX9_chance_159 ?_
  refine e_iload dX9_chance_160 rfl ?_
  refine e_iload dX9_chance_162 rfl ?_
  obtain ⟨r164, e164, hf⟩ := bd_some hf
  refine e_callS3i dX9_chance_164 rfl lk_959 ⟨rfl, rfl, Nat.le_of_ble_eq_true rfl, Nat.le_of_ble_eq_true rfl⟩ (Nat.le_of_ble_eq_true rfl) (q_X9_fraction h   (wr (l6 - l5)) l6 l4 e164) ?_
  obtain rfl := Option.some.inj hf
  exact e_ireturn dX9_chance_167 rfl ⟨rfl, rfl⟩
def p_X9_chance_139 (K57 : Mem → Int → Int → Int → Int → Int → Int → Int → Option (Int × Mem)) (h : Mem)   (l1 l2 l3 l4 l6 l7 s0 s1 : Int) : Option (Int × Mem) :=
  K57 h l1 l2 l3 l4 (wr (s0 * s1)) (wr (l6 * 10)) (wr (l7 + 1))
set_option maxRecDepth 20000 in
theorem q_X9_chance_139 (K57 : Mem → Int → Int → Int → Int → Int → Int → Int → Option (Int × Mem)) (h : Mem)     (l1 l2 l3 l4 l6 l7 s0 s1 : Int) {X : Int × Mem} (hK57 : ∀ (h : Mem) (l1 l2 l3 l4 l5 l6 l7 : Int), K57 h l1 l2 l3 l4 l5 l6 l7 = some X → E m_X9_chance none (fun r h' => r = some (vi X.1) ∧ h' = X.2) 57 [some (vr 45), some (vi l1), some (vi l2), some (vi l3), some (vi l4), some (vi l5), some (vi l6), some (vi l7), none, none] [] h) (hf : p_X9_chance_139 K57 h   l1 l2 l3 l4 l6 l7 s0 s1 = some X) : E m_X9_chance none (fun r h' => r = some (vi X.1) ∧ h' = X.2) 139 [some (vr 45), some (vi l1), some (vi l2), some (vi l3), some (vi l4), none, some (vi l6), some (vi l7), none, none] [vi s1, vi s0] h := by
  unfold p_X9_chance_139 at hf
  refine e_imul dX9_chance_139 ?_
  refine e_istore (ls' := [some (vr 45), some (vi l1), some (vi l2), some (vi l3), some (vi l4), some (vi (wr (s0 * s1))), some (vi l6), some (vi l7), none, none]) dX9_chance_140 (Nat.le_of_ble_eq_true rfl) rfl ?_
  refine e_iload dX9_chance_142 rfl ?_
  refine e_bipush dX9_chance_144 ⟨by decide, by decide, by decide⟩ ?_
  refine e_imul dX9_chance_146 ?_
  refine e_istore (ls' := [some (vr 45), some (vi l1), some (vi l2), some (vi l3), some (vi l4), some (vi (wr (s0 * s1))), some (vi (wr (l6 * 10))), some (vi l7), none, none]) dX9_chance_147 (Nat.le_of_ble_eq_true rfl) rfl ?_
  refine e_iinc (ls' := [some (vr 45), some (vi l1), some (vi l2), some (vi l3), some (vi l4), some (vi (wr (s0 * s1))), some (vi (wr (l6 * 10))), some (vi (wr (l7 + 1))), none, none]) dX9_chance_149 rfl (Nat.le_of_ble_eq_true rfl) rfl ?_
  refine e_goto (tgt := 57) dX9_chance_152 (by decide) ?_
  exact e_mask [true, true, true, true, true, true, true, true, false, false] (hK57 h l1 l2 l3 l4 (wr (s0 * s1)) (wr (l6 * 10)) (wr (l7 + 1)) hf)
def p_X9_chance_124 (K57 : Mem → Int → Int → Int → Int → Int → Int → Int → Option (Int × Mem)) (h : Mem)   (l1 l2 l3 l4 l5 l6 l7 s0 : Int) : Option (Int × Mem) :=
  if s0 = 0 then (p_X9_chance_139 K57 h   l1 l2 l3 l4 l6 l7 l5 10) else (p_X9_chance_139 K57 h   l1 l2 l3 l4 l6 l7 l5 l3)
set_option maxRecDepth 20000 in
theorem q_X9_chance_124 (K57 : Mem → Int → Int → Int → Int → Int → Int → Int → Option (Int × Mem)) (h : Mem)     (l1 l2 l3 l4 l5 l6 l7 s0 : Int) {X : Int × Mem} (hK57 : ∀ (h : Mem) (l1 l2 l3 l4 l5 l6 l7 : Int), K57 h l1 l2 l3 l4 l5 l6 l7 = some X → E m_X9_chance none (fun r h' => r = some (vi X.1) ∧ h' = X.2) 57 [some (vr 45), some (vi l1), some (vi l2), some (vi l3), some (vi l4), some (vi l5), some (vi l6), some (vi l7), none, none] [] h) (hf : p_X9_chance_124 K57 h   l1 l2 l3 l4 l5 l6 l7 s0 = some X) : E m_X9_chance none (fun r h' => r = some (vi X.1) ∧ h' = X.2) 124 [some (vr 45), some (vi l1), some (vi l2), some (vi l3), some (vi l4), some (vi l5), some (vi l6), some (vi l7), none, none] [vi s0] h := by
  unfold p_X9_chance_124 at hf
  refine e_istore (ls' := [some (vr 45), some (vi l1), some (vi l2), some (vi l3), some (vi l4), some (vi l5), some (vi l6), some (vi l7), none, some (vi s0)]) dX9_chance_124 (Nat.le_of_ble_eq_true rfl) rfl ?_
  refine e_iload dX9_chance_126 rfl ?_
  refine e_iload dX9_chance_128 rfl ?_
  refine e_if_eq (tgt := 137) dX9_chance_130 (by decide) (fun c130 => ?_) (fun c130 => ?_)
  · replace hf := ifp hf c130
    refine e_bipush dX9_chance_137 ⟨by decide, by decide, by decide⟩ ?_
    exact e_mask [true, true, true, true, true, false, true, true, false, false] (q_X9_chance_139 K57 h     l1 l2 l3 l4 l6 l7 l5 10 hK57 hf)
  · replace hf := ifn hf c130
    refine e_iload_n dX9_chance_133 rfl ?_
    refine e_goto (tgt := 139) dX9_chance_134 (by decide) ?_
    exact e_mask [true, true, true, true, true, false, true, true, false, false] (q_X9_chance_139 K57 h     l1 l2 l3 l4 l6 l7 l5 l3 hK57 hf)
def p_X9_chance_123 (K57 : Mem → Int → Int → Int → Int → Int → Int → Int → Option (Int × Mem)) (h : Mem)   (l1 l2 l3 l4 l5 l6 l7 : Int) : Option (Int × Mem) :=
  p_X9_chance_124 K57 h   l1 l2 l3 l4 l5 l6 l7 0
set_option maxRecDepth 20000 in
theorem q_X9_chance_123 (K57 : Mem → Int → Int → Int → Int → Int → Int → Int → Option (Int × Mem)) (h : Mem)     (l1 l2 l3 l4 l5 l6 l7 : Int) {X : Int × Mem} (hK57 : ∀ (h : Mem) (l1 l2 l3 l4 l5 l6 l7 : Int), K57 h l1 l2 l3 l4 l5 l6 l7 = some X → E m_X9_chance none (fun r h' => r = some (vi X.1) ∧ h' = X.2) 57 [some (vr 45), some (vi l1), some (vi l2), some (vi l3), some (vi l4), some (vi l5), some (vi l6), some (vi l7), none, none] [] h) (hf : p_X9_chance_123 K57 h   l1 l2 l3 l4 l5 l6 l7 = some X) : E m_X9_chance none (fun r h' => r = some (vi X.1) ∧ h' = X.2) 123 [some (vr 45), some (vi l1), some (vi l2), some (vi l3), some (vi l4), some (vi l5), some (vi l6), some (vi l7), none, none] [] h := by
  unfold p_X9_chance_123 at hf
  refine e_iconst dX9_chance_123 ⟨by decide, by decide⟩ ?_
  exact e_mask [true, true, true, true, true, true, true, true, false, false] (q_X9_chance_124 K57 h     l1 l2 l3 l4 l5 l6 l7 0 hK57 hf)
def p_X9_chance_57 (K57 : Mem → Int → Int → Int → Int → Int → Int → Int → Option (Int × Mem)) (h : Mem)   (l1 l2 l3 l4 l5 l6 l7 : Int) : Option (Int × Mem) :=
  if wr ((h 53 16) + l2) ≤ l7 then (p_X9_chance_155  h   l4 l5 l6) else (bd (p_X9_all h ) (fun r77 => bd (p_X9_holder h 53 r77 l1 l7 (h 45 4)) (fun r87 => if r87 = (-9) then (p_X9_chance_123 K57 h   l1 l2 l3 l4 l5 l6 l7) else (bd (p_X9_all h ) (fun r102 => bd (p_X9_pays h l1 r102 (h 53 5) r87) (fun r113 => if r113 ≤ 0 then (p_X9_chance_123 K57 h   l1 l2 l3 l4 l5 l6 l7) else (p_X9_chance_124 K57 h   l1 l2 l3 l4 l5 l6 l7 1)))))))
set_option maxRecDepth 20000 in
theorem q_X9_chance_57 (K57 : Mem → Int → Int → Int → Int → Int → Int → Int → Option (Int × Mem)) (h : Mem)     (l1 l2 l3 l4 l5 l6 l7 : Int) {X : Int × Mem} (hK57 : ∀ (h : Mem) (l1 l2 l3 l4 l5 l6 l7 : Int), K57 h l1 l2 l3 l4 l5 l6 l7 = some X → E m_X9_chance none (fun r h' => r = some (vi X.1) ∧ h' = X.2) 57 [some (vr 45), some (vi l1), some (vi l2), some (vi l3), some (vi l4), some (vi l5), some (vi l6), some (vi l7), none, none] [] h) (hf : p_X9_chance_57 K57 h   l1 l2 l3 l4 l5 l6 l7 = some X) : E m_X9_chance none (fun r h' => r = some (vi X.1) ∧ h' = X.2) 57 [some (vr 45), some (vi l1), some (vi l2), some (vi l3), some (vi l4), some (vi l5), some (vi l6), some (vi l7), none, none] [] h := by
  unfold p_X9_chance_57 at hf
  refine e_iload dX9_chance_57 rfl ?_
  refine e_aload_n dX9_chance_59 rfl ?_
  refine e_getR dX9_chance_60 rfl fl_698 rfl rfl ?_
  refine e_bipush dX9_chance_63 ⟨by decide, by decide, by decide⟩ ?_
  refine e_iald dX9_chance_65 rfl (by decide) ?_
  refine e_iload_n dX9_chance_66 rfl ?_
  refine e_iadd dX9_chance_67 ?_
  refine e_icmp_ge (tgt := 155) dX9_chance_68 (by decide) (fun c68 => ?_) (fun c68 => ?_)
  · replace hf := ifp hf c68
    exact e_mask [true, false, false, false, true, true, true, false, false, false] (q_X9_chance_155  h     l4 l5 l6  hf)
  · replace hf := ifn hf c68
    refine e_aload_n dX9_chance_71 rfl ?_
    refine e_aload_n dX9_chance_72 rfl ?_
    refine e_getR dX9_chance_73 rfl fl_698 rfl rfl ?_
    refine e_aload_n dX9_chance_76 rfl ?_
    obtain ⟨r77, e77, hf⟩ := bd_some hf
    refine e_callV0i dX9_chance_77 rfl lk_842 ⟨rfl, rfl, Nat.le_of_ble_eq_true rfl, Nat.le_of_ble_eq_true rfl⟩ rfl rfl (Nat.le_of_ble_eq_true rfl) (q_X9_all h    e77) ?_
    refine e_iload_n dX9_chance_80 rfl ?_
    refine e_iload dX9_chance_81 rfl ?_
    refine e_aload_n dX9_chance_83 rfl ?_
    refine e_getI (kz := 4) rfl dX9_chance_84 rfl fl_686 rfl rfl (Or.inl rfl) ?_
    obtain ⟨r87, e87, hf⟩ := bd_some hf
    refine e_callV5i dX9_chance_87 rfl lk_868 ⟨rfl, rfl, Nat.le_of_ble_eq_true rfl, Nat.le_of_ble_eq_true rfl⟩ rfl rfl (Nat.le_of_ble_eq_true rfl) (q_X9_holder h 53 rfl r77 l1 l7 (h 45 4) e87) ?_
    refine e_istore (ls' := [some (vr 45), some (vi l1), some (vi l2), some (vi l3), some (vi l4), some (vi l5), some (vi l6), some (vi l7), some (vi r87), none]) dX9_chance_90 (Nat.le_of_ble_eq_true rfl) rfl ?_
    refine e_iload dX9_chance_92 rfl ?_
    refine e_bipush dX9_chance_94 ⟨by decide, by decide, by decide⟩ ?_
    refine e_icmp_eq (tgt := 123) dX9_chance_96 (by decide) (fun c96 => ?_) (fun c96 => ?_)
    · replace hf := ifp hf c96
      exact e_mask [true, true, true, true, true, true, true, true, false, false] (q_X9_chance_123 K57 h     l1 l2 l3 l4 l5 l6 l7 hK57 hf)
    · replace hf := ifn hf c96
      refine e_aload_n dX9_chance_99 rfl ?_
      refine e_iload_n dX9_chance_100 rfl ?_
      refine e_aload_n dX9_chance_101 rfl ?_
      obtain ⟨r102, e102, hf⟩ := bd_some hf
      refine e_callV0i dX9_chance_102 rfl lk_842 ⟨rfl, rfl, Nat.le_of_ble_eq_true rfl, Nat.le_of_ble_eq_true rfl⟩ rfl rfl (Nat.le_of_ble_eq_true rfl) (q_X9_all h    e102) ?_
      refine e_aload_n dX9_chance_105 rfl ?_
      refine e_getR dX9_chance_106 rfl fl_698 rfl rfl ?_
      refine e_iconst dX9_chance_109 ⟨by decide, by decide⟩ ?_
      refine e_iald dX9_chance_110 rfl (by decide) ?_
      refine e_iload dX9_chance_111 rfl ?_
      obtain ⟨r113, e113, hf⟩ := bd_some hf
      refine e_callV4i dX9_chance_113 rfl lk_884 ⟨rfl, rfl, Nat.le_of_ble_eq_true rfl, Nat.le_of_ble_eq_true rfl⟩ rfl rfl (Nat.le_of_ble_eq_true rfl) (q_X9_pays h   l1 r102 (h 53 5) r87 e113) ?_
      refine e_if_le (tgt := 123) dX9_chance_116 (by decide) (fun c116 => ?_) (fun c116 => ?_)
      · replace hf := ifp hf c116
        exact e_mask [true, true, true, true, true, true, true, true, false, false] (q_X9_chance_123 K57 h     l1 l2 l3 l4 l5 l6 l7 hK57 hf)
      · replace hf := ifn hf c116
        refine e_iconst dX9_chance_119 ⟨by decide, by decide⟩ ?_
        refine e_goto (tgt := 124) dX9_chance_120 (by decide) ?_
        exact e_mask [true, true, true, true, true, true, true, true, false, false] (q_X9_chance_124 K57 h     l1 l2 l3 l4 l5 l6 l7 1 hK57 hf)
def p_X9_chance_L57     : Nat → Mem → Int → Int → Int → Int → Int → Int → Int → Option (Int × Mem)
  | 0, _, _, _, _, _, _, _, _ => none
  | n + 1, h, l1, l2, l3, l4, l5, l6, l7 => p_X9_chance_57 (fun (h : Mem) (l1 l2 l3 l4 l5 l6 l7 : Int) => p_X9_chance_L57     n h l1 l2 l3 l4 l5 l6 l7) h   l1 l2 l3 l4 l5 l6 l7
theorem q_X9_chance_L57       {X : Int × Mem}  : ∀ (n : Nat) (h : Mem) (l1 l2 l3 l4 l5 l6 l7 : Int), p_X9_chance_L57     n h l1 l2 l3 l4 l5 l6 l7 = some X → E m_X9_chance none (fun r h' => r = some (vi X.1) ∧ h' = X.2) 57 [some (vr 45), some (vi l1), some (vi l2), some (vi l3), some (vi l4), some (vi l5), some (vi l6), some (vi l7), none, none] [] h := by
  intro n
  induction n with
  | zero => intro h l1 l2 l3 l4 l5 l6 l7 hf; have hf2 : (none : Option (Int × Mem)) = some X := hf; cases hf2
  | succ n ih => intro h l1 l2 l3 l4 l5 l6 l7 hf; exact q_X9_chance_57 (fun (h : Mem) (l1 l2 l3 l4 l5 l6 l7 : Int) => p_X9_chance_L57     n h l1 l2 l3 l4 l5 l6 l7) h     l1 l2 l3 l4 l5 l6 l7 (fun h l1 l2 l3 l4 l5 l6 l7 hf => ih h l1 l2 l3 l4 l5 l6 l7 hf) hf
def p_X9_chance (h : Mem)  (l1 l2 l3 l4 : Int) : Option (Int × Mem) :=
  bd (p_X9_noStar (up h 45 0 0) l1) (fun r7 => if r7 = 0 then (bd (p_X9_in (up h 45 0 0) l2 1 6) (fun r21 => if r21 = 0 then (some ((-2), (up h 45 0 0))) else (bd (p_X9_in (up h 45 0 0) l3 0 10) (fun r33 => if r33 = 0 then (some ((-2), (up h 45 0 0))) else (p_X9_chance_L57     300 (up h 45 0 0) l1 l2 l3 l4 1 1 ((up h 45 0 0) 53 16)))))) else (some ((-1), (up h 45 0 0))))
set_option maxRecDepth 20000 in
theorem q_X9_chance (h : Mem)   (l1 l2 l3 l4 : Int) {X : Int × Mem} (hf : p_X9_chance h  l1 l2 l3 l4 = some X) : Cn m_X9_chance [vr 45, vi l1, vi l2, vi l3, vi l4] h (fun r h' => r = some (vi X.1) ∧ h' = X.2) := by
  unfold p_X9_chance at hf
  have key : E m_X9_chance none (fun r h' => r = some (vi X.1) ∧ h' = X.2) 0 [some (vr 45), some (vi l1), some (vi l2), some (vi l3), some (vi l4), none, none, none, none, none] [] h := by
    refine e_aload_n dX9_chance_0 rfl ?_
    refine e_iconst dX9_chance_1 ⟨by decide, by decide⟩ ?_
    refine e_putI (t := 0) (kz := 0) rfl dX9_chance_2 rfl fp_682 rfl rfl (Or.inl rfl) ?_
    refine e_aload_n dX9_chance_5 rfl ?_
    refine e_iload_n dX9_chance_6 rfl ?_
    obtain ⟨r7, e7, hf⟩ := bd_some hf
    refine e_callV1i dX9_chance_7 rfl lk_880 ⟨rfl, rfl, Nat.le_of_ble_eq_true rfl, Nat.le_of_ble_eq_true rfl⟩ rfl rfl (Nat.le_of_ble_eq_true rfl) (q_X9_noStar (up h 45 0 0)   l1 e7) ?_
    refine e_if_eq (tgt := 15) dX9_chance_10 (by decide) (fun c10 => ?_) (fun c10 => ?_)
    · replace hf := ifp hf c10
      refine e_iload_n dX9_chance_15 rfl ?_
      refine e_i2l dX9_chance_16 ?_
      refine e_lconst (a := 1) dX9_chance_17 ⟨by decide, by decide, by decide⟩ ?_
      refine e_ldc2 (a := 6) dX9_chance_18 rfl tw_1012 ⟨by decide, by decide⟩ ?_
      obtain ⟨r21, e21, hf⟩ := bd_some hf
      refine e_callS3i dX9_chance_21 rfl lk_799 ⟨rfl, rfl, Nat.le_of_ble_eq_true rfl, Nat.le_of_ble_eq_true rfl⟩ (Nat.le_of_ble_eq_true rfl) (q_X9_in (up h 45 0 0)   l2 1 6 e21) ?_
      refine e_if_eq (tgt := 39) dX9_chance_24 (by decide) (fun c24 => ?_) (fun c24 => ?_)
      · replace hf := ifp hf c24
        refine e_bipush dX9_chance_39 ⟨by decide, by decide, by decide⟩ ?_
        obtain rfl := Option.some.inj hf
        exact e_ireturn dX9_chance_41 rfl ⟨rfl, rfl⟩
      · replace hf := ifn hf c24
        refine e_iload_n dX9_chance_27 rfl ?_
        refine e_i2l dX9_chance_28 ?_
        refine e_lconst (a := 0) dX9_chance_29 ⟨by decide, by decide, by decide⟩ ?_
        refine e_ldc2 (a := 10) dX9_chance_30 rfl tw_936 ⟨by decide, by decide⟩ ?_
        obtain ⟨r33, e33, hf⟩ := bd_some hf
        refine e_callS3i dX9_chance_33 rfl lk_799 ⟨rfl, rfl, Nat.le_of_ble_eq_true rfl, Nat.le_of_ble_eq_true rfl⟩ (Nat.le_of_ble_eq_true rfl) (q_X9_in (up h 45 0 0)   l3 0 10 e33) ?_
        refine e_if_ne (tgt := 42) dX9_chance_36 (by decide) (fun c36 => ?_) (fun c36 => ?_)
        · replace hf := ifn hf c36
          refine e_iconst dX9_chance_42 ⟨by decide, by decide⟩ ?_
          refine e_istore (ls' := [some (vr 45), some (vi l1), some (vi l2), some (vi l3), some (vi l4), some (vi 1), none, none, none, none]) dX9_chance_43 (Nat.le_of_ble_eq_true rfl) rfl ?_
          refine e_iconst dX9_chance_45 ⟨by decide, by decide⟩ ?_
          refine e_istore (ls' := [some (vr 45), some (vi l1), some (vi l2), some (vi l3), some (vi l4), some (vi 1), some (vi 1), none, none, none]) dX9_chance_46 (Nat.le_of_ble_eq_true rfl) rfl ?_
          refine e_aload_n dX9_chance_48 rfl ?_
          refine e_getR dX9_chance_49 rfl fl_698 rfl rfl ?_
          refine e_bipush dX9_chance_52 ⟨by decide, by decide, by decide⟩ ?_
          refine e_iald dX9_chance_54 rfl (by decide) ?_
          refine e_istore (ls' := [some (vr 45), some (vi l1), some (vi l2), some (vi l3), some (vi l4), some (vi 1), some (vi 1), some (vi ((up h 45 0 0) 53 16)), none, none]) dX9_chance_55 (Nat.le_of_ble_eq_true rfl) rfl ?_
          exact e_mask [true, true, true, true, true, true, true, true, false, false] (q_X9_chance_L57        300 (up h 45 0 0) l1 l2 l3 l4 1 1 ((up h 45 0 0) 53 16) hf)
        · replace hf := ifp hf c36
          refine e_bipush dX9_chance_39 ⟨by decide, by decide, by decide⟩ ?_
          obtain rfl := Option.some.inj hf
          exact e_ireturn dX9_chance_41 rfl ⟨rfl, rfl⟩
    · replace hf := ifn hf c10
      refine e_iconst dX9_chance_13 ⟨by decide, by decide⟩ ?_
      obtain rfl := Option.some.inj hf
      exact e_ireturn dX9_chance_14 rfl ⟨rfl, rfl⟩
  exact Cn_of rfl (fun _ => Nat.le_of_ble_eq_true rfl) ⟨rfl, rfl⟩ (e_pad 5 key)
abbrev m_X9_seed : MI := (yX9_seed, cX9_seed, 5, some .long, { frames := 0, cells := 0, slots := 0, locals := 0 })
def p_X9_seed (h : Mem)  (l1 : Int) : Option (Int × Mem) :=
  some ((up h 45 0 0) 45 26, (up (up h 45 0 0) 45 26 l1))
set_option maxRecDepth 20000 in
theorem q_X9_seed (h : Mem)   (l1 : Int) {X : Int × Mem} (hf : p_X9_seed h  l1 = some X) : Cn m_X9_seed [vr 45, vl l1] h (fun r h' => r = some (vl X.1) ∧ h' = X.2) := by
  unfold p_X9_seed at hf
  have key : E m_X9_seed none (fun r h' => r = some (vl X.1) ∧ h' = X.2) 0 [some (vr 45), some (vl l1), none, none, none] [] h := by
    refine e_aload_n dX9_seed_0 rfl ?_
    refine e_iconst dX9_seed_1 ⟨by decide, by decide⟩ ?_
    refine e_putI (t := 0) (kz := 0) rfl dX9_seed_2 rfl fp_682 rfl rfl (Or.inl rfl) ?_
    refine e_aload_n dX9_seed_5 rfl ?_
    refine e_getL (kz := 26) rfl dX9_seed_6 rfl fl_708 rfl rfl ?_
    refine e_lstore_n (ls' := [some (vr 45), some (vl l1), none, some (vl ((up h 45 0 0) 45 26)), none]) dX9_seed_9 (Nat.le_of_ble_eq_true rfl) rfl ?_
    refine e_aload_n dX9_seed_10 rfl ?_
    refine e_lload_n dX9_seed_11 rfl ?_
    refine e_putL (kz := 26) rfl dX9_seed_12 rfl fp_708 rfl rfl ?_
    refine e_lload_n dX9_seed_15 rfl ?_
    obtain rfl := Option.some.inj hf
    exact e_lreturn dX9_seed_16 rfl ⟨rfl, rfl⟩
  exact Cn_of rfl (fun _ => Nat.le_of_ble_eq_true rfl) ⟨rfl, rfl⟩ (e_pad 2 key)
abbrev m_X9_nights : MI := (yX9_nights, cX9_nights, 4, some .int, { frames := 5, cells := 0, slots := 0, locals := 130 })
def p_X9_nights_76 (K28 : Mem → Int → Int → Int → Option (Int × Mem)) (h : Mem)   (l1 l2 l3 s0 s1 : Int) : Option (Int × Mem) :=
  gd (0 ≤ s0 ∧ s0 < 17) (bd (p_X9_all (up h 54 s0 s1) ) (fun r84 => bd (p_X9_rentsOf (up h 54 s0 s1) 54 r84 (wr (((up h 54 s0 s1) 53 16) + l3)) 1 4 ((up h 54 s0 s1) 45 4)) (fun r102 => K28 (up h 54 s0 s1) l1 (wr (l2 + r102)) (wr (l3 + 1)))))
set_option maxRecDepth 20000 in
theorem q_X9_nights_76 (K28 : Mem → Int → Int → Int → Option (Int × Mem)) (h : Mem)     (l1 l2 l3 s0 s1 : Int) {X : Int × Mem} (hK28 : ∀ (h : Mem) (l1 l2 l3 : Int), K28 h l1 l2 l3 = some X → E m_X9_nights none (fun r h' => r = some (vi X.1) ∧ h' = X.2) 28 [some (vr 45), some (vi l1), some (vi l2), some (vi l3)] [] h) (hf : p_X9_nights_76 K28 h   l1 l2 l3 s0 s1 = some X) : E m_X9_nights none (fun r h' => r = some (vi X.1) ∧ h' = X.2) 76 [some (vr 45), some (vi l1), some (vi l2), some (vi l3)] [vi s1, vi s0, vr 54] h := by
  unfold p_X9_nights_76 at hf
  obtain ⟨g76, hf⟩ := gd_some hf
  refine e_iast dX9_nights_76 rfl g76 ?_
  refine e_iload_n dX9_nights_77 rfl ?_
  refine e_aload_n dX9_nights_78 rfl ?_
  refine e_aload_n dX9_nights_79 rfl ?_
  refine e_getR dX9_nights_80 rfl fl_699 rfl rfl ?_
  refine e_aload_n dX9_nights_83 rfl ?_
  obtain ⟨r84, e84, hf⟩ := bd_some hf
  refine e_callV0i dX9_nights_84 rfl lk_842 ⟨rfl, rfl, Nat.le_of_ble_eq_true rfl, Nat.le_of_ble_eq_true rfl⟩ rfl rfl (Nat.le_of_ble_eq_true rfl) (q_X9_all (up h 54 s0 s1)    e84) ?_
  refine e_aload_n dX9_nights_87 rfl ?_
  refine e_getR dX9_nights_88 rfl fl_698 rfl rfl ?_
  refine e_bipush dX9_nights_91 ⟨by decide, by decide, by decide⟩ ?_
  refine e_iald dX9_nights_93 rfl (by decide) ?_
  refine e_iload_n dX9_nights_94 rfl ?_
  refine e_iadd dX9_nights_95 ?_
  refine e_iconst dX9_nights_96 ⟨by decide, by decide⟩ ?_
  refine e_iconst dX9_nights_97 ⟨by decide, by decide⟩ ?_
  refine e_aload_n dX9_nights_98 rfl ?_
  refine e_getI (kz := 4) rfl dX9_nights_99 rfl fl_686 rfl rfl (Or.inl rfl) ?_
  obtain ⟨r102, e102, hf⟩ := bd_some hf
  refine e_callV6i dX9_nights_102 rfl lk_918 ⟨rfl, rfl, Nat.le_of_ble_eq_true rfl, Nat.le_of_ble_eq_true rfl⟩ rfl rfl (Nat.le_of_ble_eq_true rfl) (q_X9_rentsOf (up h 54 s0 s1) 54 rfl r84 (wr (((up h 54 s0 s1) 53 16) + l3)) 1 4 ((up h 54 s0 s1) 45 4) e102) ?_
  refine e_iadd dX9_nights_105 ?_
  refine e_istore_n (ls' := [some (vr 45), some (vi l1), some (vi (wr (l2 + r102))), some (vi l3)]) dX9_nights_106 (Nat.le_of_ble_eq_true rfl) rfl ?_
  refine e_iinc (ls' := [some (vr 45), some (vi l1), some (vi (wr (l2 + r102))), some (vi (wr (l3 + 1)))]) dX9_nights_107 rfl (Nat.le_of_ble_eq_true rfl) rfl ?_
  refine e_goto (tgt := 28) dX9_nights_110 (by decide) ?_
  exact e_mask [true, true, true, true] (hK28 (up h 54 s0 s1) l1 (wr (l2 + r102)) (wr (l3 + 1)) hf)
def p_X9_nights_28 (K28 : Mem → Int → Int → Int → Option (Int × Mem)) (h : Mem)   (l1 l2 l3 : Int) : Option (Int × Mem) :=
  if l1 ≤ l3 then (some (l2, h)) else (if lcmp64 (lrem64 (lushr64 ((up h 45 26 (wl ((wl ((h 45 26) * 6364136223846793005)) + 1442695040888963407))) 45 26) 33) 3) 0 = 0 then (p_X9_nights_76 K28 (up h 45 26 (wl ((wl ((h 45 26) * 6364136223846793005)) + 1442695040888963407)))   l1 l2 l3 11 1) else (p_X9_nights_76 K28 (up h 45 26 (wl ((wl ((h 45 26) * 6364136223846793005)) + 1442695040888963407)))   l1 l2 l3 11 0))
set_option maxRecDepth 20000 in
theorem q_X9_nights_28 (K28 : Mem → Int → Int → Int → Option (Int × Mem)) (h : Mem)     (l1 l2 l3 : Int) {X : Int × Mem} (hK28 : ∀ (h : Mem) (l1 l2 l3 : Int), K28 h l1 l2 l3 = some X → E m_X9_nights none (fun r h' => r = some (vi X.1) ∧ h' = X.2) 28 [some (vr 45), some (vi l1), some (vi l2), some (vi l3)] [] h) (hf : p_X9_nights_28 K28 h   l1 l2 l3 = some X) : E m_X9_nights none (fun r h' => r = some (vi X.1) ∧ h' = X.2) 28 [some (vr 45), some (vi l1), some (vi l2), some (vi l3)] [] h := by
  unfold p_X9_nights_28 at hf
  refine e_iload_n dX9_nights_28 rfl ?_
  refine e_iload_n dX9_nights_29 rfl ?_
  refine e_icmp_ge (tgt := 113) dX9_nights_30 (by decide) (fun c30 => ?_) (fun c30 => ?_)
  · replace hf := ifp hf c30
    refine e_iload_n dX9_nights_113 rfl ?_
    obtain rfl := Option.some.inj hf
    exact e_ireturn dX9_nights_114 rfl ⟨rfl, rfl⟩
  · replace hf := ifn hf c30
    refine e_aload_n dX9_nights_33 rfl ?_
    refine e_aload_n dX9_nights_34 rfl ?_
    refine e_getL (kz := 26) rfl dX9_nights_35 rfl fl_708 rfl rfl ?_
    refine e_ldc2 (a := 6364136223846793005) dX9_nights_38 rfl tw_1022 ⟨by decide, by decide⟩ ?_
    refine e_lmul dX9_nights_41 ?_
    refine e_ldc2 (a := 1442695040888963407) dX9_nights_42 rfl tw_1023 ⟨by decide, by decide⟩ ?_
    refine e_ladd dX9_nights_45 ?_
    refine e_putL (kz := 26) rfl dX9_nights_46 rfl fp_708 rfl rfl ?_
    refine e_aload_n dX9_nights_49 rfl ?_
    refine e_getR dX9_nights_50 rfl fl_699 rfl rfl ?_
    refine e_bipush dX9_nights_53 ⟨by decide, by decide, by decide⟩ ?_
    refine e_aload_n dX9_nights_55 rfl ?_
    refine e_getL (kz := 26) rfl dX9_nights_56 rfl fl_708 rfl rfl ?_
    refine e_bipush dX9_nights_59 ⟨by decide, by decide, by decide⟩ ?_
    refine e_lushr dX9_nights_61 ?_
    refine e_ldc2 (a := 3) dX9_nights_62 rfl tw_892 ⟨by decide, by decide⟩ ?_
    refine e_lrem dX9_nights_65 (by decide) ?_
    refine e_lconst (a := 0) dX9_nights_66 ⟨by decide, by decide, by decide⟩ ?_
    refine e_lcmp dX9_nights_67 ?_
    refine e_if_ne (tgt := 75) dX9_nights_68 (by decide) (fun c68 => ?_) (fun c68 => ?_)
    · replace hf := ifn hf c68
      refine e_iconst dX9_nights_75 ⟨by decide, by decide⟩ ?_
      exact e_mask [true, true, true, true] (q_X9_nights_76 K28 (up h 45 26 (wl ((wl ((h 45 26) * 6364136223846793005)) + 1442695040888963407)))     l1 l2 l3 11 0 hK28 hf)
    · replace hf := ifp hf c68
      refine e_iconst dX9_nights_71 ⟨by decide, by decide⟩ ?_
      refine e_goto (tgt := 76) dX9_nights_72 (by decide) ?_
      exact e_mask [true, true, true, true] (q_X9_nights_76 K28 (up h 45 26 (wl ((wl ((h 45 26) * 6364136223846793005)) + 1442695040888963407)))     l1 l2 l3 11 1 hK28 hf)
def p_X9_nights_L28     : Nat → Mem → Int → Int → Int → Option (Int × Mem)
  | 0, _, _, _, _ => none
  | n + 1, h, l1, l2, l3 => p_X9_nights_28 (fun (h : Mem) (l1 l2 l3 : Int) => p_X9_nights_L28     n h l1 l2 l3) h   l1 l2 l3
theorem q_X9_nights_L28       {X : Int × Mem}  : ∀ (n : Nat) (h : Mem) (l1 l2 l3 : Int), p_X9_nights_L28     n h l1 l2 l3 = some X → E m_X9_nights none (fun r h' => r = some (vi X.1) ∧ h' = X.2) 28 [some (vr 45), some (vi l1), some (vi l2), some (vi l3)] [] h := by
  intro n
  induction n with
  | zero => intro h l1 l2 l3 hf; have hf2 : (none : Option (Int × Mem)) = some X := hf; cases hf2
  | succ n ih => intro h l1 l2 l3 hf; exact q_X9_nights_28 (fun (h : Mem) (l1 l2 l3 : Int) => p_X9_nights_L28     n h l1 l2 l3) h     l1 l2 l3 (fun h l1 l2 l3 hf => ih h l1 l2 l3 hf) hf
def p_X9_nights (h : Mem)  (l1 : Int) : Option (Int × Mem) :=
  bd (p_X9_in (up h 45 0 0) l1 1 30) (fun r11 => if r11 = 0 then (some ((-2), (up h 45 0 0))) else (bd (p_X9_begin (up h 45 0 0) ) (fun h23 => p_X9_nights_L28     300 h23 l1 0 0)))
set_option maxRecDepth 20000 in
theorem q_X9_nights (h : Mem)   (l1 : Int) {X : Int × Mem} (hf : p_X9_nights h  l1 = some X) : Cn m_X9_nights [vr 45, vi l1] h (fun r h' => r = some (vi X.1) ∧ h' = X.2) := by
  unfold p_X9_nights at hf
  have key : E m_X9_nights none (fun r h' => r = some (vi X.1) ∧ h' = X.2) 0 [some (vr 45), some (vi l1), none, none] [] h := by
    refine e_aload_n dX9_nights_0 rfl ?_
    refine e_iconst dX9_nights_1 ⟨by decide, by decide⟩ ?_
    refine e_putI (t := 0) (kz := 0) rfl dX9_nights_2 rfl fp_682 rfl rfl (Or.inl rfl) ?_
    refine e_iload_n dX9_nights_5 rfl ?_
    refine e_i2l dX9_nights_6 ?_
    refine e_lconst (a := 1) dX9_nights_7 ⟨by decide, by decide, by decide⟩ ?_
    refine e_ldc2 (a := 30) dX9_nights_8 rfl tw_1021 ⟨by decide, by decide⟩ ?_
    obtain ⟨r11, e11, hf⟩ := bd_some hf
    refine e_callS3i dX9_nights_11 rfl lk_799 ⟨rfl, rfl, Nat.le_of_ble_eq_true rfl, Nat.le_of_ble_eq_true rfl⟩ (Nat.le_of_ble_eq_true rfl) (q_X9_in (up h 45 0 0)   l1 1 30 e11) ?_
    refine e_if_ne (tgt := 20) dX9_nights_14 (by decide) (fun c14 => ?_) (fun c14 => ?_)
    · replace hf := ifn hf c14
      refine e_iconst dX9_nights_20 ⟨by decide, by decide⟩ ?_
      refine e_istore_n (ls' := [some (vr 45), some (vi l1), some (vi 0), none]) dX9_nights_21 (Nat.le_of_ble_eq_true rfl) rfl ?_
      refine e_aload_n dX9_nights_22 rfl ?_
      obtain ⟨h23, e23, hf⟩ := bd_some hf
      refine e_callV0v dX9_nights_23 rfl lk_948 ⟨rfl, rfl, Nat.le_of_ble_eq_true rfl, Nat.le_of_ble_eq_true rfl⟩ rfl rfl (Nat.le_of_ble_eq_true rfl) (q_X9_begin (up h 45 0 0)    e23) ?_
      refine e_iconst dX9_nights_26 ⟨by decide, by decide⟩ ?_
      refine e_istore_n (ls' := [some (vr 45), some (vi l1), some (vi 0), some (vi 0)]) dX9_nights_27 (Nat.le_of_ble_eq_true rfl) rfl ?_
      exact e_mask [true, true, true, true] (q_X9_nights_L28        300 h23 l1 0 0 hf)
    · replace hf := ifp hf c14
      refine e_bipush dX9_nights_17 ⟨by decide, by decide, by decide⟩ ?_
      obtain rfl := Option.some.inj hf
      exact e_ireturn dX9_nights_19 rfl ⟨rfl, rfl⟩
  exact Cn_of rfl (fun _ => Nat.le_of_ble_eq_true rfl) ⟨rfl, rfl⟩ (e_pad 2 key)
abbrev m_X9_keep : MI := (yX9_keep, cX9_keep, 3, some .int, { frames := 1, cells := 0, slots := 0, locals := 25 })
def p_X9_keep_55  (h : Mem)    : Option (Int × Mem) :=
  some (h 53 16, h)
set_option maxRecDepth 20000 in
theorem q_X9_keep_55  (h : Mem)      {X : Int × Mem}  (hf : p_X9_keep_55  h    = some X) : E m_X9_keep none (fun r h' => r = some (vi X.1) ∧ h' = X.2) 55 [some (vr 45), none, none] [] h := by
  unfold p_X9_keep_55 at hf
  refine e_aload_n dX9_keep_55 rfl ?_
  refine e_getR dX9_keep_56 rfl fl_698 rfl rfl ?_
  refine e_bipush dX9_keep_59 ⟨by decide, by decide, by decide⟩ ?_
  refine e_iald dX9_keep_61 rfl (by decide) ?_
  obtain rfl := Option.some.inj hf
  exact e_ireturn dX9_keep_62 rfl ⟨rfl, rfl⟩
def p_X9_keep_26 (K26 : Mem → Int → Int → Option (Int × Mem)) (h : Mem)   (l1 l2 : Int) : Option (Int × Mem) :=
  if 17 ≤ l2 then (p_X9_keep_55  h   ) else (gd (0 ≤ l2 ∧ l2 < 17) (gd (0 ≤ wr ((wr (17 * l1)) + l2) ∧ wr ((wr (17 * l1)) + l2) < 34) (K26 (up h 56 (wr ((wr (17 * l1)) + l2)) (h 53 l2)) l1 (wr (l2 + 1)))))
set_option maxRecDepth 20000 in
theorem q_X9_keep_26 (K26 : Mem → Int → Int → Option (Int × Mem)) (h : Mem)     (l1 l2 : Int) {X : Int × Mem} (hK26 : ∀ (h : Mem) (l1 l2 : Int), K26 h l1 l2 = some X → E m_X9_keep none (fun r h' => r = some (vi X.1) ∧ h' = X.2) 26 [some (vr 45), some (vi l1), some (vi l2)] [] h) (hf : p_X9_keep_26 K26 h   l1 l2 = some X) : E m_X9_keep none (fun r h' => r = some (vi X.1) ∧ h' = X.2) 26 [some (vr 45), some (vi l1), some (vi l2)] [] h := by
  unfold p_X9_keep_26 at hf
  refine e_iload_n dX9_keep_26 rfl ?_
  refine e_bipush dX9_keep_27 ⟨by decide, by decide, by decide⟩ ?_
  refine e_icmp_ge (tgt := 55) dX9_keep_29 (by decide) (fun c29 => ?_) (fun c29 => ?_)
  · replace hf := ifp hf c29
    exact e_mask [true, false, false] (q_X9_keep_55  h       hf)
  · replace hf := ifn hf c29
    refine e_aload_n dX9_keep_32 rfl ?_
    refine e_getR dX9_keep_33 rfl fl_702 rfl rfl ?_
    refine e_bipush dX9_keep_36 ⟨by decide, by decide, by decide⟩ ?_
    refine e_iload_n dX9_keep_38 rfl ?_
    refine e_imul dX9_keep_39 ?_
    refine e_iload_n dX9_keep_40 rfl ?_
    refine e_iadd dX9_keep_41 ?_
    refine e_aload_n dX9_keep_42 rfl ?_
    refine e_getR dX9_keep_43 rfl fl_698 rfl rfl ?_
    refine e_iload_n dX9_keep_46 rfl ?_
    obtain ⟨g47, hf⟩ := gd_some hf
    refine e_iald dX9_keep_47 rfl g47 ?_
    obtain ⟨g48, hf⟩ := gd_some hf
    refine e_iast dX9_keep_48 rfl g48 ?_
    refine e_iinc (ls' := [some (vr 45), some (vi l1), some (vi (wr (l2 + 1)))]) dX9_keep_49 rfl (Nat.le_of_ble_eq_true rfl) rfl ?_
    refine e_goto (tgt := 26) dX9_keep_52 (by decide) ?_
    exact e_mask [true, true, true] (hK26 (up h 56 (wr ((wr (17 * l1)) + l2)) (h 53 l2)) l1 (wr (l2 + 1)) hf)
def p_X9_keep_L26     : Nat → Mem → Int → Int → Option (Int × Mem)
  | 0, _, _, _ => none
  | n + 1, h, l1, l2 => p_X9_keep_26 (fun (h : Mem) (l1 l2 : Int) => p_X9_keep_L26     n h l1 l2) h   l1 l2
theorem q_X9_keep_L26       {X : Int × Mem}  : ∀ (n : Nat) (h : Mem) (l1 l2 : Int), p_X9_keep_L26     n h l1 l2 = some X → E m_X9_keep none (fun r h' => r = some (vi X.1) ∧ h' = X.2) 26 [some (vr 45), some (vi l1), some (vi l2)] [] h := by
  intro n
  induction n with
  | zero => intro h l1 l2 hf; have hf2 : (none : Option (Int × Mem)) = some X := hf; cases hf2
  | succ n ih => intro h l1 l2 hf; exact q_X9_keep_26 (fun (h : Mem) (l1 l2 : Int) => p_X9_keep_L26     n h l1 l2) h     l1 l2 (fun h l1 l2 hf => ih h l1 l2 hf) hf
def p_X9_keep (h : Mem)  (l1 : Int) : Option (Int × Mem) :=
  bd (p_X9_in (up h 45 0 0) l1 0 1) (fun r9 => if r9 = 0 then (some ((-1), (up h 45 0 0))) else (gd (0 ≤ l1 ∧ l1 < 2) (p_X9_keep_L26     300 (up (up h 45 0 0) 57 l1 1) l1 0)))
set_option maxRecDepth 20000 in
theorem q_X9_keep (h : Mem)   (l1 : Int) {X : Int × Mem} (hf : p_X9_keep h  l1 = some X) : Cn m_X9_keep [vr 45, vi l1] h (fun r h' => r = some (vi X.1) ∧ h' = X.2) := by
  unfold p_X9_keep at hf
  have key : E m_X9_keep none (fun r h' => r = some (vi X.1) ∧ h' = X.2) 0 [some (vr 45), some (vi l1), none] [] h := by
    refine e_aload_n dX9_keep_0 rfl ?_
    refine e_iconst dX9_keep_1 ⟨by decide, by decide⟩ ?_
    refine e_putI (t := 0) (kz := 0) rfl dX9_keep_2 rfl fp_682 rfl rfl (Or.inl rfl) ?_
    refine e_iload_n dX9_keep_5 rfl ?_
    refine e_i2l dX9_keep_6 ?_
    refine e_lconst (a := 0) dX9_keep_7 ⟨by decide, by decide, by decide⟩ ?_
    refine e_lconst (a := 1) dX9_keep_8 ⟨by decide, by decide, by decide⟩ ?_
    obtain ⟨r9, e9, hf⟩ := bd_some hf
    refine e_callS3i dX9_keep_9 rfl lk_799 ⟨rfl, rfl, Nat.le_of_ble_eq_true rfl, Nat.le_of_ble_eq_true rfl⟩ (Nat.le_of_ble_eq_true rfl) (q_X9_in (up h 45 0 0)   l1 0 1 e9) ?_
    refine e_if_ne (tgt := 17) dX9_keep_12 (by decide) (fun c12 => ?_) (fun c12 => ?_)
    · replace hf := ifn hf c12
      refine e_aload_n dX9_keep_17 rfl ?_
      refine e_getR dX9_keep_18 rfl fl_703 rfl rfl ?_
      refine e_iload_n dX9_keep_21 rfl ?_
      refine e_iconst dX9_keep_22 ⟨by decide, by decide⟩ ?_
      obtain ⟨g23, hf⟩ := gd_some hf
      refine e_bast dX9_keep_23 rfl g23 (by decide) ?_
      refine e_iconst dX9_keep_24 ⟨by decide, by decide⟩ ?_
      refine e_istore_n (ls' := [some (vr 45), some (vi l1), some (vi 0)]) dX9_keep_25 (Nat.le_of_ble_eq_true rfl) rfl ?_
      exact e_mask [true, true, true] (q_X9_keep_L26        300 (up (up h 45 0 0) 57 l1 1) l1 0 hf)
    · replace hf := ifp hf c12
      refine e_iconst dX9_keep_15 ⟨by decide, by decide⟩ ?_
      obtain rfl := Option.some.inj hf
      exact e_ireturn dX9_keep_16 rfl ⟨rfl, rfl⟩
  exact Cn_of rfl (fun _ => Nat.le_of_ble_eq_true rfl) ⟨rfl, rfl⟩ (e_pad 1 key)
abbrev m_X9_again : MI := (yX9_again, cX9_again, 3, some .int, { frames := 1, cells := 0, slots := 0, locals := 25 })
def p_X9_again_60  (h : Mem)    : Option (Int × Mem) :=
  some ((up h 45 19 0) 53 16, (up h 45 19 0))
set_option maxRecDepth 20000 in
theorem q_X9_again_60  (h : Mem)      {X : Int × Mem}  (hf : p_X9_again_60  h    = some X) : E m_X9_again none (fun r h' => r = some (vi X.1) ∧ h' = X.2) 60 [some (vr 45), none, none] [] h := by
  unfold p_X9_again_60 at hf
  refine e_aload_n dX9_again_60 rfl ?_
  refine e_iconst dX9_again_61 ⟨by decide, by decide⟩ ?_
  refine e_putI (t := 0) (kz := 19) rfl dX9_again_62 rfl fp_701 rfl rfl (Or.inl rfl) ?_
  refine e_aload_n dX9_again_65 rfl ?_
  refine e_getR dX9_again_66 rfl fl_698 rfl rfl ?_
  refine e_bipush dX9_again_69 ⟨by decide, by decide, by decide⟩ ?_
  refine e_iald dX9_again_71 rfl (by decide) ?_
  obtain rfl := Option.some.inj hf
  exact e_ireturn dX9_again_72 rfl ⟨rfl, rfl⟩
def p_X9_again_31 (K31 : Mem → Int → Int → Option (Int × Mem)) (h : Mem)   (l1 l2 : Int) : Option (Int × Mem) :=
  if 17 ≤ l2 then (p_X9_again_60  h   ) else (gd (0 ≤ wr ((wr (17 * l1)) + l2) ∧ wr ((wr (17 * l1)) + l2) < 34) (gd (0 ≤ l2 ∧ l2 < 17) (K31 (up h 53 l2 (h 56 (wr ((wr (17 * l1)) + l2)))) l1 (wr (l2 + 1)))))
set_option maxRecDepth 20000 in
theorem q_X9_again_31 (K31 : Mem → Int → Int → Option (Int × Mem)) (h : Mem)     (l1 l2 : Int) {X : Int × Mem} (hK31 : ∀ (h : Mem) (l1 l2 : Int), K31 h l1 l2 = some X → E m_X9_again none (fun r h' => r = some (vi X.1) ∧ h' = X.2) 31 [some (vr 45), some (vi l1), some (vi l2)] [] h) (hf : p_X9_again_31 K31 h   l1 l2 = some X) : E m_X9_again none (fun r h' => r = some (vi X.1) ∧ h' = X.2) 31 [some (vr 45), some (vi l1), some (vi l2)] [] h := by
  unfold p_X9_again_31 at hf
  refine e_iload_n dX9_again_31 rfl ?_
  refine e_bipush dX9_again_32 ⟨by decide, by decide, by decide⟩ ?_
  refine e_icmp_ge (tgt := 60) dX9_again_34 (by decide) (fun c34 => ?_) (fun c34 => ?_)
  · replace hf := ifp hf c34
    exact e_mask [true, false, false] (q_X9_again_60  h       hf)
  · replace hf := ifn hf c34
    refine e_aload_n dX9_again_37 rfl ?_
    refine e_getR dX9_again_38 rfl fl_698 rfl rfl ?_
    refine e_iload_n dX9_again_41 rfl ?_
    refine e_aload_n dX9_again_42 rfl ?_
    refine e_getR dX9_again_43 rfl fl_702 rfl rfl ?_
    refine e_bipush dX9_again_46 ⟨by decide, by decide, by decide⟩ ?_
    refine e_iload_n dX9_again_48 rfl ?_
    refine e_imul dX9_again_49 ?_
    refine e_iload_n dX9_again_50 rfl ?_
    refine e_iadd dX9_again_51 ?_
    obtain ⟨g52, hf⟩ := gd_some hf
    refine e_iald dX9_again_52 rfl g52 ?_
    obtain ⟨g53, hf⟩ := gd_some hf
    refine e_iast dX9_again_53 rfl g53 ?_
    refine e_iinc (ls' := [some (vr 45), some (vi l1), some (vi (wr (l2 + 1)))]) dX9_again_54 rfl (Nat.le_of_ble_eq_true rfl) rfl ?_
    refine e_goto (tgt := 31) dX9_again_57 (by decide) ?_
    exact e_mask [true, true, true] (hK31 (up h 53 l2 (h 56 (wr ((wr (17 * l1)) + l2)))) l1 (wr (l2 + 1)) hf)
def p_X9_again_L31     : Nat → Mem → Int → Int → Option (Int × Mem)
  | 0, _, _, _ => none
  | n + 1, h, l1, l2 => p_X9_again_31 (fun (h : Mem) (l1 l2 : Int) => p_X9_again_L31     n h l1 l2) h   l1 l2
theorem q_X9_again_L31       {X : Int × Mem}  : ∀ (n : Nat) (h : Mem) (l1 l2 : Int), p_X9_again_L31     n h l1 l2 = some X → E m_X9_again none (fun r h' => r = some (vi X.1) ∧ h' = X.2) 31 [some (vr 45), some (vi l1), some (vi l2)] [] h := by
  intro n
  induction n with
  | zero => intro h l1 l2 hf; have hf2 : (none : Option (Int × Mem)) = some X := hf; cases hf2
  | succ n ih => intro h l1 l2 hf; exact q_X9_again_31 (fun (h : Mem) (l1 l2 : Int) => p_X9_again_L31     n h l1 l2) h     l1 l2 (fun h l1 l2 hf => ih h l1 l2 hf) hf
def p_X9_again (h : Mem)  (l1 : Int) : Option (Int × Mem) :=
  bd (p_X9_in (up h 45 0 0) l1 0 1) (fun r9 => if r9 = 0 then (some ((-1), (up h 45 0 0))) else (gd (0 ≤ l1 ∧ l1 < 2) (if (up h 45 0 0) 57 l1 = 0 then (some ((-3), (up h 45 0 0))) else (p_X9_again_L31     300 (up h 45 0 0) l1 0))))
set_option maxRecDepth 20000 in
theorem q_X9_again (h : Mem)   (l1 : Int) {X : Int × Mem} (hf : p_X9_again h  l1 = some X) : Cn m_X9_again [vr 45, vi l1] h (fun r h' => r = some (vi X.1) ∧ h' = X.2) := by
  unfold p_X9_again at hf
  have key : E m_X9_again none (fun r h' => r = some (vi X.1) ∧ h' = X.2) 0 [some (vr 45), some (vi l1), none] [] h := by
    refine e_aload_n dX9_again_0 rfl ?_
    refine e_iconst dX9_again_1 ⟨by decide, by decide⟩ ?_
    refine e_putI (t := 0) (kz := 0) rfl dX9_again_2 rfl fp_682 rfl rfl (Or.inl rfl) ?_
    refine e_iload_n dX9_again_5 rfl ?_
    refine e_i2l dX9_again_6 ?_
    refine e_lconst (a := 0) dX9_again_7 ⟨by decide, by decide, by decide⟩ ?_
    refine e_lconst (a := 1) dX9_again_8 ⟨by decide, by decide, by decide⟩ ?_
    obtain ⟨r9, e9, hf⟩ := bd_some hf
    refine e_callS3i dX9_again_9 rfl lk_799 ⟨rfl, rfl, Nat.le_of_ble_eq_true rfl, Nat.le_of_ble_eq_true rfl⟩ (Nat.le_of_ble_eq_true rfl) (q_X9_in (up h 45 0 0)   l1 0 1 e9) ?_
    refine e_if_ne (tgt := 17) dX9_again_12 (by decide) (fun c12 => ?_) (fun c12 => ?_)
    · replace hf := ifn hf c12
      refine e_aload_n dX9_again_17 rfl ?_
      refine e_getR dX9_again_18 rfl fl_703 rfl rfl ?_
      refine e_iload_n dX9_again_21 rfl ?_
      obtain ⟨g22, hf⟩ := gd_some hf
      refine e_bald dX9_again_22 rfl g22 ?_
      refine e_if_ne (tgt := 29) dX9_again_23 (by decide) (fun c23 => ?_) (fun c23 => ?_)
      · replace hf := ifn hf c23
        refine e_iconst dX9_again_29 ⟨by decide, by decide⟩ ?_
        refine e_istore_n (ls' := [some (vr 45), some (vi l1), some (vi 0)]) dX9_again_30 (Nat.le_of_ble_eq_true rfl) rfl ?_
        exact e_mask [true, true, true] (q_X9_again_L31        300 (up h 45 0 0) l1 0 hf)
      · replace hf := ifp hf c23
        refine e_bipush dX9_again_26 ⟨by decide, by decide, by decide⟩ ?_
        obtain rfl := Option.some.inj hf
        exact e_ireturn dX9_again_28 rfl ⟨rfl, rfl⟩
    · replace hf := ifp hf c12
      refine e_iconst dX9_again_15 ⟨by decide, by decide⟩ ?_
      obtain rfl := Option.some.inj hf
      exact e_ireturn dX9_again_16 rfl ⟨rfl, rfl⟩
  exact Cn_of rfl (fun _ => Nat.le_of_ble_eq_true rfl) ⟨rfl, rfl⟩ (e_pad 1 key)
