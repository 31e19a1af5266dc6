abbrev m_X4_clear : MI := (yX4_clear, cX4_clear, 1, none, { frames := 0, cells := 0, slots := 0, locals := 0 })
def p_X4_clear (h : Mem)   : Option (Mem) :=
  some (up h 3 3 0)
set_option maxRecDepth 20000 in
theorem q_X4_clear (h : Mem)    {X : Mem} (hf : p_X4_clear h   = some X) : Cn m_X4_clear [vr 3] h (fun r h' => r = none ∧ h' = X) := by
  unfold p_X4_clear at hf
  have key : E m_X4_clear none (fun r h' => r = none ∧ h' = X) 0 [some (vr 3)] [] h := by
    refine e_aload_n dX4_clear_0 rfl ?_
    refine e_iconst dX4_clear_1 ⟨by decide, by decide⟩ ?_
    refine e_putI (t := 0) (kz := 3) rfl dX4_clear_2 rfl fp_49 rfl rfl (Or.inl rfl) ?_
    obtain rfl := Option.some.inj hf
    exact e_return dX4_clear_5 rfl ⟨rfl, rfl⟩
  exact Cn_of rfl (fun _ => Nat.le_of_ble_eq_true rfl) ⟨rfl, rfl⟩ (e_pad 0 key)
abbrev m_X4_addStar : MI := (yX4_addStar, cX4_addStar, 4, none, { frames := 0, cells := 0, slots := 0, locals := 0 })
def p_X4_addStar_48  (h : Mem)    : Option (Mem) :=
  some h
set_option maxRecDepth 20000 in
theorem q_X4_addStar_48  (h : Mem)      {X : Mem}  (hf : p_X4_addStar_48  h    = some X) : E m_X4_addStar none (fun r h' => r = none ∧ h' = X) 48 [some (vr 3), none, none, none] [] h := by
  unfold p_X4_addStar_48 at hf
  obtain rfl := Option.some.inj hf
  exact e_return dX4_addStar_48 rfl ⟨rfl, rfl⟩
def p_X4_addStar (h : Mem)  (l1 l2 l3 : Int) : Option (Mem) :=
  if 4 ≤ h 3 3 then (some h) else (gd (0 ≤ h 3 3 ∧ h 3 3 < 4) (gd (0 ≤ (up h 4 (h 3 3) l1) 3 3 ∧ (up h 4 (h 3 3) l1) 3 3 < 4) (gd (0 ≤ (up (up h 4 (h 3 3) l1) 5 ((up h 4 (h 3 3) l1) 3 3) l2) 3 3 ∧ (up (up h 4 (h 3 3) l1) 5 ((up h 4 (h 3 3) l1) 3 3) l2) 3 3 < 4) (p_X4_addStar_48  (up (up (up (up h 4 (h 3 3) l1) 5 ((up h 4 (h 3 3) l1) 3 3) l2) 6 ((up (up h 4 (h 3 3) l1) 5 ((up h 4 (h 3 3) l1) 3 3) l2) 3 3) l3) 3 3 (wr (((up (up (up h 4 (h 3 3) l1) 5 ((up h 4 (h 3 3) l1) 3 3) l2) 6 ((up (up h 4 (h 3 3) l1) 5 ((up h 4 (h 3 3) l1) 3 3) l2) 3 3) l3) 3 3) + 1)))   ))))
set_option maxRecDepth 20000 in
theorem q_X4_addStar (h : Mem)   (l1 l2 l3 : Int) {X : Mem} (hf : p_X4_addStar h  l1 l2 l3 = some X) : Cn m_X4_addStar [vr 3, vi l1, vi l2, vi l3] h (fun r h' => r = none ∧ h' = X) := by
  unfold p_X4_addStar at hf
  have key : E m_X4_addStar none (fun r h' => r = none ∧ h' = X) 0 [some (vr 3), some (vi l1), some (vi l2), some (vi l3)] [] h := by
    refine e_aload_n dX4_addStar_0 rfl ?_
    refine e_getI (kz := 3) rfl dX4_addStar_1 rfl fl_49 rfl rfl (Or.inl rfl) ?_
    refine e_iconst dX4_addStar_4 ⟨by decide, by decide⟩ ?_
    refine e_icmp_ge (tgt := 48) dX4_addStar_5 (by decide) (fun c5 => ?_) (fun c5 => ?_)
    · replace hf := ifp hf c5
      obtain rfl := Option.some.inj hf
      exact e_return dX4_addStar_48 rfl ⟨rfl, rfl⟩
    · replace hf := ifn hf c5
      refine e_aload_n dX4_addStar_8 rfl ?_
      refine e_getR dX4_addStar_9 rfl fl_44 rfl rfl ?_
      refine e_aload_n dX4_addStar_12 rfl ?_
      refine e_getI (kz := 3) rfl dX4_addStar_13 rfl fl_49 rfl rfl (Or.inl rfl) ?_
      refine e_iload_n dX4_addStar_16 rfl ?_
      obtain ⟨g17, hf⟩ := gd_some hf
      refine e_iast dX4_addStar_17 rfl g17 ?_
      refine e_aload_n dX4_addStar_18 rfl ?_
      refine e_getR dX4_addStar_19 rfl fl_45 rfl rfl ?_
      refine e_aload_n dX4_addStar_22 rfl ?_
      refine e_getI (kz := 3) rfl dX4_addStar_23 rfl fl_49 rfl rfl (Or.inl rfl) ?_
      refine e_iload_n dX4_addStar_26 rfl ?_
      obtain ⟨g27, hf⟩ := gd_some hf
      refine e_iast dX4_addStar_27 rfl g27 ?_
      refine e_aload_n dX4_addStar_28 rfl ?_
      refine e_getR dX4_addStar_29 rfl fl_47 rfl rfl ?_
      refine e_aload_n dX4_addStar_32 rfl ?_
      refine e_getI (kz := 3) rfl dX4_addStar_33 rfl fl_49 rfl rfl (Or.inl rfl) ?_
      refine e_iload_n dX4_addStar_36 rfl ?_
      obtain ⟨g37, hf⟩ := gd_some hf
      refine e_iast dX4_addStar_37 rfl g37 ?_
      refine e_aload_n dX4_addStar_38 rfl ?_
      refine e_dup dX4_addStar_39 (fun _ => rfl) ?_
      refine e_getI (kz := 3) rfl dX4_addStar_40 rfl fl_49 rfl rfl (Or.inl rfl) ?_
      refine e_iconst dX4_addStar_43 ⟨by decide, by decide⟩ ?_
      refine e_iadd dX4_addStar_44 ?_
      refine e_putI (t := 0) (kz := 3) rfl dX4_addStar_45 rfl fp_49 rfl rfl (Or.inl rfl) ?_
      exact e_mask [true, false, false, false] (q_X4_addStar_48  (up (up (up (up h 4 (h 3 3) l1) 5 ((up h 4 (h 3 3) l1) 3 3) l2) 6 ((up (up h 4 (h 3 3) l1) 5 ((up h 4 (h 3 3) l1) 3 3) l2) 3 3) l3) 3 3 (wr (((up (up (up h 4 (h 3 3) l1) 5 ((up h 4 (h 3 3) l1) 3 3) l2) 6 ((up (up h 4 (h 3 3) l1) 5 ((up h 4 (h 3 3) l1) 3 3) l2) 3 3) l3) 3 3) + 1)))       hf)
  exact Cn_of rfl (fun _ => Nat.le_of_ble_eq_true rfl) ⟨rfl, rfl⟩ (e_pad 0 key)
abbrev m_X4_hasStar : MI := (yX4_hasStar, cX4_hasStar, 2, some .boolean, { frames := 0, cells := 0, slots := 0, locals := 0 })
def p_X4_hasStar (h : Mem)  (l1 : Int) : Option (Int) :=
  if l1 < 0 then (some 0) else (if h 3 3 ≤ l1 then (some 0) else (if 4 ≤ l1 then (some 0) else (some 1)))
set_option maxRecDepth 20000 in
theorem q_X4_hasStar (h : Mem)   (l1 : Int) {X : Int} (hf : p_X4_hasStar h  l1 = some X) : Cn m_X4_hasStar [vr 3, vi l1] h (fun r h' => r = some (vi X) ∧ h' = h) := by
  unfold p_X4_hasStar at hf
  have key : E m_X4_hasStar none (fun r h' => r = some (vi X) ∧ h' = h) 0 [some (vr 3), some (vi l1)] [] h := by
    refine e_iload_n dX4_hasStar_0 rfl ?_
    refine e_if_lt (tgt := 21) dX4_hasStar_1 (by decide) (fun c1 => ?_) (fun c1 => ?_)
    · replace hf := ifp hf c1
      refine e_iconst dX4_hasStar_21 ⟨by decide, by decide⟩ ?_
      obtain rfl := Option.some.inj hf
      exact e_zreturn dX4_hasStar_22 rfl (by decide) ⟨rfl, rfl⟩
    · replace hf := ifn hf c1
      refine e_iload_n dX4_hasStar_4 rfl ?_
      refine e_aload_n dX4_hasStar_5 rfl ?_
      refine e_getI (kz := 3) rfl dX4_hasStar_6 rfl fl_49 rfl rfl (Or.inl rfl) ?_
      refine e_icmp_ge (tgt := 21) dX4_hasStar_9 (by decide) (fun c9 => ?_) (fun c9 => ?_)
      · replace hf := ifp hf c9
        refine e_iconst dX4_hasStar_21 ⟨by decide, by decide⟩ ?_
        obtain rfl := Option.some.inj hf
        exact e_zreturn dX4_hasStar_22 rfl (by decide) ⟨rfl, rfl⟩
      · replace hf := ifn hf c9
        refine e_iload_n dX4_hasStar_12 rfl ?_
        refine e_iconst dX4_hasStar_13 ⟨by decide, by decide⟩ ?_
        refine e_icmp_ge (tgt := 21) dX4_hasStar_14 (by decide) (fun c14 => ?_) (fun c14 => ?_)
        · replace hf := ifp hf c14
          refine e_iconst dX4_hasStar_21 ⟨by decide, by decide⟩ ?_
          obtain rfl := Option.some.inj hf
          exact e_zreturn dX4_hasStar_22 rfl (by decide) ⟨rfl, rfl⟩
        · replace hf := ifn hf c14
          refine e_iconst dX4_hasStar_17 ⟨by decide, by decide⟩ ?_
          refine e_goto (tgt := 22) dX4_hasStar_18 (by decide) ?_
          obtain rfl := Option.some.inj hf
          exact e_zreturn dX4_hasStar_22 rfl (by decide) ⟨rfl, rfl⟩
  exact Cn_of rfl (fun _ => Nat.le_of_ble_eq_true rfl) ⟨rfl, rfl⟩ (e_pad 0 key)
abbrev m_X4_walkedTo : MI := (yX4_walkedTo, cX4_walkedTo, 3, some .int, { frames := 0, cells := 0, slots := 0, locals := 0 })
def p_X4_walkedTo (h : Mem)  (l0 l1 l2 : Int) : Option (Int) :=
  some (qrem (wr (l0 + (wr (l1 * (qrem l2 10))))) 10)
set_option maxRecDepth 20000 in
theorem q_X4_walkedTo (h : Mem)   (l0 l1 l2 : Int) {X : Int} (hf : p_X4_walkedTo h  l0 l1 l2 = some X) : Cn m_X4_walkedTo [vi l0, vi l1, vi l2] h (fun r h' => r = some (vi X) ∧ h' = h) := by
  unfold p_X4_walkedTo at hf
  have key : E m_X4_walkedTo none (fun r h' => r = some (vi X) ∧ h' = h) 0 [some (vi l0), some (vi l1), some (vi l2)] [] h := by
    refine e_iload_n dX4_walkedTo_0 rfl ?_
    refine e_iload_n dX4_walkedTo_1 rfl ?_
    refine e_iload_n dX4_walkedTo_2 rfl ?_
    refine e_bipush dX4_walkedTo_3 ⟨by decide, by decide, by decide⟩ ?_
    refine e_irem dX4_walkedTo_5 (by decide) ?_
    refine e_imul dX4_walkedTo_6 ?_
    refine e_iadd dX4_walkedTo_7 ?_
    refine e_bipush dX4_walkedTo_8 ⟨by decide, by decide, by decide⟩ ?_
    refine e_irem dX4_walkedTo_10 (by decide) ?_
    obtain rfl := Option.some.inj hf
    exact e_ireturn dX4_walkedTo_11 rfl ⟨rfl, rfl⟩
  exact Cn_of rfl (fun _ => Nat.le_of_ble_eq_true rfl) ⟨rfl, rfl⟩ (e_pad 0 key)
theorem lk_378 : VLk "StarRight$Stars" 25 m_X4_hasStar 1 := ⟨tw_378, tw_379, tw_380, tw_3, tw_381, by decide +kernel⟩
theorem lk_382 : SLk "StarRight$Stars" 29 m_X4_walkedTo 3 := ⟨tw_382, tw_383, tw_3, tw_384, by decide +kernel⟩
abbrev m_X4_cellAt : MI := (yX4_cellAt, cX4_cellAt, 3, some .int, { frames := 1, cells := 0, slots := 0, locals := 22 })
def p_X4_cellAt (h : Mem)  (l1 l2 : Int) : Option (Int) :=
  bd (p_X4_hasStar h l1) (fun r2 => if r2 = 0 then (some 0) else (gd (0 ≤ l1 ∧ l1 < 4) (gd (0 ≤ l1 ∧ l1 < 4) (bd (p_X4_walkedTo h (h 4 l1) (h 5 l1) l2) (fun r21 => some r21)))))
set_option maxRecDepth 20000 in
theorem q_X4_cellAt (h : Mem)   (l1 l2 : Int) {X : Int} (hf : p_X4_cellAt h  l1 l2 = some X) : Cn m_X4_cellAt [vr 3, vi l1, vi l2] h (fun r h' => r = some (vi X) ∧ h' = h) := by
  unfold p_X4_cellAt at hf
  have key : E m_X4_cellAt none (fun r h' => r = some (vi X) ∧ h' = h) 0 [some (vr 3), some (vi l1), some (vi l2)] [] h := by
    refine e_aload_n dX4_cellAt_0 rfl ?_
    refine e_iload_n dX4_cellAt_1 rfl ?_
    obtain ⟨r2, e2, hf⟩ := bd_some hf
    refine e_callV1i dX4_cellAt_2 rfl lk_378 ⟨rfl, rfl, Nat.le_of_ble_eq_true rfl, Nat.le_of_ble_eq_true rfl⟩ rfl rfl (Nat.le_of_ble_eq_true rfl) (q_X4_hasStar h   l1 e2) ?_
    refine e_if_eq (tgt := 27) dX4_cellAt_5 (by decide) (fun c5 => ?_) (fun c5 => ?_)
    · replace hf := ifp hf c5
      refine e_iconst dX4_cellAt_27 ⟨by decide, by decide⟩ ?_
      obtain rfl := Option.some.inj hf
      exact e_ireturn dX4_cellAt_28 rfl ⟨rfl, rfl⟩
    · replace hf := ifn hf c5
      refine e_aload_n dX4_cellAt_8 rfl ?_
      refine e_getR dX4_cellAt_9 rfl fl_44 rfl rfl ?_
      refine e_iload_n dX4_cellAt_12 rfl ?_
      obtain ⟨g13, hf⟩ := gd_some hf
      refine e_iald dX4_cellAt_13 rfl g13 ?_
      refine e_aload_n dX4_cellAt_14 rfl ?_
      refine e_getR dX4_cellAt_15 rfl fl_45 rfl rfl ?_
      refine e_iload_n dX4_cellAt_18 rfl ?_
      obtain ⟨g19, hf⟩ := gd_some hf
      refine e_iald dX4_cellAt_19 rfl g19 ?_
      refine e_iload_n dX4_cellAt_20 rfl ?_
      obtain ⟨r21, e21, hf⟩ := bd_some hf
      refine e_callS3i dX4_cellAt_21 rfl lk_382 ⟨rfl, rfl, Nat.le_of_ble_eq_true rfl, Nat.le_of_ble_eq_true rfl⟩ (Nat.le_of_ble_eq_true rfl) (q_X4_walkedTo h   (h 4 l1) (h 5 l1) l2 e21) ?_
      refine e_goto (tgt := 28) dX4_cellAt_24 (by decide) ?_
      obtain rfl := Option.some.inj hf
      exact e_ireturn dX4_cellAt_28 rfl ⟨rfl, rfl⟩
  exact Cn_of rfl (fun _ => Nat.le_of_ble_eq_true rfl) ⟨rfl, rfl⟩ (e_pad 0 key)
abbrev m_X4_worthOf : MI := (yX4_worthOf, cX4_worthOf, 2, some .int, { frames := 1, cells := 0, slots := 0, locals := 21 })
def p_X4_worthOf (h : Mem)  (l1 : Int) : Option (Int) :=
  bd (p_X4_hasStar h l1) (fun r2 => if r2 = 0 then (some 0) else (gd (0 ≤ l1 ∧ l1 < 4) (some (h 6 l1))))
set_option maxRecDepth 20000 in
theorem q_X4_worthOf (h : Mem)   (l1 : Int) {X : Int} (hf : p_X4_worthOf h  l1 = some X) : Cn m_X4_worthOf [vr 3, vi l1] h (fun r h' => r = some (vi X) ∧ h' = h) := by
  unfold p_X4_worthOf at hf
  have key : E m_X4_worthOf none (fun r h' => r = some (vi X) ∧ h' = h) 0 [some (vr 3), some (vi l1)] [] h := by
    refine e_aload_n dX4_worthOf_0 rfl ?_
    refine e_iload_n dX4_worthOf_1 rfl ?_
    obtain ⟨r2, e2, hf⟩ := bd_some hf
    refine e_callV1i dX4_worthOf_2 rfl lk_378 ⟨rfl, rfl, Nat.le_of_ble_eq_true rfl, Nat.le_of_ble_eq_true rfl⟩ rfl rfl (Nat.le_of_ble_eq_true rfl) (q_X4_hasStar h   l1 e2) ?_
    refine e_if_eq (tgt := 17) dX4_worthOf_5 (by decide) (fun c5 => ?_) (fun c5 => ?_)
    · replace hf := ifp hf c5
      refine e_iconst dX4_worthOf_17 ⟨by decide, by decide⟩ ?_
      obtain rfl := Option.some.inj hf
      exact e_ireturn dX4_worthOf_18 rfl ⟨rfl, rfl⟩
    · replace hf := ifn hf c5
      refine e_aload_n dX4_worthOf_8 rfl ?_
      refine e_getR dX4_worthOf_9 rfl fl_47 rfl rfl ?_
      refine e_iload_n dX4_worthOf_12 rfl ?_
      obtain ⟨g13, hf⟩ := gd_some hf
      refine e_iald dX4_worthOf_13 rfl g13 ?_
      refine e_goto (tgt := 18) dX4_worthOf_14 (by decide) ?_
      obtain rfl := Option.some.inj hf
      exact e_ireturn dX4_worthOf_18 rfl ⟨rfl, rfl⟩
  exact Cn_of rfl (fun _ => Nat.le_of_ble_eq_true rfl) ⟨rfl, rfl⟩ (e_pad 0 key)
theorem lk_496 : VLk "StarRight$Stars" 33 m_X4_cellAt 2 := ⟨tw_496, tw_375, tw_376, tw_3, tw_377, by decide +kernel⟩
abbrev m_X4_cellsPassed : MI := (yX4_cellsPassed, cX4_cellsPassed, 6, some .int, { frames := 2, cells := 0, slots := 0, locals := 44 })
def p_X4_cellsPassed_6 (K6 : Int → Int → Int → Int → Int → Option (Int)) (h : Mem)   (l1 l2 l3 l4 l5 : Int) : Option (Int) :=
  if l3 ≤ l5 then (some l4) else (bd (p_X4_cellAt h l1 (wr (l2 + l5))) (fun r21 => K6 l1 l2 l3 (bor l4 (bshl 1 r21)) (wr (l5 + 1))))
set_option maxRecDepth 20000 in
theorem q_X4_cellsPassed_6 (K6 : Int → Int → Int → Int → Int → Option (Int)) (h : Mem)     (l1 l2 l3 l4 l5 : Int) {X : Int} (hK6 : ∀ (l1 l2 l3 l4 l5 : Int), K6 l1 l2 l3 l4 l5 = some X → E m_X4_cellsPassed none (fun r h' => r = some (vi X) ∧ h' = h) 6 [some (vr 3), some (vi l1), some (vi l2), some (vi l3), some (vi l4), some (vi l5)] [] h) (hf : p_X4_cellsPassed_6 K6 h   l1 l2 l3 l4 l5 = some X) : E m_X4_cellsPassed none (fun r h' => r = some (vi X) ∧ h' = h) 6 [some (vr 3), some (vi l1), some (vi l2), some (vi l3), some (vi l4), some (vi l5)] [] h := by
  unfold p_X4_cellsPassed_6 at hf
  refine e_iload dX4_cellsPassed_6 rfl ?_
  refine e_iload_n dX4_cellsPassed_8 rfl ?_
  refine e_icmp_ge (tgt := 34) dX4_cellsPassed_9 (by decide) (fun c9 => ?_) (fun c9 => ?_)
  · replace hf := ifp hf c9
    refine e_iload dX4_cellsPassed_34 rfl ?_
    obtain rfl := Option.some.inj hf
    exact e_ireturn dX4_cellsPassed_36 rfl ⟨rfl, rfl⟩
  · replace hf := ifn hf c9
    refine e_iload dX4_cellsPassed_12 rfl ?_
    refine e_iconst dX4_cellsPassed_14 ⟨by decide, by decide⟩ ?_
    refine e_aload_n dX4_cellsPassed_15 rfl ?_
    refine e_iload_n dX4_cellsPassed_16 rfl ?_
    refine e_iload_n dX4_cellsPassed_17 rfl ?_
    refine e_iload dX4_cellsPassed_18 rfl ?_
    refine e_iadd dX4_cellsPassed_20 ?_
    obtain ⟨r21, e21, hf⟩ := bd_some hf
    refine e_callV2i dX4_cellsPassed_21 rfl lk_496 ⟨rfl, rfl, Nat.le_of_ble_eq_true rfl, Nat.le_of_ble_eq_true rfl⟩ rfl rfl (Nat.le_of_ble_eq_true rfl) (q_X4_cellAt h   l1 (wr (l2 + l5)) e21) ?_
    refine e_ishl dX4_cellsPassed_24 ?_
    refine e_ior dX4_cellsPassed_25 ?_
    refine e_istore (ls' := [some (vr 3), some (vi l1), some (vi l2), some (vi l3), some (vi (bor l4 (bshl 1 r21))), some (vi l5)]) dX4_cellsPassed_26 (Nat.le_of_ble_eq_true rfl) rfl ?_
    refine e_iinc (ls' := [some (vr 3), some (vi l1), some (vi l2), some (vi l3), some (vi (bor l4 (bshl 1 r21))), some (vi (wr (l5 + 1)))]) dX4_cellsPassed_28 rfl (Nat.le_of_ble_eq_true rfl) rfl ?_
    refine e_goto (tgt := 6) dX4_cellsPassed_31 (by decide) ?_
    exact e_mask [true, true, true, true, true, true] (hK6 l1 l2 l3 (bor l4 (bshl 1 r21)) (wr (l5 + 1)) hf)
def p_X4_cellsPassed_L6  (h : Mem)   : Nat → Int → Int → Int → Int → Int → Option (Int)
  | 0, _, _, _, _, _ => none
  | n + 1, l1, l2, l3, l4, l5 => p_X4_cellsPassed_6 (fun (l1 l2 l3 l4 l5 : Int) => p_X4_cellsPassed_L6  h   n l1 l2 l3 l4 l5) h   l1 l2 l3 l4 l5
theorem q_X4_cellsPassed_L6  (h : Mem)     {X : Int}  : ∀ (n : Nat) (l1 l2 l3 l4 l5 : Int), p_X4_cellsPassed_L6  h   n l1 l2 l3 l4 l5 = some X → E m_X4_cellsPassed none (fun r h' => r = some (vi X) ∧ h' = h) 6 [some (vr 3), some (vi l1), some (vi l2), some (vi l3), some (vi l4), some (vi l5)] [] h := by
  intro n
  induction n with
  | zero => intro l1 l2 l3 l4 l5 hf; have hf2 : (none : Option (Int)) = some X := hf; cases hf2
  | succ n ih => intro l1 l2 l3 l4 l5 hf; exact q_X4_cellsPassed_6 (fun (l1 l2 l3 l4 l5 : Int) => p_X4_cellsPassed_L6  h   n l1 l2 l3 l4 l5) h     l1 l2 l3 l4 l5 (fun l1 l2 l3 l4 l5 hf => ih l1 l2 l3 l4 l5 hf) hf
def p_X4_cellsPassed (h : Mem)  (l1 l2 l3 : Int) : Option (Int) :=
  p_X4_cellsPassed_L6  h   300  l1 l2 l3 0 0
set_option maxRecDepth 20000 in
theorem q_X4_cellsPassed (h : Mem)   (l1 l2 l3 : Int) {X : Int} (hf : p_X4_cellsPassed h  l1 l2 l3 = some X) : Cn m_X4_cellsPassed [vr 3, vi l1, vi l2, vi l3] h (fun r h' => r = some (vi X) ∧ h' = h) := by
  unfold p_X4_cellsPassed at hf
  have key : E m_X4_cellsPassed none (fun r h' => r = some (vi X) ∧ h' = h) 0 [some (vr 3), some (vi l1), some (vi l2), some (vi l3), none, none] [] h := by
    refine e_iconst dX4_cellsPassed_0 ⟨by decide, by decide⟩ ?_
    refine e_istore (ls' := [some (vr 3), some (vi l1), some (vi l2), some (vi l3), some (vi 0), none]) dX4_cellsPassed_1 (Nat.le_of_ble_eq_true rfl) rfl ?_
    refine e_iconst dX4_cellsPassed_3 ⟨by decide, by decide⟩ ?_
    refine e_istore (ls' := [some (vr 3), some (vi l1), some (vi l2), some (vi l3), some (vi 0), some (vi 0)]) dX4_cellsPassed_4 (Nat.le_of_ble_eq_true rfl) rfl ?_
    exact e_mask [true, true, true, true, true, true] (q_X4_cellsPassed_L6  h      300  l1 l2 l3 0 0 hf)
  exact Cn_of rfl (fun _ => Nat.le_of_ble_eq_true rfl) ⟨rfl, rfl⟩ (e_pad 2 key)
