theorem lk_235 : VLk "StarRight" 75 m_X5_isFull 0 := ⟨tw_235, tw_236, tw_237, tw_2, tw_238, by decide +kernel⟩
theorem lk_239 : VLk "StarRight" 79 m_X5_add 1 := ⟨tw_239, tw_240, tw_241, tw_2, tw_242, by decide +kernel⟩
abbrev m_X8_write : MI := (yX8_write, cX8_write, 2, some .int, { frames := 2, cells := 0, slots := 0, locals := 41 })
def p_X8_write (h : Mem)  (l1 : Int) : Option (Int × Mem) :=
  if l1 < 0 then (some ((-2), h)) else (if l1 ≤ 255 then (bd (p_X5_isFull h ) (fun r18 => if r18 = 0 then (bd (p_X5_add h l1) (fun q32 => some (q32.1, q32.2))) else (some ((-4), h)))) else (some ((-2), h)))
set_option maxRecDepth 20000 in
theorem q_X8_write (h : Mem)   (l1 : Int) {X : Int × Mem} (hf : p_X8_write h  l1 = some X) : Cn m_X8_write [vr 0, vi l1] h (fun r h' => r = some (vi X.1) ∧ h' = X.2) := by
  unfold p_X8_write at hf
  have key : E m_X8_write none (fun r h' => r = some (vi X.1) ∧ h' = X.2) 0 [some (vr 0), some (vi l1)] [] h := by
    refine e_iload_n dX8_write_0 rfl ?_
    refine e_if_lt (tgt := 11) dX8_write_1 (by decide) (fun c1 => ?_) (fun c1 => ?_)
    · replace hf := ifp hf c1
      refine e_bipush dX8_write_11 ⟨by decide, by decide, by decide⟩ ?_
      obtain rfl := Option.some.inj hf
      exact e_ireturn dX8_write_13 rfl ⟨rfl, rfl⟩
    · replace hf := ifn hf c1
      refine e_iload_n dX8_write_4 rfl ?_
      refine e_sipush dX8_write_5 ⟨by decide, by decide, by decide⟩ ?_
      refine e_icmp_le (tgt := 14) dX8_write_8 (by decide) (fun c8 => ?_) (fun c8 => ?_)
      · replace hf := ifp hf c8
        refine e_aload_n dX8_write_14 rfl ?_
        refine e_getR dX8_write_15 rfl fl_191 rfl rfl ?_
        obtain ⟨r18, e18, hf⟩ := bd_some hf
        refine e_callV0i dX8_write_18 rfl lk_235 ⟨rfl, rfl, Nat.le_of_ble_eq_true rfl, Nat.le_of_ble_eq_true rfl⟩ rfl rfl (Nat.le_of_ble_eq_true rfl) (q_X5_isFull h    e18) ?_
        refine e_if_eq (tgt := 27) dX8_write_21 (by decide) (fun c21 => ?_) (fun c21 => ?_)
        · replace hf := ifp hf c21
          refine e_aload_n dX8_write_27 rfl ?_
          refine e_getR dX8_write_28 rfl fl_191 rfl rfl ?_
          refine e_iload_n dX8_write_31 rfl ?_
          obtain ⟨q32, e32, hf⟩ := bd_some hf
          refine e_callV1i dX8_write_32 rfl lk_239 ⟨rfl, rfl, Nat.le_of_ble_eq_true rfl, Nat.le_of_ble_eq_true rfl⟩ rfl rfl (Nat.le_of_ble_eq_true rfl) (q_X5_add h   l1 e32) ?_
          obtain rfl := Option.some.inj hf
          exact e_ireturn dX8_write_35 rfl ⟨rfl, rfl⟩
        · replace hf := ifn hf c21
          refine e_bipush dX8_write_24 ⟨by decide, by decide, by decide⟩ ?_
          obtain rfl := Option.some.inj hf
          exact e_ireturn dX8_write_26 rfl ⟨rfl, rfl⟩
      · replace hf := ifn hf c8
        refine e_bipush dX8_write_11 ⟨by decide, by decide, by decide⟩ ?_
        obtain rfl := Option.some.inj hf
        exact e_ireturn dX8_write_13 rfl ⟨rfl, rfl⟩
  exact Cn_of rfl (fun _ => Nat.le_of_ble_eq_true rfl) ⟨rfl, rfl⟩ (e_pad 0 key)
theorem lk_248 : VLk "StarRight" 83 m_X5_clear 0 := ⟨tw_248, tw_249, tw_250, tw_2, tw_251, by decide +kernel⟩
abbrev m_X8_wipe : MI := (yX8_wipe, cX8_wipe, 1, some .int, { frames := 1, cells := 0, slots := 0, locals := 21 })
def p_X8_wipe (h : Mem)   : Option (Int × Mem) :=
  bd (p_X5_clear h ) (fun q4 => some (q4.1, q4.2))
set_option maxRecDepth 20000 in
theorem q_X8_wipe (h : Mem)    {X : Int × Mem} (hf : p_X8_wipe h   = some X) : Cn m_X8_wipe [vr 0] h (fun r h' => r = some (vi X.1) ∧ h' = X.2) := by
  unfold p_X8_wipe at hf
  have key : E m_X8_wipe none (fun r h' => r = some (vi X.1) ∧ h' = X.2) 0 [some (vr 0)] [] h := by
    refine e_aload_n dX8_wipe_0 rfl ?_
    refine e_getR dX8_wipe_1 rfl fl_191 rfl rfl ?_
    obtain ⟨q4, e4, hf⟩ := bd_some hf
    refine e_callV0i dX8_wipe_4 rfl lk_248 ⟨rfl, rfl, Nat.le_of_ble_eq_true rfl, Nat.le_of_ble_eq_true rfl⟩ rfl rfl (Nat.le_of_ble_eq_true rfl) (q_X5_clear h    e4) ?_
    obtain rfl := Option.some.inj hf
    exact e_ireturn dX8_wipe_7 rfl ⟨rfl, rfl⟩
  exact Cn_of rfl (fun _ => Nat.le_of_ble_eq_true rfl) ⟨rfl, rfl⟩ (e_pad 0 key)
theorem lk_256 : VLk "StarRight" 87 m_X5_firstFault 0 := ⟨tw_256, tw_257, tw_258, tw_2, tw_259, by decide +kernel⟩
abbrev m_X8_fault : MI := (yX8_fault, cX8_fault, 1, some .int, { frames := 5, cells := 0, slots := 0, locals := 112 })
def p_X8_fault (h : Mem)   : Option (Int) :=
  bd (p_X5_firstFault h ) (fun r4 => some r4)
set_option maxRecDepth 20000 in
theorem q_X8_fault (h : Mem)    {X : Int} (hf : p_X8_fault h   = some X) : Cn m_X8_fault [vr 0] h (fun r h' => r = some (vi X) ∧ h' = h) := by
  unfold p_X8_fault at hf
  have key : E m_X8_fault none (fun r h' => r = some (vi X) ∧ h' = h) 0 [some (vr 0)] [] h := by
    refine e_aload_n dX8_fault_0 rfl ?_
    refine e_getR dX8_fault_1 rfl fl_191 rfl rfl ?_
    obtain ⟨r4, e4, hf⟩ := bd_some hf
    refine e_callV0i dX8_fault_4 rfl lk_256 ⟨rfl, rfl, Nat.le_of_ble_eq_true rfl, Nat.le_of_ble_eq_true rfl⟩ rfl rfl (Nat.le_of_ble_eq_true rfl) (q_X5_firstFault h    e4) ?_
    obtain rfl := Option.some.inj hf
    exact e_ireturn dX8_fault_7 rfl ⟨rfl, rfl⟩
  exact Cn_of rfl (fun _ => Nat.le_of_ble_eq_true rfl) ⟨rfl, rfl⟩ (e_pad 0 key)
theorem lk_300 : VLk "StarRight" 104 m_X5_tellParts 2 := ⟨tw_300, tw_301, tw_302, tw_2, tw_303, by decide +kernel⟩
theorem lk_284 : VLk "StarRight" 90 m_X6_clear 0 := ⟨tw_284, tw_285, tw_286, tw_4, tw_287, by decide +kernel⟩
theorem lk_288 : VLk "StarRight" 92 m_X4_clear 0 := ⟨tw_288, tw_289, tw_290, tw_3, tw_291, by decide +kernel⟩
theorem lk_292 : VLk "StarRight" 93 m_X0_clear 0 := ⟨tw_292, tw_293, tw_294, tw_7, tw_295, by decide +kernel⟩
theorem lk_296 : VLk "StarRight" 98 m_X5_law 0 := ⟨tw_296, tw_297, tw_298, tw_2, tw_299, by decide +kernel⟩
abbrev m_X8_night : MI := (yX8_night, cX8_night, 1, some .int, { frames := 5, cells := 0, slots := 0, locals := 112 })
def p_X8_night (h : Mem)   : Option (Int × Mem) :=
  bd (p_X5_firstFault h ) (fun r4 => if r4 = (-9) then (bd (p_X6_clear h 7) (fun h19 => bd (p_X4_clear h19 ) (fun h26 => bd (p_X0_clear h26 ) (fun h33 => bd (p_X5_law (up (up h33 17 1 0) 23 1 0) ) (fun r57 => bd (p_X5_tellParts (up (up (up h33 17 1 0) 23 1 0) 0 11 r57) 7) (fun h75 => some (wr ((wr (10 * (h75 7 4))) + (h75 3 3)), h75))))))) else (some ((-3), h)))
set_option maxRecDepth 20000 in
theorem q_X8_night (h : Mem)    {X : Int × Mem} (hf : p_X8_night h   = some X) : Cn m_X8_night [vr 0] h (fun r h' => r = some (vi X.1) ∧ h' = X.2) := by
  unfold p_X8_night at hf
  have key : E m_X8_night none (fun r h' => r = some (vi X.1) ∧ h' = X.2) 0 [some (vr 0)] [] h := by
    refine e_aload_n dX8_night_0 rfl ?_
    refine e_getR dX8_night_1 rfl fl_191 rfl rfl ?_
    obtain ⟨r4, e4, hf⟩ := bd_some hf
    refine e_callV0i dX8_night_4 rfl lk_256 ⟨rfl, rfl, Nat.le_of_ble_eq_true rfl, Nat.le_of_ble_eq_true rfl⟩ rfl rfl (Nat.le_of_ble_eq_true rfl) (q_X5_firstFault h    e4) ?_
    refine e_bipush dX8_night_7 ⟨by decide, by decide, by decide⟩ ?_
    refine e_icmp_eq (tgt := 15) dX8_night_9 (by decide) (fun c9 => ?_) (fun c9 => ?_)
    · replace hf := ifp hf c9
      refine e_aload_n dX8_night_15 rfl ?_
      refine e_getR dX8_night_16 rfl fl_193 rfl rfl ?_
      obtain ⟨h19, e19, hf⟩ := bd_some hf
      refine e_callV0v dX8_night_19 rfl lk_284 ⟨rfl, rfl, Nat.le_of_ble_eq_true rfl, Nat.le_of_ble_eq_true rfl⟩ rfl rfl (Nat.le_of_ble_eq_true rfl) (q_X6_clear h 7 isT7  e19) ?_
      refine e_aload_n dX8_night_22 rfl ?_
      refine e_getR dX8_night_23 rfl fl_192 rfl rfl ?_
      obtain ⟨h26, e26, hf⟩ := bd_some hf
      refine e_callV0v dX8_night_26 rfl lk_288 ⟨rfl, rfl, Nat.le_of_ble_eq_true rfl, Nat.le_of_ble_eq_true rfl⟩ rfl rfl (Nat.le_of_ble_eq_true rfl) (q_X4_clear h19    e26) ?_
      refine e_aload_n dX8_night_29 rfl ?_
      refine e_getR dX8_night_30 rfl fl_198 rfl rfl ?_
      obtain ⟨h33, e33, hf⟩ := bd_some hf
      refine e_callV0v dX8_night_33 rfl lk_292 ⟨rfl, rfl, Nat.le_of_ble_eq_true rfl, Nat.le_of_ble_eq_true rfl⟩ rfl rfl (Nat.le_of_ble_eq_true rfl) (q_X0_clear h26    e33) ?_
      refine e_aload_n dX8_night_36 rfl ?_
      refine e_getR dX8_night_37 rfl fl_195 rfl rfl ?_
      refine e_iconst dX8_night_40 ⟨by decide, by decide⟩ ?_
      refine e_putI (t := 2) (kz := 1) rfl dX8_night_41 rfl fp_112 rfl rfl (Or.inr ⟨rfl, by decide⟩) ?_
      refine e_aload_n dX8_night_44 rfl ?_
      refine e_getR dX8_night_45 rfl fl_196 rfl rfl ?_
      refine e_iconst dX8_night_48 ⟨by decide, by decide⟩ ?_
      refine e_putI (t := 2) (kz := 1) rfl dX8_night_49 rfl fp_112 rfl rfl (Or.inr ⟨rfl, by decide⟩) ?_
      refine e_aload_n dX8_night_52 rfl ?_
      refine e_aload_n dX8_night_53 rfl ?_
      refine e_getR dX8_night_54 rfl fl_191 rfl rfl ?_
      obtain ⟨r57, e57, hf⟩ := bd_some hf
      refine e_callV0i dX8_night_57 rfl lk_296 ⟨rfl, rfl, Nat.le_of_ble_eq_true rfl, Nat.le_of_ble_eq_true rfl⟩ rfl rfl (Nat.le_of_ble_eq_true rfl) (q_X5_law (up (up h33 17 1 0) 23 1 0)    e57) ?_
      refine e_putI (t := 0) (kz := 11) rfl dX8_night_60 rfl fp_202 rfl rfl (Or.inl rfl) ?_
      refine e_aload_n dX8_night_63 rfl ?_
      refine e_getR dX8_night_64 rfl fl_191 rfl rfl ?_
      refine e_aload_n dX8_night_67 rfl ?_
      refine e_getR dX8_night_68 rfl fl_193 rfl rfl ?_
      refine e_aload_n dX8_night_71 rfl ?_
      refine e_getR dX8_night_72 rfl fl_192 rfl rfl ?_
      obtain ⟨h75, e75, hf⟩ := bd_some hf
      refine e_callV2v dX8_night_75 rfl lk_300 ⟨rfl, rfl, Nat.le_of_ble_eq_true rfl, Nat.le_of_ble_eq_true rfl⟩ rfl rfl (Nat.le_of_ble_eq_true rfl) (q_X5_tellParts (up (up (up h33 17 1 0) 23 1 0) 0 11 r57) 7 isT7  e75) ?_
      refine e_bipush dX8_night_78 ⟨by decide, by decide, by decide⟩ ?_
      refine e_aload_n dX8_night_80 rfl ?_
      refine e_getR dX8_night_81 rfl fl_193 rfl rfl ?_
      refine e_getI (kz := 4) rfl dX8_night_84 rfl fl_76 rfl rfl (Or.inl rfl) ?_
      refine e_imul dX8_night_87 ?_
      refine e_aload_n dX8_night_88 rfl ?_
      refine e_getR dX8_night_89 rfl fl_192 rfl rfl ?_
      refine e_getI (kz := 3) rfl dX8_night_92 rfl fl_50 rfl rfl (Or.inl rfl) ?_
      refine e_iadd dX8_night_95 ?_
      obtain rfl := Option.some.inj hf
      exact e_ireturn dX8_night_96 rfl ⟨rfl, rfl⟩
    · replace hf := ifn hf c9
      refine e_bipush dX8_night_12 ⟨by decide, by decide, by decide⟩ ?_
      obtain rfl := Option.some.inj hf
      exact e_ireturn dX8_night_14 rfl ⟨rfl, rfl⟩
  exact Cn_of rfl (fun _ => Nat.le_of_ble_eq_true rfl) ⟨rfl, rfl⟩ (e_pad 0 key)
theorem lk_316 : VLk "StarRight" 123 m_X6_shadedRoofs 0 := ⟨tw_316, tw_317, tw_318, tw_4, tw_319, by decide +kernel⟩
abbrev m_X8_about : MI := (yX8_about, cX8_about, 2, some .int, { frames := 4, cells := 0, slots := 0, locals := 89 })
def p_X8_about (h : Mem)  (l1 : Int) : Option (Int) :=
  if l1 = 0 then (some (h 7 4)) else (if l1 = 1 then (some (h 3 3)) else (if l1 = 2 then (some (h 0 11)) else (if l1 = 3 then (some (h 7 6)) else (if l1 = 4 then (if h 7 7 = 0 then (some 0) else (some 1)) else (if l1 = 5 then (some (h 7 5)) else (if l1 = 6 then (bd (p_X6_shadedRoofs h 7) (fun r113 => some r113)) else (if l1 = 7 then (some (h 33 3)) else (if l1 = 8 then (some (h 37 3)) else (if l1 = 9 then (some (h 1 1)) else (some (-2)))))))))))
set_option maxRecDepth 20000 in
theorem q_X8_about (h : Mem)   (l1 : Int) {X : Int} (hf : p_X8_about h  l1 = some X) : Cn m_X8_about [vr 0, vi l1] h (fun r h' => r = some (vi X) ∧ h' = h) := by
  unfold p_X8_about at hf
  have key : E m_X8_about none (fun r h' => r = some (vi X) ∧ h' = h) 0 [some (vr 0), some (vi l1)] [] h := by
    refine e_iload_n dX8_about_0 rfl ?_
    by_cases c1_0 : l1 = 0
    · replace hf := ifp hf c1_0
      refine e_tswIn (off := 55) (tgt := 56) dX8_about_1 (by omega) (by omega) (by rw [c1_0]; rfl) (by decide) ?_
      refine e_aload_n dX8_about_56 rfl ?_
      refine e_getR dX8_about_57 rfl fl_193 rfl rfl ?_
      refine e_getI (kz := 4) rfl dX8_about_60 rfl fl_76 rfl rfl (Or.inl rfl) ?_
      obtain rfl := Option.some.inj hf
      exact e_ireturn dX8_about_63 rfl ⟨rfl, rfl⟩
    replace hf := ifn hf c1_0
    by_cases c1_1 : l1 = 1
    · replace hf := ifp hf c1_1
      refine e_tswIn (off := 63) (tgt := 64) dX8_about_1 (by omega) (by omega) (by rw [c1_1]; rfl) (by decide) ?_
      refine e_aload_n dX8_about_64 rfl ?_
      refine e_getR dX8_about_65 rfl fl_192 rfl rfl ?_
      refine e_getI (kz := 3) rfl dX8_about_68 rfl fl_50 rfl rfl (Or.inl rfl) ?_
      obtain rfl := Option.some.inj hf
      exact e_ireturn dX8_about_71 rfl ⟨rfl, rfl⟩
    replace hf := ifn hf c1_1
    by_cases c1_2 : l1 = 2
    · replace hf := ifp hf c1_2
      refine e_tswIn (off := 71) (tgt := 72) dX8_about_1 (by omega) (by omega) (by rw [c1_2]; rfl) (by decide) ?_
      refine e_aload_n dX8_about_72 rfl ?_
      refine e_getI (kz := 11) rfl dX8_about_73 rfl fl_202 rfl rfl (Or.inl rfl) ?_
      obtain rfl := Option.some.inj hf
      exact e_ireturn dX8_about_76 rfl ⟨rfl, rfl⟩
    replace hf := ifn hf c1_2
    by_cases c1_3 : l1 = 3
    · replace hf := ifp hf c1_3
      refine e_tswIn (off := 76) (tgt := 77) dX8_about_1 (by omega) (by omega) (by rw [c1_3]; rfl) (by decide) ?_
      refine e_aload_n dX8_about_77 rfl ?_
      refine e_getR dX8_about_78 rfl fl_193 rfl rfl ?_
      refine e_getI (kz := 6) rfl dX8_about_81 rfl fl_80 rfl rfl (Or.inl rfl) ?_
      obtain rfl := Option.some.inj hf
      exact e_ireturn dX8_about_84 rfl ⟨rfl, rfl⟩
    replace hf := ifn hf c1_3
    by_cases c1_4 : l1 = 4
    · replace hf := ifp hf c1_4
      refine e_tswIn (off := 84) (tgt := 85) dX8_about_1 (by omega) (by omega) (by rw [c1_4]; rfl) (by decide) ?_
      refine e_aload_n dX8_about_85 rfl ?_
      refine e_getR dX8_about_86 rfl fl_193 rfl rfl ?_
      refine e_getI (kz := 7) rfl dX8_about_89 rfl fl_83 rfl rfl (Or.inr rfl) ?_
      refine e_if_eq (tgt := 99) dX8_about_92 (by decide) (fun c92 => ?_) (fun c92 => ?_)
      · replace hf := ifp hf c92
        refine e_iconst dX8_about_99 ⟨by decide, by decide⟩ ?_
        obtain rfl := Option.some.inj hf
        exact e_ireturn dX8_about_100 rfl ⟨rfl, rfl⟩
      · replace hf := ifn hf c92
        refine e_iconst dX8_about_95 ⟨by decide, by decide⟩ ?_
        refine e_goto (tgt := 100) dX8_about_96 (by decide) ?_
        obtain rfl := Option.some.inj hf
        exact e_ireturn dX8_about_100 rfl ⟨rfl, rfl⟩
    replace hf := ifn hf c1_4
    by_cases c1_5 : l1 = 5
    · replace hf := ifp hf c1_5
      refine e_tswIn (off := 100) (tgt := 101) dX8_about_1 (by omega) (by omega) (by rw [c1_5]; rfl) (by decide) ?_
      refine e_aload_n dX8_about_101 rfl ?_
      refine e_getR dX8_about_102 rfl fl_193 rfl rfl ?_
      refine e_getI (kz := 5) rfl dX8_about_105 rfl fl_78 rfl rfl (Or.inl rfl) ?_
      obtain rfl := Option.some.inj hf
      exact e_ireturn dX8_about_108 rfl ⟨rfl, rfl⟩
    replace hf := ifn hf c1_5
    by_cases c1_6 : l1 = 6
    · replace hf := ifp hf c1_6
      refine e_tswIn (off := 108) (tgt := 109) dX8_about_1 (by omega) (by omega) (by rw [c1_6]; rfl) (by decide) ?_
      refine e_aload_n dX8_about_109 rfl ?_
      refine e_getR dX8_about_110 rfl fl_193 rfl rfl ?_
      obtain ⟨r113, e113, hf⟩ := bd_some hf
      refine e_callV0i dX8_about_113 rfl lk_316 ⟨rfl, rfl, Nat.le_of_ble_eq_true rfl, Nat.le_of_ble_eq_true rfl⟩ rfl rfl (Nat.le_of_ble_eq_true rfl) (q_X6_shadedRoofs h 7 isT7  e113) ?_
      obtain rfl := Option.some.inj hf
      exact e_ireturn dX8_about_116 rfl ⟨rfl, rfl⟩
    replace hf := ifn hf c1_6
    by_cases c1_7 : l1 = 7
    · replace hf := ifp hf c1_7
      refine e_tswIn (off := 116) (tgt := 117) dX8_about_1 (by omega) (by omega) (by rw [c1_7]; rfl) (by decide) ?_
      refine e_aload_n dX8_about_117 rfl ?_
      refine e_getR dX8_about_118 rfl fl_198 rfl rfl ?_
      refine e_getI (kz := 3) rfl dX8_about_121 rfl fl_147 rfl rfl (Or.inl rfl) ?_
      obtain rfl := Option.some.inj hf
      exact e_ireturn dX8_about_124 rfl ⟨rfl, rfl⟩
    replace hf := ifn hf c1_7
    by_cases c1_8 : l1 = 8
    · replace hf := ifp hf c1_8
      refine e_tswIn (off := 124) (tgt := 125) dX8_about_1 (by omega) (by omega) (by rw [c1_8]; rfl) (by decide) ?_
      refine e_aload_n dX8_about_125 rfl ?_
      refine e_getR dX8_about_126 rfl fl_199 rfl rfl ?_
      refine e_getI (kz := 3) rfl dX8_about_129 rfl fl_167 rfl rfl (Or.inl rfl) ?_
      obtain rfl := Option.some.inj hf
      exact e_ireturn dX8_about_132 rfl ⟨rfl, rfl⟩
    replace hf := ifn hf c1_8
    by_cases c1_9 : l1 = 9
    · replace hf := ifp hf c1_9
      refine e_tswIn (off := 132) (tgt := 133) dX8_about_1 (by omega) (by omega) (by rw [c1_9]; rfl) (by decide) ?_
      refine e_aload_n dX8_about_133 rfl ?_
      refine e_getR dX8_about_134 rfl fl_191 rfl rfl ?_
      refine e_getI (kz := 1) rfl dX8_about_137 rfl fl_31 rfl rfl (Or.inl rfl) ?_
      obtain rfl := Option.some.inj hf
      exact e_ireturn dX8_about_140 rfl ⟨rfl, rfl⟩
    replace hf := ifn hf c1_9
    refine e_tswOut (tgt := 141) dX8_about_1 (by omega) (by decide) ?_
    refine e_bipush dX8_about_141 ⟨by decide, by decide, by decide⟩ ?_
    obtain rfl := Option.some.inj hf
    exact e_ireturn dX8_about_143 rfl ⟨rfl, rfl⟩
  exact Cn_of rfl (fun _ => Nat.le_of_ble_eq_true rfl) ⟨rfl, rfl⟩ (e_pad 0 key)
theorem lk_344 : VLk "StarRight" 144 m_X6_everyRoof 0 := ⟨tw_344, tw_321, tw_322, tw_4, tw_323, by decide +kernel⟩
theorem lk_353 : VLk "StarRight" 182 m_X2_survey 3 := ⟨tw_353, tw_354, tw_355, tw_6, tw_356, by decide +kernel⟩
abbrev m_X8_surveyTown : MI := (yX8_surveyTown, cX8_surveyTown, 1, none, { frames := 5, cells := 0, slots := 0, locals := 119 })
def p_X8_surveyTown (h : Mem)   : Option (Mem) :=
  bd (p_X6_everyRoof h 7) (fun r12 => bd (p_X2_survey h 7 r12 (h 0 11)) (fun h19 => some h19))
set_option maxRecDepth 20000 in
theorem q_X8_surveyTown (h : Mem)    {X : Mem} (hf : p_X8_surveyTown h   = some X) : Cn m_X8_surveyTown [vr 0] h (fun r h' => r = none ∧ h' = X) := by
  unfold p_X8_surveyTown at hf
  have key : E m_X8_surveyTown none (fun r h' => r = none ∧ h' = X) 0 [some (vr 0)] [] h := by
    refine e_aload_n dX8_surveyTown_0 rfl ?_
    refine e_getR dX8_surveyTown_1 rfl fl_197 rfl rfl ?_
    refine e_aload_n dX8_surveyTown_4 rfl ?_
    refine e_getR dX8_surveyTown_5 rfl fl_193 rfl rfl ?_
    refine e_aload_n dX8_surveyTown_8 rfl ?_
    refine e_getR dX8_surveyTown_9 rfl fl_193 rfl rfl ?_
    obtain ⟨r12, e12, hf⟩ := bd_some hf
    refine e_callV0i dX8_surveyTown_12 rfl lk_344 ⟨rfl, rfl, Nat.le_of_ble_eq_true rfl, Nat.le_of_ble_eq_true rfl⟩ rfl rfl (Nat.le_of_ble_eq_true rfl) (q_X6_everyRoof h 7 isT7  e12) ?_
    refine e_aload_n dX8_surveyTown_15 rfl ?_
    refine e_getI (kz := 11) rfl dX8_surveyTown_16 rfl fl_202 rfl rfl (Or.inl rfl) ?_
    obtain ⟨h19, e19, hf⟩ := bd_some hf
    refine e_callV3v dX8_surveyTown_19 rfl lk_353 ⟨rfl, rfl, Nat.le_of_ble_eq_true rfl, Nat.le_of_ble_eq_true rfl⟩ rfl rfl (Nat.le_of_ble_eq_true rfl) (q_X2_survey h 7 isT7 r12 (h 0 11) e19) ?_
    obtain rfl := Option.some.inj hf
    exact e_return dX8_surveyTown_22 rfl ⟨rfl, rfl⟩
  exact Cn_of rfl (fun _ => Nat.le_of_ble_eq_true rfl) ⟨rfl, rfl⟩ (e_pad 0 key)
theorem lk_374 : VLk "StarRight" 157 m_X4_cellAt 2 := ⟨tw_374, tw_375, tw_376, tw_3, tw_377, by decide +kernel⟩
theorem lk_385 : VLk "StarRight" 160 m_X2_holderOver 1 := ⟨tw_385, tw_386, tw_387, tw_6, tw_388, by decide +kernel⟩
abbrev m_X8_starsHeldNow : MI := (yX8_starsHeldNow, cX8_starsHeldNow, 4, some .int, { frames := 2, cells := 0, slots := 0, locals := 44 })
def p_X8_starsHeldNow_47 (K4 : Int → Int → Int → Option (Int)) (h : Mem)   (l1 l2 l3 : Int) : Option (Int) :=
  K4 l1 l2 (wr (l3 + 1))
set_option maxRecDepth 20000 in
theorem q_X8_starsHeldNow_47 (K4 : Int → Int → Int → Option (Int)) (h : Mem)     (l1 l2 l3 : Int) {X : Int} (hK4 : ∀ (l1 l2 l3 : Int), K4 l1 l2 l3 = some X → E m_X8_starsHeldNow none (fun r h' => r = some (vi X) ∧ h' = h) 4 [some (vr 0), some (vi l1), some (vi l2), some (vi l3)] [] h) (hf : p_X8_starsHeldNow_47 K4 h   l1 l2 l3 = some X) : E m_X8_starsHeldNow none (fun r h' => r = some (vi X) ∧ h' = h) 47 [some (vr 0), some (vi l1), some (vi l2), some (vi l3)] [] h := by
  unfold p_X8_starsHeldNow_47 at hf
  refine e_iinc (ls' := [some (vr 0), some (vi l1), some (vi l2), some (vi (wr (l3 + 1)))]) dX8_starsHeldNow_47 rfl (Nat.le_of_ble_eq_true rfl) rfl ?_
  refine e_goto (tgt := 4) dX8_starsHeldNow_50 (by decide) ?_
  exact e_mask [true, true, true, true] (hK4 l1 l2 (wr (l3 + 1)) hf)
def p_X8_starsHeldNow_4 (K4 : Int → Int → Int → Option (Int)) (h : Mem)   (l1 l2 l3 : Int) : Option (Int) :=
  if h 3 3 ≤ l3 then (some l2) else (bd (p_X4_cellAt h l3 (h 7 6)) (fun r31 => bd (p_X2_holderOver h r31) (fun r34 => if r34 = l1 then (p_X8_starsHeldNow_47 K4 h   l1 (bor l2 (bshl 1 l3)) l3) else (p_X8_starsHeldNow_47 K4 h   l1 l2 l3))))
set_option maxRecDepth 20000 in
theorem q_X8_starsHeldNow_4 (K4 : Int → Int → Int → Option (Int)) (h : Mem)     (l1 l2 l3 : Int) {X : Int} (hK4 : ∀ (l1 l2 l3 : Int), K4 l1 l2 l3 = some X → E m_X8_starsHeldNow none (fun r h' => r = some (vi X) ∧ h' = h) 4 [some (vr 0), some (vi l1), some (vi l2), some (vi l3)] [] h) (hf : p_X8_starsHeldNow_4 K4 h   l1 l2 l3 = some X) : E m_X8_starsHeldNow none (fun r h' => r = some (vi X) ∧ h' = h) 4 [some (vr 0), some (vi l1), some (vi l2), some (vi l3)] [] h := by
  unfold p_X8_starsHeldNow_4 at hf
  refine e_iload_n dX8_starsHeldNow_4 rfl ?_
  refine e_aload_n dX8_starsHeldNow_5 rfl ?_
  refine e_getR dX8_starsHeldNow_6 rfl fl_192 rfl rfl ?_
  refine e_getI (kz := 3) rfl dX8_starsHeldNow_9 rfl fl_50 rfl rfl (Or.inl rfl) ?_
  refine e_icmp_ge (tgt := 53) dX8_starsHeldNow_12 (by decide) (fun c12 => ?_) (fun c12 => ?_)
  · replace hf := ifp hf c12
    refine e_iload_n dX8_starsHeldNow_53 rfl ?_
    obtain rfl := Option.some.inj hf
    exact e_ireturn dX8_starsHeldNow_54 rfl ⟨rfl, rfl⟩
  · replace hf := ifn hf c12
    refine e_aload_n dX8_starsHeldNow_15 rfl ?_
    refine e_getR dX8_starsHeldNow_16 rfl fl_197 rfl rfl ?_
    refine e_aload_n dX8_starsHeldNow_19 rfl ?_
    refine e_getR dX8_starsHeldNow_20 rfl fl_192 rfl rfl ?_
    refine e_iload_n dX8_starsHeldNow_23 rfl ?_
    refine e_aload_n dX8_starsHeldNow_24 rfl ?_
    refine e_getR dX8_starsHeldNow_25 rfl fl_193 rfl rfl ?_
    refine e_getI (kz := 6) rfl dX8_starsHeldNow_28 rfl fl_80 rfl rfl (Or.inl rfl) ?_
    obtain ⟨r31, e31, hf⟩ := bd_some hf
    refine e_callV2i dX8_starsHeldNow_31 rfl lk_374 ⟨rfl, rfl, Nat.le_of_ble_eq_true rfl, Nat.le_of_ble_eq_true rfl⟩ rfl rfl (Nat.le_of_ble_eq_true rfl) (q_X4_cellAt h   l3 (h 7 6) e31) ?_
    obtain ⟨r34, e34, hf⟩ := bd_some hf
    refine e_callV1i dX8_starsHeldNow_34 rfl lk_385 ⟨rfl, rfl, Nat.le_of_ble_eq_true rfl, Nat.le_of_ble_eq_true rfl⟩ rfl rfl (Nat.le_of_ble_eq_true rfl) (q_X2_holderOver h   r31 e34) ?_
    refine e_iload_n dX8_starsHeldNow_37 rfl ?_
    refine e_icmp_ne (tgt := 47) dX8_starsHeldNow_38 (by decide) (fun c38 => ?_) (fun c38 => ?_)
    · replace hf := ifn hf c38
      exact e_mask [true, true, true, true] (q_X8_starsHeldNow_47 K4 h     l1 l2 l3 hK4 hf)
    · replace hf := ifp hf c38
      refine e_iload_n dX8_starsHeldNow_41 rfl ?_
      refine e_iconst dX8_starsHeldNow_42 ⟨by decide, by decide⟩ ?_
      refine e_iload_n dX8_starsHeldNow_43 rfl ?_
      refine e_ishl dX8_starsHeldNow_44 ?_
      refine e_ior dX8_starsHeldNow_45 ?_
      refine e_istore_n (ls' := [some (vr 0), some (vi l1), some (vi (bor l2 (bshl 1 l3))), some (vi l3)]) dX8_starsHeldNow_46 (Nat.le_of_ble_eq_true rfl) rfl ?_
      exact e_mask [true, true, true, true] (q_X8_starsHeldNow_47 K4 h     l1 (bor l2 (bshl 1 l3)) l3 hK4 hf)
def p_X8_starsHeldNow_L4  (h : Mem)   : Nat → Int → Int → Int → Option (Int)
  | 0, _, _, _ => none
  | n + 1, l1, l2, l3 => p_X8_starsHeldNow_4 (fun (l1 l2 l3 : Int) => p_X8_starsHeldNow_L4  h   n l1 l2 l3) h   l1 l2 l3
theorem q_X8_starsHeldNow_L4  (h : Mem)     {X : Int}  : ∀ (n : Nat) (l1 l2 l3 : Int), p_X8_starsHeldNow_L4  h   n l1 l2 l3 = some X → E m_X8_starsHeldNow none (fun r h' => r = some (vi X) ∧ h' = h) 4 [some (vr 0), some (vi l1), some (vi l2), some (vi l3)] [] h := by
  intro n
  induction n with
  | zero => intro l1 l2 l3 hf; have hf2 : (none : Option (Int)) = some X := hf; cases hf2
  | succ n ih => intro l1 l2 l3 hf; exact q_X8_starsHeldNow_4 (fun (l1 l2 l3 : Int) => p_X8_starsHeldNow_L4  h   n l1 l2 l3) h     l1 l2 l3 (fun l1 l2 l3 hf => ih l1 l2 l3 hf) hf
def p_X8_starsHeldNow (h : Mem)  (l1 : Int) : Option (Int) :=
  p_X8_starsHeldNow_L4  h   300  l1 0 0
set_option maxRecDepth 20000 in
theorem q_X8_starsHeldNow (h : Mem)   (l1 : Int) {X : Int} (hf : p_X8_starsHeldNow h  l1 = some X) : Cn m_X8_starsHeldNow [vr 0, vi l1] h (fun r h' => r = some (vi X) ∧ h' = h) := by
  unfold p_X8_starsHeldNow at hf
  have key : E m_X8_starsHeldNow none (fun r h' => r = some (vi X) ∧ h' = h) 0 [some (vr 0), some (vi l1), none, none] [] h := by
    refine e_iconst dX8_starsHeldNow_0 ⟨by decide, by decide⟩ ?_
    refine e_istore_n (ls' := [some (vr 0), some (vi l1), some (vi 0), none]) dX8_starsHeldNow_1 (Nat.le_of_ble_eq_true rfl) rfl ?_
    refine e_iconst dX8_starsHeldNow_2 ⟨by decide, by decide⟩ ?_
    refine e_istore_n (ls' := [some (vr 0), some (vi l1), some (vi 0), some (vi 0)]) dX8_starsHeldNow_3 (Nat.le_of_ble_eq_true rfl) rfl ?_
    exact e_mask [true, true, true, true] (q_X8_starsHeldNow_L4  h      300  l1 0 0 hf)
  exact Cn_of rfl (fun _ => Nat.le_of_ble_eq_true rfl) ⟨rfl, rfl⟩ (e_pad 2 key)
theorem lk_343 : VLk "StarRight" 131 m_X6_hasRoof 1 := ⟨tw_343, tw_329, tw_330, tw_4, tw_331, by decide +kernel⟩
theorem lk_345 : VLk "StarRight" 147 m_X6_cellsSeen 2 := ⟨tw_345, tw_346, tw_347, tw_4, tw_348, by decide +kernel⟩
theorem lk_349 : VLk "StarRight" 151 m_X8_surveyTown 0 := ⟨tw_349, tw_351, twp_7, tw_1, tw_352, by decide +kernel⟩
theorem lk_370 : VLk "StarRight" 154 m_X8_starsHeldNow 1 := ⟨tw_370, tw_372, twp_9, tw_1, tw_373, by decide +kernel⟩
abbrev m_X8_roof : MI := (yX8_roof, cX8_roof, 3, some .int, { frames := 6, cells := 0, slots := 0, locals := 139 })
def p_X8_roof (h : Mem)  (l1 l2 : Int) : Option (Int × Mem) :=
  bd (p_X6_hasRoof h 7 l1) (fun r5 => if r5 = 0 then (some ((-1), h)) else (if l2 = 0 then (gd (0 ≤ l1 ∧ l1 < 5) (some (h 8 l1, h))) else (if l2 = 1 then (gd (0 ≤ l1 ∧ l1 < 5) (some (h 9 l1, h))) else (if l2 = 2 then (gd (0 ≤ l1 ∧ l1 < 5) (some (h 10 l1, h))) else (if l2 = 3 then (bd (p_X6_everyRoof h 7) (fun r87 => bd (p_X6_cellsSeen h 7 l1 r87) (fun r90 => some (r90, h)))) else (if l2 = 4 then (bd (p_X8_surveyTown h ) (fun h95 => bd (p_X8_starsHeldNow h95 l1) (fun r100 => some (r100, h95)))) else (some ((-2), h))))))))
set_option maxRecDepth 20000 in
theorem q_X8_roof (h : Mem)   (l1 l2 : Int) {X : Int × Mem} (hf : p_X8_roof h  l1 l2 = some X) : Cn m_X8_roof [vr 0, vi l1, vi l2] h (fun r h' => r = some (vi X.1) ∧ h' = X.2) := by
  unfold p_X8_roof at hf
  have key : E m_X8_roof none (fun r h' => r = some (vi X.1) ∧ h' = X.2) 0 [some (vr 0), some (vi l1), some (vi l2)] [] h := by
    refine e_aload_n dX8_roof_0 rfl ?_
    refine e_getR dX8_roof_1 rfl fl_193 rfl rfl ?_
    refine e_iload_n dX8_roof_4 rfl ?_
    obtain ⟨r5, e5, hf⟩ := bd_some hf
    refine e_callV1i dX8_roof_5 rfl lk_343 ⟨rfl, rfl, Nat.le_of_ble_eq_true rfl, Nat.le_of_ble_eq_true rfl⟩ rfl rfl (Nat.le_of_ble_eq_true rfl) (q_X6_hasRoof h 7 isT7 l1 e5) ?_
    refine e_if_ne (tgt := 13) dX8_roof_8 (by decide) (fun c8 => ?_) (fun c8 => ?_)
    · replace hf := ifn hf c8
      refine e_iload_n dX8_roof_13 rfl ?_
      by_cases c14_0 : l2 = 0
      · replace hf := ifp hf c14_0
        refine e_tswIn (off := 34) (tgt := 48) dX8_roof_14 (by omega) (by omega) (by rw [c14_0]; rfl) (by decide) ?_
        refine e_aload_n dX8_roof_48 rfl ?_
        refine e_getR dX8_roof_49 rfl fl_193 rfl rfl ?_
        refine e_getR dX8_roof_52 rfl fl_68 rfl rfl ?_
        refine e_iload_n dX8_roof_55 rfl ?_
        obtain ⟨g56, hf⟩ := gd_some hf
        refine e_iald dX8_roof_56 rfl g56 ?_
        obtain rfl := Option.some.inj hf
        exact e_ireturn dX8_roof_57 rfl ⟨rfl, rfl⟩
      replace hf := ifn hf c14_0
      by_cases c14_1 : l2 = 1
      · replace hf := ifp hf c14_1
        refine e_tswIn (off := 44) (tgt := 58) dX8_roof_14 (by omega) (by omega) (by rw [c14_1]; rfl) (by decide) ?_
        refine e_aload_n dX8_roof_58 rfl ?_
        refine e_getR dX8_roof_59 rfl fl_193 rfl rfl ?_
        refine e_getR dX8_roof_62 rfl fl_70 rfl rfl ?_
        refine e_iload_n dX8_roof_65 rfl ?_
        obtain ⟨g66, hf⟩ := gd_some hf
        refine e_iald dX8_roof_66 rfl g66 ?_
        obtain rfl := Option.some.inj hf
        exact e_ireturn dX8_roof_67 rfl ⟨rfl, rfl⟩
      replace hf := ifn hf c14_1
      by_cases c14_2 : l2 = 2
      · replace hf := ifp hf c14_2
        refine e_tswIn (off := 54) (tgt := 68) dX8_roof_14 (by omega) (by omega) (by rw [c14_2]; rfl) (by decide) ?_
        refine e_aload_n dX8_roof_68 rfl ?_
        refine e_getR dX8_roof_69 rfl fl_193 rfl rfl ?_
        refine e_getR dX8_roof_72 rfl fl_72 rfl rfl ?_
        refine e_iload_n dX8_roof_75 rfl ?_
        obtain ⟨g76, hf⟩ := gd_some hf
        refine e_iald dX8_roof_76 rfl g76 ?_
        obtain rfl := Option.some.inj hf
        exact e_ireturn dX8_roof_77 rfl ⟨rfl, rfl⟩
      replace hf := ifn hf c14_2
      by_cases c14_3 : l2 = 3
      · replace hf := ifp hf c14_3
        refine e_tswIn (off := 64) (tgt := 78) dX8_roof_14 (by omega) (by omega) (by rw [c14_3]; rfl) (by decide) ?_
        refine e_aload_n dX8_roof_78 rfl ?_
        refine e_getR dX8_roof_79 rfl fl_193 rfl rfl ?_
        refine e_iload_n dX8_roof_82 rfl ?_
        refine e_aload_n dX8_roof_83 rfl ?_
        refine e_getR dX8_roof_84 rfl fl_193 rfl rfl ?_
        obtain ⟨r87, e87, hf⟩ := bd_some hf
        refine e_callV0i dX8_roof_87 rfl lk_344 ⟨rfl, rfl, Nat.le_of_ble_eq_true rfl, Nat.le_of_ble_eq_true rfl⟩ rfl rfl (Nat.le_of_ble_eq_true rfl) (q_X6_everyRoof h 7 isT7  e87) ?_
        obtain ⟨r90, e90, hf⟩ := bd_some hf
        refine e_callV2i dX8_roof_90 rfl lk_345 ⟨rfl, rfl, Nat.le_of_ble_eq_true rfl, Nat.le_of_ble_eq_true rfl⟩ rfl rfl (Nat.le_of_ble_eq_true rfl) (q_X6_cellsSeen h 7 isT7 l1 r87 e90) ?_
        obtain rfl := Option.some.inj hf
        exact e_ireturn dX8_roof_93 rfl ⟨rfl, rfl⟩
      replace hf := ifn hf c14_3
      by_cases c14_4 : l2 = 4
      · replace hf := ifp hf c14_4
        refine e_tswIn (off := 80) (tgt := 94) dX8_roof_14 (by omega) (by omega) (by rw [c14_4]; rfl) (by decide) ?_
        refine e_aload_n dX8_roof_94 rfl ?_
        obtain ⟨h95, e95, hf⟩ := bd_some hf
        refine e_callV0v dX8_roof_95 rfl lk_349 ⟨rfl, rfl, Nat.le_of_ble_eq_true rfl, Nat.le_of_ble_eq_true rfl⟩ rfl rfl (Nat.le_of_ble_eq_true rfl) (q_X8_surveyTown h    e95) ?_
        refine e_aload_n dX8_roof_98 rfl ?_
        refine e_iload_n dX8_roof_99 rfl ?_
        obtain ⟨r100, e100, hf⟩ := bd_some hf
        refine e_callV1i dX8_roof_100 rfl lk_370 ⟨rfl, rfl, Nat.le_of_ble_eq_true rfl, Nat.le_of_ble_eq_true rfl⟩ rfl rfl (Nat.le_of_ble_eq_true rfl) (q_X8_starsHeldNow h95   l1 e100) ?_
        obtain rfl := Option.some.inj hf
        exact e_ireturn dX8_roof_103 rfl ⟨rfl, rfl⟩
      replace hf := ifn hf c14_4
      refine e_tswOut (tgt := 104) dX8_roof_14 (by omega) (by decide) ?_
      refine e_bipush dX8_roof_104 ⟨by decide, by decide, by decide⟩ ?_
      obtain rfl := Option.some.inj hf
      exact e_ireturn dX8_roof_106 rfl ⟨rfl, rfl⟩
    · replace hf := ifp hf c8
      refine e_iconst dX8_roof_11 ⟨by decide, by decide⟩ ?_
      obtain rfl := Option.some.inj hf
      exact e_ireturn dX8_roof_12 rfl ⟨rfl, rfl⟩
  exact Cn_of rfl (fun _ => Nat.le_of_ble_eq_true rfl) ⟨rfl, rfl⟩ (e_pad 0 key)
theorem lk_393 : VLk "StarRight" 163 m_X4_hasStar 1 := ⟨tw_393, tw_379, tw_380, tw_3, tw_381, by decide +kernel⟩
theorem lk_394 : VLk "StarRight" 172 m_X2_payOf 3 := ⟨tw_394, tw_395, tw_396, tw_6, tw_397, by decide +kernel⟩
abbrev m_X8_star : MI := (yX8_star, cX8_star, 3, some .int, { frames := 6, cells := 0, slots := 0, locals := 139 })
def p_X8_star (h : Mem)  (l1 l2 : Int) : Option (Int × Mem) :=
  bd (p_X4_hasStar h l1) (fun r5 => if r5 = 0 then (some ((-1), h)) else (if l2 = 0 then (bd (p_X4_cellAt h l1 (h 7 6)) (fun r60 => some (r60, h))) else (if l2 = 1 then (gd (0 ≤ l1 ∧ l1 < 4) (some (h 5 l1, h))) else (if l2 = 2 then (gd (0 ≤ l1 ∧ l1 < 4) (some (h 6 l1, h))) else (if l2 = 3 then (bd (p_X8_surveyTown h ) (fun h85 => bd (p_X4_cellAt h85 l1 (h85 7 6)) (fun r104 => bd (p_X2_holderOver h85 r104) (fun r107 => some (r107, h85))))) else (if l2 = 4 then (bd (p_X8_surveyTown h ) (fun h112 => if h112 7 7 = 0 then (bd (p_X2_payOf h112 l1 (h112 7 6)) (fun r145 => some (r145, h112))) else (some (0, h112)))) else (some ((-2), h))))))))
set_option maxRecDepth 20000 in
theorem q_X8_star (h : Mem)   (l1 l2 : Int) {X : Int × Mem} (hf : p_X8_star h  l1 l2 = some X) : Cn m_X8_star [vr 0, vi l1, vi l2] h (fun r h' => r = some (vi X.1) ∧ h' = X.2) := by
  unfold p_X8_star at hf
  have key : E m_X8_star none (fun r h' => r = some (vi X.1) ∧ h' = X.2) 0 [some (vr 0), some (vi l1), some (vi l2)] [] h := by
    refine e_aload_n dX8_star_0 rfl ?_
    refine e_getR dX8_star_1 rfl fl_192 rfl rfl ?_
    refine e_iload_n dX8_star_4 rfl ?_
    obtain ⟨r5, e5, hf⟩ := bd_some hf
    refine e_callV1i dX8_star_5 rfl lk_393 ⟨rfl, rfl, Nat.le_of_ble_eq_true rfl, Nat.le_of_ble_eq_true rfl⟩ rfl rfl (Nat.le_of_ble_eq_true rfl) (q_X4_hasStar h   l1 e5) ?_
    refine e_if_ne (tgt := 13) dX8_star_8 (by decide) (fun c8 => ?_) (fun c8 => ?_)
    · replace hf := ifn hf c8
      refine e_iload_n dX8_star_13 rfl ?_
      by_cases c14_0 : l2 = 0
      · replace hf := ifp hf c14_0
        refine e_tswIn (off := 34) (tgt := 48) dX8_star_14 (by omega) (by omega) (by rw [c14_0]; rfl) (by decide) ?_
        refine e_aload_n dX8_star_48 rfl ?_
        refine e_getR dX8_star_49 rfl fl_192 rfl rfl ?_
        refine e_iload_n dX8_star_52 rfl ?_
        refine e_aload_n dX8_star_53 rfl ?_
        refine e_getR dX8_star_54 rfl fl_193 rfl rfl ?_
        refine e_getI (kz := 6) rfl dX8_star_57 rfl fl_80 rfl rfl (Or.inl rfl) ?_
        obtain ⟨r60, e60, hf⟩ := bd_some hf
        refine e_callV2i dX8_star_60 rfl lk_374 ⟨rfl, rfl, Nat.le_of_ble_eq_true rfl, Nat.le_of_ble_eq_true rfl⟩ rfl rfl (Nat.le_of_ble_eq_true rfl) (q_X4_cellAt h   l1 (h 7 6) e60) ?_
        obtain rfl := Option.some.inj hf
        exact e_ireturn dX8_star_63 rfl ⟨rfl, rfl⟩
      replace hf := ifn hf c14_0
      by_cases c14_1 : l2 = 1
      · replace hf := ifp hf c14_1
        refine e_tswIn (off := 50) (tgt := 64) dX8_star_14 (by omega) (by omega) (by rw [c14_1]; rfl) (by decide) ?_
        refine e_aload_n dX8_star_64 rfl ?_
        refine e_getR dX8_star_65 rfl fl_192 rfl rfl ?_
        refine e_getR dX8_star_68 rfl fl_46 rfl rfl ?_
        refine e_iload_n dX8_star_71 rfl ?_
        obtain ⟨g72, hf⟩ := gd_some hf
        refine e_iald dX8_star_72 rfl g72 ?_
        obtain rfl := Option.some.inj hf
        exact e_ireturn dX8_star_73 rfl ⟨rfl, rfl⟩
      replace hf := ifn hf c14_1
      by_cases c14_2 : l2 = 2
      · replace hf := ifp hf c14_2
        refine e_tswIn (off := 60) (tgt := 74) dX8_star_14 (by omega) (by omega) (by rw [c14_2]; rfl) (by decide) ?_
        refine e_aload_n dX8_star_74 rfl ?_
        refine e_getR dX8_star_75 rfl fl_192 rfl rfl ?_
        refine e_getR dX8_star_78 rfl fl_48 rfl rfl ?_
        refine e_iload_n dX8_star_81 rfl ?_
        obtain ⟨g82, hf⟩ := gd_some hf
        refine e_iald dX8_star_82 rfl g82 ?_
        obtain rfl := Option.some.inj hf
        exact e_ireturn dX8_star_83 rfl ⟨rfl, rfl⟩
      replace hf := ifn hf c14_2
      by_cases c14_3 : l2 = 3
      · replace hf := ifp hf c14_3
        refine e_tswIn (off := 70) (tgt := 84) dX8_star_14 (by omega) (by omega) (by rw [c14_3]; rfl) (by decide) ?_
        refine e_aload_n dX8_star_84 rfl ?_
        obtain ⟨h85, e85, hf⟩ := bd_some hf
        refine e_callV0v dX8_star_85 rfl lk_349 ⟨rfl, rfl, Nat.le_of_ble_eq_true rfl, Nat.le_of_ble_eq_true rfl⟩ rfl rfl (Nat.le_of_ble_eq_true rfl) (q_X8_surveyTown h    e85) ?_
        refine e_aload_n dX8_star_88 rfl ?_
        refine e_getR dX8_star_89 rfl fl_197 rfl rfl ?_
        refine e_aload_n dX8_star_92 rfl ?_
        refine e_getR dX8_star_93 rfl fl_192 rfl rfl ?_
        refine e_iload_n dX8_star_96 rfl ?_
        refine e_aload_n dX8_star_97 rfl ?_
        refine e_getR dX8_star_98 rfl fl_193 rfl rfl ?_
        refine e_getI (kz := 6) rfl dX8_star_101 rfl fl_80 rfl rfl (Or.inl rfl) ?_
        obtain ⟨r104, e104, hf⟩ := bd_some hf
        refine e_callV2i dX8_star_104 rfl lk_374 ⟨rfl, rfl, Nat.le_of_ble_eq_true rfl, Nat.le_of_ble_eq_true rfl⟩ rfl rfl (Nat.le_of_ble_eq_true rfl) (q_X4_cellAt h85   l1 (h85 7 6) e104) ?_
        obtain ⟨r107, e107, hf⟩ := bd_some hf
        refine e_callV1i dX8_star_107 rfl lk_385 ⟨rfl, rfl, Nat.le_of_ble_eq_true rfl, Nat.le_of_ble_eq_true rfl⟩ rfl rfl (Nat.le_of_ble_eq_true rfl) (q_X2_holderOver h85   r104 e107) ?_
        obtain rfl := Option.some.inj hf
        exact e_ireturn dX8_star_110 rfl ⟨rfl, rfl⟩
      replace hf := ifn hf c14_3
      by_cases c14_4 : l2 = 4
      · replace hf := ifp hf c14_4
        refine e_tswIn (off := 97) (tgt := 111) dX8_star_14 (by omega) (by omega) (by rw [c14_4]; rfl) (by decide) ?_
        refine e_aload_n dX8_star_111 rfl ?_
        obtain ⟨h112, e112, hf⟩ := bd_some hf
        refine e_callV0v dX8_star_112 rfl lk_349 ⟨rfl, rfl, Nat.le_of_ble_eq_true rfl, Nat.le_of_ble_eq_true rfl⟩ rfl rfl (Nat.le_of_ble_eq_true rfl) (q_X8_surveyTown h    e112) ?_
        refine e_aload_n dX8_star_115 rfl ?_
        refine e_getR dX8_star_116 rfl fl_193 rfl rfl ?_
        refine e_getI (kz := 7) rfl dX8_star_119 rfl fl_83 rfl rfl (Or.inr rfl) ?_
        refine e_if_eq (tgt := 129) dX8_star_122 (by decide) (fun c122 => ?_) (fun c122 => ?_)
        · replace hf := ifp hf c122
          refine e_aload_n dX8_star_129 rfl ?_
          refine e_getR dX8_star_130 rfl fl_197 rfl rfl ?_
          refine e_aload_n dX8_star_133 rfl ?_
          refine e_getR dX8_star_134 rfl fl_192 rfl rfl ?_
          refine e_iload_n dX8_star_137 rfl ?_
          refine e_aload_n dX8_star_138 rfl ?_
          refine e_getR dX8_star_139 rfl fl_193 rfl rfl ?_
          refine e_getI (kz := 6) rfl dX8_star_142 rfl fl_80 rfl rfl (Or.inl rfl) ?_
          obtain ⟨r145, e145, hf⟩ := bd_some hf
          refine e_callV3i dX8_star_145 rfl lk_394 ⟨rfl, rfl, Nat.le_of_ble_eq_true rfl, Nat.le_of_ble_eq_true rfl⟩ rfl rfl (Nat.le_of_ble_eq_true rfl) (q_X2_payOf h112   l1 (h112 7 6) e145) ?_
          obtain rfl := Option.some.inj hf
          exact e_ireturn dX8_star_148 rfl ⟨rfl, rfl⟩
        · replace hf := ifn hf c122
          refine e_iconst dX8_star_125 ⟨by decide, by decide⟩ ?_
          refine e_goto (tgt := 148) dX8_star_126 (by decide) ?_
          obtain rfl := Option.some.inj hf
          exact e_ireturn dX8_star_148 rfl ⟨rfl, rfl⟩
      replace hf := ifn hf c14_4
      refine e_tswOut (tgt := 149) dX8_star_14 (by omega) (by decide) ?_
      refine e_bipush dX8_star_149 ⟨by decide, by decide, by decide⟩ ?_
      obtain rfl := Option.some.inj hf
      exact e_ireturn dX8_star_151 rfl ⟨rfl, rfl⟩
    · replace hf := ifp hf c8
      refine e_iconst dX8_star_11 ⟨by decide, by decide⟩ ?_
      obtain rfl := Option.some.inj hf
      exact e_ireturn dX8_star_12 rfl ⟨rfl, rfl⟩
  exact Cn_of rfl (fun _ => Nat.le_of_ble_eq_true rfl) ⟨rfl, rfl⟩ (e_pad 0 key)
abbrev m_X8_isLandlord : MI := (yX8_isLandlord, cX8_isLandlord, 1, some .boolean, { frames := 0, cells := 0, slots := 0, locals := 0 })
def p_X8_isLandlord (h : Mem)  (l0 : Int) : Option (Int) :=
  if l0 < 0 then (some 0) else (if 4 ≤ l0 then (some 0) else (some 1))
set_option maxRecDepth 20000 in
theorem q_X8_isLandlord (h : Mem)   (l0 : Int) {X : Int} (hf : p_X8_isLandlord h  l0 = some X) : Cn m_X8_isLandlord [vi l0] h (fun r h' => r = some (vi X) ∧ h' = h) := by
  unfold p_X8_isLandlord at hf
  have key : E m_X8_isLandlord none (fun r h' => r = some (vi X) ∧ h' = h) 0 [some (vi l0)] [] h := by
    refine e_iload_n dX8_isLandlord_0 rfl ?_
    refine e_if_lt (tgt := 13) dX8_isLandlord_1 (by decide) (fun c1 => ?_) (fun c1 => ?_)
    · replace hf := ifp hf c1
      refine e_iconst dX8_isLandlord_13 ⟨by decide, by decide⟩ ?_
      obtain rfl := Option.some.inj hf
      exact e_zreturn dX8_isLandlord_14 rfl (by decide) ⟨rfl, rfl⟩
    · replace hf := ifn hf c1
      refine e_iload_n dX8_isLandlord_4 rfl ?_
      refine e_iconst dX8_isLandlord_5 ⟨by decide, by decide⟩ ?_
      refine e_icmp_ge (tgt := 13) dX8_isLandlord_6 (by decide) (fun c6 => ?_) (fun c6 => ?_)
      · replace hf := ifp hf c6
        refine e_iconst dX8_isLandlord_13 ⟨by decide, by decide⟩ ?_
        obtain rfl := Option.some.inj hf
        exact e_zreturn dX8_isLandlord_14 rfl (by decide) ⟨rfl, rfl⟩
      · replace hf := ifn hf c6
        refine e_iconst dX8_isLandlord_9 ⟨by decide, by decide⟩ ?_
        refine e_goto (tgt := 14) dX8_isLandlord_10 (by decide) ?_
        obtain rfl := Option.some.inj hf
        exact e_zreturn dX8_isLandlord_14 rfl (by decide) ⟨rfl, rfl⟩
  exact Cn_of rfl (fun _ => Nat.le_of_ble_eq_true rfl) ⟨rfl, rfl⟩ (e_pad 0 key)
theorem lk_415 : SLk "StarRight" 176 m_X8_isLandlord 1 := ⟨tw_415, tw_416, tw_1, tw_417, by decide +kernel⟩
abbrev m_X8_purse : MI := (yX8_purse, cX8_purse, 2, some .int, { frames := 1, cells := 0, slots := 0, locals := 20 })
def p_X8_purse (h : Mem)  (l1 : Int) : Option (Int) :=
  bd (p_X8_isLandlord h l1) (fun r1 => if r1 = 0 then (some (-1)) else (gd (0 ≤ l1 ∧ l1 < 4) (some (h 11 l1))))
set_option maxRecDepth 20000 in
theorem q_X8_purse (h : Mem)   (l1 : Int) {X : Int} (hf : p_X8_purse h  l1 = some X) : Cn m_X8_purse [vr 0, vi l1] h (fun r h' => r = some (vi X) ∧ h' = h) := by
  unfold p_X8_purse at hf
  have key : E m_X8_purse none (fun r h' => r = some (vi X) ∧ h' = h) 0 [some (vr 0), some (vi l1)] [] h := by
    refine e_iload_n dX8_purse_0 rfl ?_
    obtain ⟨r1, e1, hf⟩ := bd_some hf
    refine e_callS1i dX8_purse_1 rfl lk_415 ⟨rfl, rfl, Nat.le_of_ble_eq_true rfl, Nat.le_of_ble_eq_true rfl⟩ (Nat.le_of_ble_eq_true rfl) (q_X8_isLandlord h   l1 e1) ?_
    refine e_if_eq (tgt := 19) dX8_purse_4 (by decide) (fun c4 => ?_) (fun c4 => ?_)
    · replace hf := ifp hf c4
      refine e_iconst dX8_purse_19 ⟨by decide, by decide⟩ ?_
      obtain rfl := Option.some.inj hf
      exact e_ireturn dX8_purse_20 rfl ⟨rfl, rfl⟩
    · replace hf := ifn hf c4
      refine e_aload_n dX8_purse_7 rfl ?_
      refine e_getR dX8_purse_8 rfl fl_193 rfl rfl ?_
      refine e_getR dX8_purse_11 rfl fl_74 rfl rfl ?_
      refine e_iload_n dX8_purse_14 rfl ?_
      obtain ⟨g15, hf⟩ := gd_some hf
      refine e_iald dX8_purse_15 rfl g15 ?_
      refine e_goto (tgt := 20) dX8_purse_16 (by decide) ?_
      obtain rfl := Option.some.inj hf
      exact e_ireturn dX8_purse_20 rfl ⟨rfl, rfl⟩
  exact Cn_of rfl (fun _ => Nat.le_of_ble_eq_true rfl) ⟨rfl, rfl⟩ (e_pad 0 key)
theorem lk_422 : VLk "StarRight" 186 m_X6_setHeight 2 := ⟨tw_422, tw_423, tw_424, tw_4, tw_425, by decide +kernel⟩
theorem lk_426 : VLk "StarRight" 190 m_X0_add 3 := ⟨tw_426, tw_427, tw_428, tw_7, tw_429, by decide +kernel⟩
abbrev m_X8_build : MI := (yX8_build, cX8_build, 4, some .int, { frames := 3, cells := 0, slots := 0, locals := 61 })
def p_X8_build (h : Mem)  (l1 l2 : Int) : Option (Int × Mem) :=
  bd (p_X6_hasRoof h 7 l1) (fun r5 => if r5 = 0 then (some ((-1), h)) else (if l2 < 0 then (some ((-2), h)) else (if l2 < 10 then (gd (0 ≤ l1 ∧ l1 < 5) (if h 9 l1 = l2 then (some ((-3), h)) else (bd (p_X6_setHeight h 7 l1 l2) (fun h50 => bd (p_X0_add h50 0 l1 (h 9 l1)) (fun h60 => some (h 9 l1, h60)))))) else (some ((-2), h)))))
set_option maxRecDepth 20000 in
theorem q_X8_build (h : Mem)   (l1 l2 : Int) {X : Int × Mem} (hf : p_X8_build h  l1 l2 = some X) : Cn m_X8_build [vr 0, vi l1, vi l2] h (fun r h' => r = some (vi X.1) ∧ h' = X.2) := by
  unfold p_X8_build at hf
  have key : E m_X8_build none (fun r h' => r = some (vi X.1) ∧ h' = X.2) 0 [some (vr 0), some (vi l1), some (vi l2), none] [] h := by
    refine e_aload_n dX8_build_0 rfl ?_
    refine e_getR dX8_build_1 rfl fl_193 rfl rfl ?_
    refine e_iload_n dX8_build_4 rfl ?_
    obtain ⟨r5, e5, hf⟩ := bd_some hf
    refine e_callV1i dX8_build_5 rfl lk_343 ⟨rfl, rfl, Nat.le_of_ble_eq_true rfl, Nat.le_of_ble_eq_true rfl⟩ rfl rfl (Nat.le_of_ble_eq_true rfl) (q_X6_hasRoof h 7 isT7 l1 e5) ?_
    refine e_if_ne (tgt := 13) dX8_build_8 (by decide) (fun c8 => ?_) (fun c8 => ?_)
    · replace hf := ifn hf c8
      refine e_iload_n dX8_build_13 rfl ?_
      refine e_if_lt (tgt := 23) dX8_build_14 (by decide) (fun c14 => ?_) (fun c14 => ?_)
      · replace hf := ifp hf c14
        refine e_bipush dX8_build_23 ⟨by decide, by decide, by decide⟩ ?_
        obtain rfl := Option.some.inj hf
        exact e_ireturn dX8_build_25 rfl ⟨rfl, rfl⟩
      · replace hf := ifn hf c14
        refine e_iload_n dX8_build_17 rfl ?_
        refine e_bipush dX8_build_18 ⟨by decide, by decide, by decide⟩ ?_
        refine e_icmp_lt (tgt := 26) dX8_build_20 (by decide) (fun c20 => ?_) (fun c20 => ?_)
        · replace hf := ifp hf c20
          refine e_aload_n dX8_build_26 rfl ?_
          refine e_getR dX8_build_27 rfl fl_193 rfl rfl ?_
          refine e_getR dX8_build_30 rfl fl_70 rfl rfl ?_
          refine e_iload_n dX8_build_33 rfl ?_
          obtain ⟨g34, hf⟩ := gd_some hf
          refine e_iald dX8_build_34 rfl g34 ?_
          refine e_istore_n (ls' := [some (vr 0), some (vi l1), some (vi l2), some (vi (h 9 l1))]) dX8_build_35 (Nat.le_of_ble_eq_true rfl) rfl ?_
          refine e_iload_n dX8_build_36 rfl ?_
          refine e_iload_n dX8_build_37 rfl ?_
          refine e_icmp_ne (tgt := 44) dX8_build_38 (by decide) (fun c38 => ?_) (fun c38 => ?_)
          · replace hf := ifn hf c38
            refine e_aload_n dX8_build_44 rfl ?_
            refine e_getR dX8_build_45 rfl fl_193 rfl rfl ?_
            refine e_iload_n dX8_build_48 rfl ?_
            refine e_iload_n dX8_build_49 rfl ?_
            obtain ⟨h50, e50, hf⟩ := bd_some hf
            refine e_callV2v dX8_build_50 rfl lk_422 ⟨rfl, rfl, Nat.le_of_ble_eq_true rfl, Nat.le_of_ble_eq_true rfl⟩ rfl rfl (Nat.le_of_ble_eq_true rfl) (q_X6_setHeight h 7 isT7 l1 l2 e50) ?_
            refine e_aload_n dX8_build_53 rfl ?_
            refine e_getR dX8_build_54 rfl fl_198 rfl rfl ?_
            refine e_iconst dX8_build_57 ⟨by decide, by decide⟩ ?_
            refine e_iload_n dX8_build_58 rfl ?_
            refine e_iload_n dX8_build_59 rfl ?_
            obtain ⟨h60, e60, hf⟩ := bd_some hf
            refine e_callV3v dX8_build_60 rfl lk_426 ⟨rfl, rfl, Nat.le_of_ble_eq_true rfl, Nat.le_of_ble_eq_true rfl⟩ rfl rfl (Nat.le_of_ble_eq_true rfl) (q_X0_add h50   0 l1 (h 9 l1) e60) ?_
            refine e_iload_n dX8_build_63 rfl ?_
            obtain rfl := Option.some.inj hf
            exact e_ireturn dX8_build_64 rfl ⟨rfl, rfl⟩
          · replace hf := ifp hf c38
            refine e_bipush dX8_build_41 ⟨by decide, by decide, by decide⟩ ?_
            obtain rfl := Option.some.inj hf
            exact e_ireturn dX8_build_43 rfl ⟨rfl, rfl⟩
        · replace hf := ifn hf c20
          refine e_bipush dX8_build_23 ⟨by decide, by decide, by decide⟩ ?_
          obtain rfl := Option.some.inj hf
          exact e_ireturn dX8_build_25 rfl ⟨rfl, rfl⟩
    · replace hf := ifp hf c8
      refine e_iconst dX8_build_11 ⟨by decide, by decide⟩ ?_
      obtain rfl := Option.some.inj hf
      exact e_ireturn dX8_build_12 rfl ⟨rfl, rfl⟩
  exact Cn_of rfl (fun _ => Nat.le_of_ble_eq_true rfl) ⟨rfl, rfl⟩ (e_pad 1 key)
abbrev m_X8_light : MI := (yX8_light, cX8_light, 2, some .int, { frames := 3, cells := 0, slots := 0, locals := 61 })
def p_X8_light (h : Mem)  (l1 : Int) : Option (Int × Mem) :=
  bd (p_X6_hasRoof h 7 l1) (fun r5 => if r5 = 0 then (some ((-1), h)) else (bd (p_X0_add (up h 7 5 (bxor (h 7 5) (bshl 1 l1))) 1 l1 0) (fun h35 => some (band (bshr (h35 7 5) l1) 1, h35))))
set_option maxRecDepth 20000 in
theorem q_X8_light (h : Mem)   (l1 : Int) {X : Int × Mem} (hf : p_X8_light h  l1 = some X) : Cn m_X8_light [vr 0, vi l1] h (fun r h' => r = some (vi X.1) ∧ h' = X.2) := by
  unfold p_X8_light at hf
  have key : E m_X8_light none (fun r h' => r = some (vi X.1) ∧ h' = X.2) 0 [some (vr 0), some (vi l1)] [] h := by
    refine e_aload_n dX8_light_0 rfl ?_
    refine e_getR dX8_light_1 rfl fl_193 rfl rfl ?_
    refine e_iload_n dX8_light_4 rfl ?_
    obtain ⟨r5, e5, hf⟩ := bd_some hf
    refine e_callV1i dX8_light_5 rfl lk_343 ⟨rfl, rfl, Nat.le_of_ble_eq_true rfl, Nat.le_of_ble_eq_true rfl⟩ rfl rfl (Nat.le_of_ble_eq_true rfl) (q_X6_hasRoof h 7 isT7 l1 e5) ?_
    refine e_if_ne (tgt := 13) dX8_light_8 (by decide) (fun c8 => ?_) (fun c8 => ?_)
    · replace hf := ifn hf c8
      refine e_aload_n dX8_light_13 rfl ?_
      refine e_getR dX8_light_14 rfl fl_193 rfl rfl ?_
      refine e_dup dX8_light_17 (fun _ => rfl) ?_
      refine e_getI (kz := 5) rfl dX8_light_18 rfl fl_78 rfl rfl (Or.inl rfl) ?_
      refine e_iconst dX8_light_21 ⟨by decide, by decide⟩ ?_
      refine e_iload_n dX8_light_22 rfl ?_
      refine e_ishl dX8_light_23 ?_
      refine e_ixor dX8_light_24 ?_
      refine e_putI (t := 0) (kz := 5) rfl dX8_light_25 rfl fp_78 rfl rfl (Or.inl rfl) ?_
      refine e_aload_n dX8_light_28 rfl ?_
      refine e_getR dX8_light_29 rfl fl_198 rfl rfl ?_
      refine e_iconst dX8_light_32 ⟨by decide, by decide⟩ ?_
      refine e_iload_n dX8_light_33 rfl ?_
      refine e_iconst dX8_light_34 ⟨by decide, by decide⟩ ?_
      obtain ⟨h35, e35, hf⟩ := bd_some hf
      refine e_callV3v dX8_light_35 rfl lk_426 ⟨rfl, rfl, Nat.le_of_ble_eq_true rfl, Nat.le_of_ble_eq_true rfl⟩ rfl rfl (Nat.le_of_ble_eq_true rfl) (q_X0_add (up h 7 5 (bxor (h 7 5) (bshl 1 l1)))   1 l1 0 e35) ?_
      refine e_aload_n dX8_light_38 rfl ?_
      refine e_getR dX8_light_39 rfl fl_193 rfl rfl ?_
      refine e_getI (kz := 5) rfl dX8_light_42 rfl fl_78 rfl rfl (Or.inl rfl) ?_
      refine e_iload_n dX8_light_45 rfl ?_
      refine e_ishr dX8_light_46 ?_
      refine e_iconst dX8_light_47 ⟨by decide, by decide⟩ ?_
      refine e_iand dX8_light_48 ?_
      obtain rfl := Option.some.inj hf
      exact e_ireturn dX8_light_49 rfl ⟨rfl, rfl⟩
    · replace hf := ifp hf c8
      refine e_iconst dX8_light_11 ⟨by decide, by decide⟩ ?_
      obtain rfl := Option.some.inj hf
      exact e_ireturn dX8_light_12 rfl ⟨rfl, rfl⟩
  exact Cn_of rfl (fun _ => Nat.le_of_ble_eq_true rfl) ⟨rfl, rfl⟩ (e_pad 0 key)
theorem lk_445 : VLk "StarRight" 193 m_X6_setOwner 2 := ⟨tw_445, tw_446, tw_447, tw_4, tw_448, by decide +kernel⟩
abbrev m_X8_sell : MI := (yX8_sell, cX8_sell, 4, some .int, { frames := 3, cells := 0, slots := 0, locals := 61 })
def p_X8_sell (h : Mem)  (l1 l2 : Int) : Option (Int × Mem) :=
  bd (p_X6_hasRoof h 7 l1) (fun r5 => if r5 = 0 then (some ((-1), h)) else (bd (p_X8_isLandlord h l2) (fun r12 => if r12 = 0 then (some ((-1), h)) else (gd (0 ≤ l1 ∧ l1 < 5) (if h 10 l1 = l2 then (some ((-3), h)) else (bd (p_X6_setOwner h 7 l1 l2) (fun h44 => bd (p_X0_add h44 2 l1 (h 10 l1)) (fun h54 => some (h 10 l1, h54)))))))))
set_option maxRecDepth 20000 in
theorem q_X8_sell (h : Mem)   (l1 l2 : Int) {X : Int × Mem} (hf : p_X8_sell h  l1 l2 = some X) : Cn m_X8_sell [vr 0, vi l1, vi l2] h (fun r h' => r = some (vi X.1) ∧ h' = X.2) := by
  unfold p_X8_sell at hf
  have key : E m_X8_sell none (fun r h' => r = some (vi X.1) ∧ h' = X.2) 0 [some (vr 0), some (vi l1), some (vi l2), none] [] h := by
    refine e_aload_n dX8_sell_0 rfl ?_
    refine e_getR dX8_sell_1 rfl fl_193 rfl rfl ?_
    refine e_iload_n dX8_sell_4 rfl ?_
    obtain ⟨r5, e5, hf⟩ := bd_some hf
    refine e_callV1i dX8_sell_5 rfl lk_343 ⟨rfl, rfl, Nat.le_of_ble_eq_true rfl, Nat.le_of_ble_eq_true rfl⟩ rfl rfl (Nat.le_of_ble_eq_true rfl) (q_X6_hasRoof h 7 isT7 l1 e5) ?_
    refine e_if_eq (tgt := 18) dX8_sell_8 (by decide) (fun c8 => ?_) (fun c8 => ?_)
    · replace hf := ifp hf c8
      refine e_iconst dX8_sell_18 ⟨by decide, by decide⟩ ?_
      obtain rfl := Option.some.inj hf
      exact e_ireturn dX8_sell_19 rfl ⟨rfl, rfl⟩
    · replace hf := ifn hf c8
      refine e_iload_n dX8_sell_11 rfl ?_
      obtain ⟨r12, e12, hf⟩ := bd_some hf
      refine e_callS1i dX8_sell_12 rfl lk_415 ⟨rfl, rfl, Nat.le_of_ble_eq_true rfl, Nat.le_of_ble_eq_true rfl⟩ (Nat.le_of_ble_eq_true rfl) (q_X8_isLandlord h   l2 e12) ?_
      refine e_if_ne (tgt := 20) dX8_sell_15 (by decide) (fun c15 => ?_) (fun c15 => ?_)
      · replace hf := ifn hf c15
        refine e_aload_n dX8_sell_20 rfl ?_
        refine e_getR dX8_sell_21 rfl fl_193 rfl rfl ?_
        refine e_getR dX8_sell_24 rfl fl_72 rfl rfl ?_
        refine e_iload_n dX8_sell_27 rfl ?_
        obtain ⟨g28, hf⟩ := gd_some hf
        refine e_iald dX8_sell_28 rfl g28 ?_
        refine e_istore_n (ls' := [some (vr 0), some (vi l1), some (vi l2), some (vi (h 10 l1))]) dX8_sell_29 (Nat.le_of_ble_eq_true rfl) rfl ?_
        refine e_iload_n dX8_sell_30 rfl ?_
        refine e_iload_n dX8_sell_31 rfl ?_
        refine e_icmp_ne (tgt := 38) dX8_sell_32 (by decide) (fun c32 => ?_) (fun c32 => ?_)
        · replace hf := ifn hf c32
          refine e_aload_n dX8_sell_38 rfl ?_
          refine e_getR dX8_sell_39 rfl fl_193 rfl rfl ?_
          refine e_iload_n dX8_sell_42 rfl ?_
          refine e_iload_n dX8_sell_43 rfl ?_
          obtain ⟨h44, e44, hf⟩ := bd_some hf
          refine e_callV2v dX8_sell_44 rfl lk_445 ⟨rfl, rfl, Nat.le_of_ble_eq_true rfl, Nat.le_of_ble_eq_true rfl⟩ rfl rfl (Nat.le_of_ble_eq_true rfl) (q_X6_setOwner h 7 isT7 l1 l2 e44) ?_
          refine e_aload_n dX8_sell_47 rfl ?_
          refine e_getR dX8_sell_48 rfl fl_198 rfl rfl ?_
          refine e_iconst dX8_sell_51 ⟨by decide, by decide⟩ ?_
          refine e_iload_n dX8_sell_52 rfl ?_
          refine e_iload_n dX8_sell_53 rfl ?_
          obtain ⟨h54, e54, hf⟩ := bd_some hf
          refine e_callV3v dX8_sell_54 rfl lk_426 ⟨rfl, rfl, Nat.le_of_ble_eq_true rfl, Nat.le_of_ble_eq_true rfl⟩ rfl rfl (Nat.le_of_ble_eq_true rfl) (q_X0_add h44   2 l1 (h 10 l1) e54) ?_
          refine e_iload_n dX8_sell_57 rfl ?_
          obtain rfl := Option.some.inj hf
          exact e_ireturn dX8_sell_58 rfl ⟨rfl, rfl⟩
        · replace hf := ifp hf c32
          refine e_bipush dX8_sell_35 ⟨by decide, by decide, by decide⟩ ?_
          obtain rfl := Option.some.inj hf
          exact e_ireturn dX8_sell_37 rfl ⟨rfl, rfl⟩
      · replace hf := ifp hf c15
        refine e_iconst dX8_sell_18 ⟨by decide, by decide⟩ ?_
        obtain rfl := Option.some.inj hf
        exact e_ireturn dX8_sell_19 rfl ⟨rfl, rfl⟩
  exact Cn_of rfl (fun _ => Nat.le_of_ble_eq_true rfl) ⟨rfl, rfl⟩ (e_pad 1 key)
abbrev m_X8_clouds : MI := (yX8_clouds, cX8_clouds, 1, some .int, { frames := 3, cells := 0, slots := 0, locals := 61 })
def p_X8_clouds_19  (h : Mem)   (s0 : Int) : Option (Int × Mem) :=
  gd (s0 = 0 ∨ s0 = 1) (bd (p_X0_add (up h 7 7 s0) 3 0 0) (fun h29 => if h29 7 7 = 0 then (some (0, h29)) else (some (1, h29))))
set_option maxRecDepth 20000 in
theorem q_X8_clouds_19  (h : Mem)     (s0 : Int) {X : Int × Mem}  (hf : p_X8_clouds_19  h   s0 = some X) : E m_X8_clouds none (fun r h' => r = some (vi X.1) ∧ h' = X.2) 19 [some (vr 0)] [vi s0, vr 7] h := by
  unfold p_X8_clouds_19 at hf
  obtain ⟨g19, hf⟩ := gd_some hf
  refine e_putI (t := 2) (kz := 7) rfl dX8_clouds_19 rfl fp_83 rfl rfl (Or.inr ⟨rfl, g19⟩) ?_
  refine e_aload_n dX8_clouds_22 rfl ?_
  refine e_getR dX8_clouds_23 rfl fl_198 rfl rfl ?_
  refine e_iconst dX8_clouds_26 ⟨by decide, by decide⟩ ?_
  refine e_iconst dX8_clouds_27 ⟨by decide, by decide⟩ ?_
  refine e_iconst dX8_clouds_28 ⟨by decide, by decide⟩ ?_
  obtain ⟨h29, e29, hf⟩ := bd_some hf
  refine e_callV3v dX8_clouds_29 rfl lk_426 ⟨rfl, rfl, Nat.le_of_ble_eq_true rfl, Nat.le_of_ble_eq_true rfl⟩ rfl rfl (Nat.le_of_ble_eq_true rfl) (q_X0_add (up h 7 7 s0)   3 0 0 e29) ?_
  refine e_aload_n dX8_clouds_32 rfl ?_
  refine e_getR dX8_clouds_33 rfl fl_193 rfl rfl ?_
  refine e_getI (kz := 7) rfl dX8_clouds_36 rfl fl_83 rfl rfl (Or.inr rfl) ?_
  refine e_if_eq (tgt := 46) dX8_clouds_39 (by decide) (fun c39 => ?_) (fun c39 => ?_)
  · replace hf := ifp hf c39
    refine e_iconst dX8_clouds_46 ⟨by decide, by decide⟩ ?_
    obtain rfl := Option.some.inj hf
    exact e_ireturn dX8_clouds_47 rfl ⟨rfl, rfl⟩
  · replace hf := ifn hf c39
    refine e_iconst dX8_clouds_42 ⟨by decide, by decide⟩ ?_
    refine e_goto (tgt := 47) dX8_clouds_43 (by decide) ?_
    obtain rfl := Option.some.inj hf
    exact e_ireturn dX8_clouds_47 rfl ⟨rfl, rfl⟩
def p_X8_clouds (h : Mem)   : Option (Int × Mem) :=
  if h 7 7 = 0 then (p_X8_clouds_19  h   1) else (p_X8_clouds_19  h   0)
set_option maxRecDepth 20000 in
theorem q_X8_clouds (h : Mem)    {X : Int × Mem} (hf : p_X8_clouds h   = some X) : Cn m_X8_clouds [vr 0] h (fun r h' => r = some (vi X.1) ∧ h' = X.2) := by
  unfold p_X8_clouds at hf
  have key : E m_X8_clouds none (fun r h' => r = some (vi X.1) ∧ h' = X.2) 0 [some (vr 0)] [] h := by
    refine e_aload_n dX8_clouds_0 rfl ?_
    refine e_getR dX8_clouds_1 rfl fl_193 rfl rfl ?_
    refine e_aload_n dX8_clouds_4 rfl ?_
    refine e_getR dX8_clouds_5 rfl fl_193 rfl rfl ?_
    refine e_getI (kz := 7) rfl dX8_clouds_8 rfl fl_83 rfl rfl (Or.inr rfl) ?_
    refine e_if_ne (tgt := 18) dX8_clouds_11 (by decide) (fun c11 => ?_) (fun c11 => ?_)
    · replace hf := ifn hf c11
      refine e_iconst dX8_clouds_18 ⟨by decide, by decide⟩ ?_
      exact e_mask [true] (q_X8_clouds_19  h     0  hf)
    · replace hf := ifp hf c11
      refine e_iconst dX8_clouds_14 ⟨by decide, by decide⟩ ?_
      refine e_goto (tgt := 19) dX8_clouds_15 (by decide) ?_
      exact e_mask [true] (q_X8_clouds_19  h     1  hf)
  exact Cn_of rfl (fun _ => Nat.le_of_ble_eq_true rfl) ⟨rfl, rfl⟩ (e_pad 0 key)
theorem lk_461 : VLk "StarRight" 211 m_X6_roofsOf 1 := ⟨tw_461, tw_462, tw_463, tw_4, tw_464, by decide +kernel⟩
theorem lk_465 : VLk "StarRight" 214 m_X2_takings 4 := ⟨tw_465, tw_466, tw_467, tw_6, tw_468, by decide +kernel⟩
abbrev m_X8_payPurses : MI := (yX8_payPurses, cX8_payPurses, 5, some .int, { frames := 5, cells := 0, slots := 0, locals := 119 })
def p_X8_payPurses_26 (K26 : Mem → Int → Int → Int → Option (Int × Mem)) (h : Mem)   (l1 l2 l3 : Int) : Option (Int × Mem) :=
  if 4 ≤ l3 then (some (l2, h)) else (bd (p_X6_roofsOf h 7 l3) (fun r48 => bd (p_X2_takings h 7 r48 1) (fun r52 => gd (0 ≤ l3 ∧ l3 < 4) (gd (0 ≤ l3 ∧ l3 < 4) (K26 (up h 11 l3 (wr ((h 11 l3) + (wr (l1 * r52))))) l1 (wr (l2 + r52)) (wr (l3 + 1)))))))
set_option maxRecDepth 20000 in
theorem q_X8_payPurses_26 (K26 : Mem → Int → Int → Int → Option (Int × Mem)) (h : Mem)     (l1 l2 l3 : Int) {X : Int × Mem} (hK26 : ∀ (h : Mem) (l1 l2 l3 : Int), K26 h l1 l2 l3 = some X → E m_X8_payPurses none (fun r h' => r = some (vi X.1) ∧ h' = X.2) 26 [some (vr 0), some (vi l1), some (vi l2), some (vi l3), none] [] h) (hf : p_X8_payPurses_26 K26 h   l1 l2 l3 = some X) : E m_X8_payPurses none (fun r h' => r = some (vi X.1) ∧ h' = X.2) 26 [some (vr 0), some (vi l1), some (vi l2), some (vi l3), none] [] h := by
  unfold p_X8_payPurses_26 at hf
  refine e_iload_n dX8_payPurses_26 rfl ?_
  refine e_iconst dX8_payPurses_27 ⟨by decide, by decide⟩ ?_
  refine e_icmp_ge (tgt := 84) dX8_payPurses_28 (by decide) (fun c28 => ?_) (fun c28 => ?_)
  · replace hf := ifp hf c28
    refine e_iload_n dX8_payPurses_84 rfl ?_
    obtain rfl := Option.some.inj hf
    exact e_ireturn dX8_payPurses_85 rfl ⟨rfl, rfl⟩
  · replace hf := ifn hf c28
    refine e_aload_n dX8_payPurses_31 rfl ?_
    refine e_getR dX8_payPurses_32 rfl fl_197 rfl rfl ?_
    refine e_aload_n dX8_payPurses_35 rfl ?_
    refine e_getR dX8_payPurses_36 rfl fl_193 rfl rfl ?_
    refine e_aload_n dX8_payPurses_39 rfl ?_
    refine e_getR dX8_payPurses_40 rfl fl_192 rfl rfl ?_
    refine e_aload_n dX8_payPurses_43 rfl ?_
    refine e_getR dX8_payPurses_44 rfl fl_193 rfl rfl ?_
    refine e_iload_n dX8_payPurses_47 rfl ?_
    obtain ⟨r48, e48, hf⟩ := bd_some hf
    refine e_callV1i dX8_payPurses_48 rfl lk_461 ⟨rfl, rfl, Nat.le_of_ble_eq_true rfl, Nat.le_of_ble_eq_true rfl⟩ rfl rfl (Nat.le_of_ble_eq_true rfl) (q_X6_roofsOf h 7 isT7 l3 e48) ?_
    refine e_iconst dX8_payPurses_51 ⟨by decide, by decide⟩ ?_
    obtain ⟨r52, e52, hf⟩ := bd_some hf
    refine e_callV4i dX8_payPurses_52 rfl lk_465 ⟨rfl, rfl, Nat.le_of_ble_eq_true rfl, Nat.le_of_ble_eq_true rfl⟩ rfl rfl (Nat.le_of_ble_eq_true rfl) (q_X2_takings h 7 isT7 r48 1 e52) ?_
    refine e_istore (ls' := [some (vr 0), some (vi l1), some (vi l2), some (vi l3), some (vi r52)]) dX8_payPurses_55 (Nat.le_of_ble_eq_true rfl) rfl ?_
    refine e_aload_n dX8_payPurses_57 rfl ?_
    refine e_getR dX8_payPurses_58 rfl fl_193 rfl rfl ?_
    refine e_getR dX8_payPurses_61 rfl fl_74 rfl rfl ?_
    refine e_iload_n dX8_payPurses_64 rfl ?_
    refine e_dup2 dX8_payPurses_65 (fun _ => rfl) (fun _ => rfl) ?_
    obtain ⟨g66, hf⟩ := gd_some hf
    refine e_iald dX8_payPurses_66 rfl g66 ?_
    refine e_iload_n dX8_payPurses_67 rfl ?_
    refine e_iload dX8_payPurses_68 rfl ?_
    refine e_imul dX8_payPurses_70 ?_
    refine e_iadd dX8_payPurses_71 ?_
    obtain ⟨g72, hf⟩ := gd_some hf
    refine e_iast dX8_payPurses_72 rfl g72 ?_
    refine e_iload_n dX8_payPurses_73 rfl ?_
    refine e_iload dX8_payPurses_74 rfl ?_
    refine e_iadd dX8_payPurses_76 ?_
    refine e_istore_n (ls' := [some (vr 0), some (vi l1), some (vi (wr (l2 + r52))), some (vi l3), some (vi r52)]) dX8_payPurses_77 (Nat.le_of_ble_eq_true rfl) rfl ?_
    refine e_iinc (ls' := [some (vr 0), some (vi l1), some (vi (wr (l2 + r52))), some (vi (wr (l3 + 1))), some (vi r52)]) dX8_payPurses_78 rfl (Nat.le_of_ble_eq_true rfl) rfl ?_
    refine e_goto (tgt := 26) dX8_payPurses_81 (by decide) ?_
    exact e_mask [true, true, true, true, false] (hK26 (up h 11 l3 (wr ((h 11 l3) + (wr (l1 * r52))))) l1 (wr (l2 + r52)) (wr (l3 + 1)) hf)
def p_X8_payPurses_L26     : Nat → Mem → Int → Int → Int → Option (Int × Mem)
  | 0, _, _, _, _ => none
  | n + 1, h, l1, l2, l3 => p_X8_payPurses_26 (fun (h : Mem) (l1 l2 l3 : Int) => p_X8_payPurses_L26     n h l1 l2 l3) h   l1 l2 l3
theorem q_X8_payPurses_L26       {X : Int × Mem}  : ∀ (n : Nat) (h : Mem) (l1 l2 l3 : Int), p_X8_payPurses_L26     n h l1 l2 l3 = some X → E m_X8_payPurses none (fun r h' => r = some (vi X.1) ∧ h' = X.2) 26 [some (vr 0), some (vi l1), some (vi l2), some (vi l3), none] [] h := by
  intro n
  induction n with
  | zero => intro h l1 l2 l3 hf; have hf2 : (none : Option (Int × Mem)) = some X := hf; cases hf2
  | succ n ih => intro h l1 l2 l3 hf; exact q_X8_payPurses_26 (fun (h : Mem) (l1 l2 l3 : Int) => p_X8_payPurses_L26     n h l1 l2 l3) h     l1 l2 l3 (fun h l1 l2 l3 hf => ih h l1 l2 l3 hf) hf
def p_X8_payPurses (h : Mem)  (l1 : Int) : Option (Int × Mem) :=
  bd (p_X6_everyRoof h 7) (fun r12 => bd (p_X2_survey h 7 r12 (h 0 11)) (fun h19 => p_X8_payPurses_L26     300 h19 l1 0 0))
set_option maxRecDepth 20000 in
theorem q_X8_payPurses (h : Mem)   (l1 : Int) {X : Int × Mem} (hf : p_X8_payPurses h  l1 = some X) : Cn m_X8_payPurses [vr 0, vi l1] h (fun r h' => r = some (vi X.1) ∧ h' = X.2) := by
  unfold p_X8_payPurses at hf
  have key : E m_X8_payPurses none (fun r h' => r = some (vi X.1) ∧ h' = X.2) 0 [some (vr 0), some (vi l1), none, none, none] [] h := by
    refine e_aload_n dX8_payPurses_0 rfl ?_
    refine e_getR dX8_payPurses_1 rfl fl_197 rfl rfl ?_
    refine e_aload_n dX8_payPurses_4 rfl ?_
    refine e_getR dX8_payPurses_5 rfl fl_193 rfl rfl ?_
    refine e_aload_n dX8_payPurses_8 rfl ?_
    refine e_getR dX8_payPurses_9 rfl fl_193 rfl rfl ?_
    obtain ⟨r12, e12, hf⟩ := bd_some hf
    refine e_callV0i dX8_payPurses_12 rfl lk_344 ⟨rfl, rfl, Nat.le_of_ble_eq_true rfl, Nat.le_of_ble_eq_true rfl⟩ rfl rfl (Nat.le_of_ble_eq_true rfl) (q_X6_everyRoof h 7 isT7  e12) ?_
    refine e_aload_n dX8_payPurses_15 rfl ?_
    refine e_getI (kz := 11) rfl dX8_payPurses_16 rfl fl_202 rfl rfl (Or.inl rfl) ?_
    obtain ⟨h19, e19, hf⟩ := bd_some hf
    refine e_callV3v dX8_payPurses_19 rfl lk_353 ⟨rfl, rfl, Nat.le_of_ble_eq_true rfl, Nat.le_of_ble_eq_true rfl⟩ rfl rfl (Nat.le_of_ble_eq_true rfl) (q_X2_survey h 7 isT7 r12 (h 0 11) e19) ?_
    refine e_iconst dX8_payPurses_22 ⟨by decide, by decide⟩ ?_
    refine e_istore_n (ls' := [some (vr 0), some (vi l1), some (vi 0), none, none]) dX8_payPurses_23 (Nat.le_of_ble_eq_true rfl) rfl ?_
    refine e_iconst dX8_payPurses_24 ⟨by decide, by decide⟩ ?_
    refine e_istore_n (ls' := [some (vr 0), some (vi l1), some (vi 0), some (vi 0), none]) dX8_payPurses_25 (Nat.le_of_ble_eq_true rfl) rfl ?_
    exact e_mask [true, true, true, true, false] (q_X8_payPurses_L26        300 h19 l1 0 0 hf)
  exact Cn_of rfl (fun _ => Nat.le_of_ble_eq_true rfl) ⟨rfl, rfl⟩ (e_pad 3 key)
theorem lk_457 : VLk "StarRight" 196 m_X8_payPurses 1 := ⟨tw_457, tw_459, twp_12, tw_1, tw_460, by decide +kernel⟩
abbrev m_X8_hour : MI := (yX8_hour, cX8_hour, 2, some .int, { frames := 6, cells := 0, slots := 0, locals := 143 })
def p_X8_hour (h : Mem)   : Option (Int × Mem) :=
  bd (p_X8_payPurses h 1) (fun q2 => bd (p_X0_add (up q2.2 7 6 (wr ((q2.2 7 6) + 1))) 4 0 0) (fun h26 => some (q2.1, h26)))
set_option maxRecDepth 20000 in
theorem q_X8_hour (h : Mem)    {X : Int × Mem} (hf : p_X8_hour h   = some X) : Cn m_X8_hour [vr 0] h (fun r h' => r = some (vi X.1) ∧ h' = X.2) := by
  unfold p_X8_hour at hf
  have key : E m_X8_hour none (fun r h' => r = some (vi X.1) ∧ h' = X.2) 0 [some (vr 0), none] [] h := by
    refine e_aload_n dX8_hour_0 rfl ?_
    refine e_iconst dX8_hour_1 ⟨by decide, by decide⟩ ?_
    obtain ⟨q2, e2, hf⟩ := bd_some hf
    refine e_callV1i dX8_hour_2 rfl lk_457 ⟨rfl, rfl, Nat.le_of_ble_eq_true rfl, Nat.le_of_ble_eq_true rfl⟩ rfl rfl (Nat.le_of_ble_eq_true rfl) (q_X8_payPurses h   1 e2) ?_
    refine e_istore_n (ls' := [some (vr 0), some (vi q2.1)]) dX8_hour_5 (Nat.le_of_ble_eq_true rfl) rfl ?_
    refine e_aload_n dX8_hour_6 rfl ?_
    refine e_getR dX8_hour_7 rfl fl_193 rfl rfl ?_
    refine e_dup dX8_hour_10 (fun _ => rfl) ?_
    refine e_getI (kz := 6) rfl dX8_hour_11 rfl fl_80 rfl rfl (Or.inl rfl) ?_
    refine e_iconst dX8_hour_14 ⟨by decide, by decide⟩ ?_
    refine e_iadd dX8_hour_15 ?_
    refine e_putI (t := 0) (kz := 6) rfl dX8_hour_16 rfl fp_80 rfl rfl (Or.inl rfl) ?_
    refine e_aload_n dX8_hour_19 rfl ?_
    refine e_getR dX8_hour_20 rfl fl_198 rfl rfl ?_
    refine e_iconst dX8_hour_23 ⟨by decide, by decide⟩ ?_
    refine e_iconst dX8_hour_24 ⟨by decide, by decide⟩ ?_
    refine e_iconst dX8_hour_25 ⟨by decide, by decide⟩ ?_
    obtain ⟨h26, e26, hf⟩ := bd_some hf
    refine e_callV3v dX8_hour_26 rfl lk_426 ⟨rfl, rfl, Nat.le_of_ble_eq_true rfl, Nat.le_of_ble_eq_true rfl⟩ rfl rfl (Nat.le_of_ble_eq_true rfl) (q_X0_add (up q2.2 7 6 (wr ((q2.2 7 6) + 1)))   4 0 0 e26) ?_
    refine e_iload_n dX8_hour_29 rfl ?_
    obtain rfl := Option.some.inj hf
    exact e_ireturn dX8_hour_30 rfl ⟨rfl, rfl⟩
  exact Cn_of rfl (fun _ => Nat.le_of_ble_eq_true rfl) ⟨rfl, rfl⟩ (e_pad 1 key)
theorem lk_477 : VLk "StarRight" 199 m_X0_takeLast 0 := ⟨tw_477, tw_478, tw_479, tw_7, tw_480, by decide +kernel⟩
abbrev m_X8_undo : MI := (yX8_undo, cX8_undo, 3, some .int, { frames := 6, cells := 0, slots := 0, locals := 143 })
def p_X8_undo_174  (h : Mem)    : Option (Int × Mem) :=
  some (h 33 3, h)
set_option maxRecDepth 20000 in
theorem q_X8_undo_174  (h : Mem)      {X : Int × Mem}  (hf : p_X8_undo_174  h    = some X) : E m_X8_undo none (fun r h' => r = some (vi X.1) ∧ h' = X.2) 174 [some (vr 0), none, none] [] h := by
  unfold p_X8_undo_174 at hf
  refine e_aload_n dX8_undo_174 rfl ?_
  refine e_getR dX8_undo_175 rfl fl_198 rfl rfl ?_
  refine e_getI (kz := 3) rfl dX8_undo_178 rfl fl_147 rfl rfl (Or.inl rfl) ?_
  obtain rfl := Option.some.inj hf
  exact e_ireturn dX8_undo_181 rfl ⟨rfl, rfl⟩
def p_X8_undo_149  (h : Mem)   (s0 : Int) : Option (Int × Mem) :=
  gd (s0 = 0 ∨ s0 = 1) (p_X8_undo_174  (up h 7 7 s0)   )
set_option maxRecDepth 20000 in
theorem q_X8_undo_149  (h : Mem)     (s0 : Int) {X : Int × Mem}  (hf : p_X8_undo_149  h   s0 = some X) : E m_X8_undo none (fun r h' => r = some (vi X.1) ∧ h' = X.2) 149 [some (vr 0), none, none] [vi s0, vr 7] h := by
  unfold p_X8_undo_149 at hf
  obtain ⟨g149, hf⟩ := gd_some hf
  refine e_putI (t := 2) (kz := 7) rfl dX8_undo_149 rfl fp_83 rfl rfl (Or.inr ⟨rfl, g149⟩) ?_
  refine e_goto (tgt := 174) dX8_undo_152 (by decide) ?_
  exact e_mask [true, false, false] (q_X8_undo_174  (up h 7 7 s0)       hf)
def p_X8_undo (h : Mem)   : Option (Int × Mem) :=
  bd (p_X0_takeLast h ) (fun q4 => if q4.1 < 0 then (some ((-3), q4.2)) else (if q4.1 < 14 then (gd (0 ≤ q4.1 ∧ q4.1 < 14) (gd (0 ≤ q4.1 ∧ q4.1 < 14) (if q4.2 34 q4.1 = 0 then (gd (0 ≤ q4.1 ∧ q4.1 < 14) (bd (p_X6_setHeight q4.2 7 (q4.2 35 q4.1) (q4.2 36 q4.1)) (fun h86 => p_X8_undo_174  h86   ))) else (if q4.2 34 q4.1 = 1 then (p_X8_undo_174  (up q4.2 7 5 (bxor (q4.2 7 5) (bshl 1 (q4.2 35 q4.1))))   ) else (if q4.2 34 q4.1 = 2 then (gd (0 ≤ q4.1 ∧ q4.1 < 14) (bd (p_X6_setOwner q4.2 7 (q4.2 35 q4.1) (q4.2 36 q4.1)) (fun h124 => p_X8_undo_174  h124   ))) else (if q4.2 34 q4.1 = 3 then (if q4.2 7 7 = 0 then (p_X8_undo_149  q4.2   1) else (p_X8_undo_149  q4.2   0)) else (bd (p_X8_payPurses (up q4.2 7 6 (wr ((q4.2 7 6) - 1))) (-1)) (fun q170 => p_X8_undo_174  q170.2   )))))))) else (some ((-3), q4.2))))
set_option maxRecDepth 20000 in
theorem q_X8_undo (h : Mem)    {X : Int × Mem} (hf : p_X8_undo h   = some X) : Cn m_X8_undo [vr 0] h (fun r h' => r = some (vi X.1) ∧ h' = X.2) := by
  unfold p_X8_undo at hf
  have key : E m_X8_undo none (fun r h' => r = some (vi X.1) ∧ h' = X.2) 0 [some (vr 0), none, none] [] h := by
    refine e_aload_n dX8_undo_0 rfl ?_
    refine e_getR dX8_undo_1 rfl fl_198 rfl rfl ?_
    obtain ⟨q4, e4, hf⟩ := bd_some hf
    refine e_callV0i dX8_undo_4 rfl lk_477 ⟨rfl, rfl, Nat.le_of_ble_eq_true rfl, Nat.le_of_ble_eq_true rfl⟩ rfl rfl (Nat.le_of_ble_eq_true rfl) (q_X0_takeLast h    e4) ?_
    refine e_istore_n (ls' := [some (vr 0), some (vi q4.1), none]) dX8_undo_7 (Nat.le_of_ble_eq_true rfl) rfl ?_
    refine e_iload_n dX8_undo_8 rfl ?_
    refine e_if_lt (tgt := 18) dX8_undo_9 (by decide) (fun c9 => ?_) (fun c9 => ?_)
    · replace hf := ifp hf c9
      refine e_bipush dX8_undo_18 ⟨by decide, by decide, by decide⟩ ?_
      obtain rfl := Option.some.inj hf
      exact e_ireturn dX8_undo_20 rfl ⟨rfl, rfl⟩
    · replace hf := ifn hf c9
      refine e_iload_n dX8_undo_12 rfl ?_
      refine e_bipush dX8_undo_13 ⟨by decide, by decide, by decide⟩ ?_
      refine e_icmp_lt (tgt := 21) dX8_undo_15 (by decide) (fun c15 => ?_) (fun c15 => ?_)
      · replace hf := ifp hf c15
        refine e_aload_n dX8_undo_21 rfl ?_
        refine e_getR dX8_undo_22 rfl fl_198 rfl rfl ?_
        refine e_getR dX8_undo_25 rfl fl_143 rfl rfl ?_
        refine e_iload_n dX8_undo_28 rfl ?_
        obtain ⟨g29, hf⟩ := gd_some hf
        refine e_iald dX8_undo_29 rfl g29 ?_
        refine e_istore_n (ls' := [some (vr 0), some (vi q4.1), some (vi (q4.2 35 q4.1))]) dX8_undo_30 (Nat.le_of_ble_eq_true rfl) rfl ?_
        refine e_aload_n dX8_undo_31 rfl ?_
        refine e_getR dX8_undo_32 rfl fl_198 rfl rfl ?_
        refine e_getR dX8_undo_35 rfl fl_141 rfl rfl ?_
        refine e_iload_n dX8_undo_38 rfl ?_
        obtain ⟨g39, hf⟩ := gd_some hf
        refine e_iald dX8_undo_39 rfl g39 ?_
        by_cases c40_0 : q4.2 34 q4.1 = 0
        · replace hf := ifp hf c40_0
          refine e_tswIn (off := 32) (tgt := 72) dX8_undo_40 (by omega) (by omega) (by rw [c40_0]; rfl) (by decide) ?_
          refine e_aload_n dX8_undo_72 rfl ?_
          refine e_getR dX8_undo_73 rfl fl_193 rfl rfl ?_
          refine e_iload_n dX8_undo_76 rfl ?_
          refine e_aload_n dX8_undo_77 rfl ?_
          refine e_getR dX8_undo_78 rfl fl_198 rfl rfl ?_
          refine e_getR dX8_undo_81 rfl fl_145 rfl rfl ?_
          refine e_iload_n dX8_undo_84 rfl ?_
          obtain ⟨g85, hf⟩ := gd_some hf
          refine e_iald dX8_undo_85 rfl g85 ?_
          obtain ⟨h86, e86, hf⟩ := bd_some hf
          refine e_callV2v dX8_undo_86 rfl lk_422 ⟨rfl, rfl, Nat.le_of_ble_eq_true rfl, Nat.le_of_ble_eq_true rfl⟩ rfl rfl (Nat.le_of_ble_eq_true rfl) (q_X6_setHeight q4.2 7 isT7 (q4.2 35 q4.1) (q4.2 36 q4.1) e86) ?_
          refine e_goto (tgt := 174) dX8_undo_89 (by decide) ?_
          exact e_mask [true, false, false] (q_X8_undo_174  h86       hf)
        replace hf := ifn hf c40_0
        by_cases c40_1 : q4.2 34 q4.1 = 1
        · replace hf := ifp hf c40_1
          refine e_tswIn (off := 52) (tgt := 92) dX8_undo_40 (by omega) (by omega) (by rw [c40_1]; rfl) (by decide) ?_
          refine e_aload_n dX8_undo_92 rfl ?_
          refine e_getR dX8_undo_93 rfl fl_193 rfl rfl ?_
          refine e_dup dX8_undo_96 (fun _ => rfl) ?_
          refine e_getI (kz := 5) rfl dX8_undo_97 rfl fl_78 rfl rfl (Or.inl rfl) ?_
          refine e_iconst dX8_undo_100 ⟨by decide, by decide⟩ ?_
          refine e_iload_n dX8_undo_101 rfl ?_
          refine e_ishl dX8_undo_102 ?_
          refine e_ixor dX8_undo_103 ?_
          refine e_putI (t := 0) (kz := 5) rfl dX8_undo_104 rfl fp_78 rfl rfl (Or.inl rfl) ?_
          refine e_goto (tgt := 174) dX8_undo_107 (by decide) ?_
          exact e_mask [true, false, false] (q_X8_undo_174  (up q4.2 7 5 (bxor (q4.2 7 5) (bshl 1 (q4.2 35 q4.1))))       hf)
        replace hf := ifn hf c40_1
        by_cases c40_2 : q4.2 34 q4.1 = 2
        · replace hf := ifp hf c40_2
          refine e_tswIn (off := 70) (tgt := 110) dX8_undo_40 (by omega) (by omega) (by rw [c40_2]; rfl) (by decide) ?_
          refine e_aload_n dX8_undo_110 rfl ?_
          refine e_getR dX8_undo_111 rfl fl_193 rfl rfl ?_
          refine e_iload_n dX8_undo_114 rfl ?_
          refine e_aload_n dX8_undo_115 rfl ?_
          refine e_getR dX8_undo_116 rfl fl_198 rfl rfl ?_
          refine e_getR dX8_undo_119 rfl fl_145 rfl rfl ?_
          refine e_iload_n dX8_undo_122 rfl ?_
          obtain ⟨g123, hf⟩ := gd_some hf
          refine e_iald dX8_undo_123 rfl g123 ?_
          obtain ⟨h124, e124, hf⟩ := bd_some hf
          refine e_callV2v dX8_undo_124 rfl lk_445 ⟨rfl, rfl, Nat.le_of_ble_eq_true rfl, Nat.le_of_ble_eq_true rfl⟩ rfl rfl (Nat.le_of_ble_eq_true rfl) (q_X6_setOwner q4.2 7 isT7 (q4.2 35 q4.1) (q4.2 36 q4.1) e124) ?_
          refine e_goto (tgt := 174) dX8_undo_127 (by decide) ?_
          exact e_mask [true, false, false] (q_X8_undo_174  h124       hf)
        replace hf := ifn hf c40_2
        by_cases c40_3 : q4.2 34 q4.1 = 3
        · replace hf := ifp hf c40_3
          refine e_tswIn (off := 90) (tgt := 130) dX8_undo_40 (by omega) (by omega) (by rw [c40_3]; rfl) (by decide) ?_
          refine e_aload_n dX8_undo_130 rfl ?_
          refine e_getR dX8_undo_131 rfl fl_193 rfl rfl ?_
          refine e_aload_n dX8_undo_134 rfl ?_
          refine e_getR dX8_undo_135 rfl fl_193 rfl rfl ?_
          refine e_getI (kz := 7) rfl dX8_undo_138 rfl fl_83 rfl rfl (Or.inr rfl) ?_
          refine e_if_ne (tgt := 148) dX8_undo_141 (by decide) (fun c141 => ?_) (fun c141 => ?_)
          · replace hf := ifn hf c141
            refine e_iconst dX8_undo_148 ⟨by decide, by decide⟩ ?_
            exact e_mask [true, false, false] (q_X8_undo_149  q4.2     0  hf)
          · replace hf := ifp hf c141
            refine e_iconst dX8_undo_144 ⟨by decide, by decide⟩ ?_
            refine e_goto (tgt := 149) dX8_undo_145 (by decide) ?_
            exact e_mask [true, false, false] (q_X8_undo_149  q4.2     1  hf)
        replace hf := ifn hf c40_3
        refine e_tswOut (tgt := 155) dX8_undo_40 (by omega) (by decide) ?_
        refine e_aload_n dX8_undo_155 rfl ?_
        refine e_getR dX8_undo_156 rfl fl_193 rfl rfl ?_
        refine e_dup dX8_undo_159 (fun _ => rfl) ?_
        refine e_getI (kz := 6) rfl dX8_undo_160 rfl fl_80 rfl rfl (Or.inl rfl) ?_
        refine e_iconst dX8_undo_163 ⟨by decide, by decide⟩ ?_
        refine e_isub dX8_undo_164 ?_
        refine e_putI (t := 0) (kz := 6) rfl dX8_undo_165 rfl fp_80 rfl rfl (Or.inl rfl) ?_
        refine e_aload_n dX8_undo_168 rfl ?_
        refine e_iconst dX8_undo_169 ⟨by decide, by decide⟩ ?_
        obtain ⟨q170, e170, hf⟩ := bd_some hf
        refine e_callV1i dX8_undo_170 rfl lk_457 ⟨rfl, rfl, Nat.le_of_ble_eq_true rfl, Nat.le_of_ble_eq_true rfl⟩ rfl rfl (Nat.le_of_ble_eq_true rfl) (q_X8_payPurses (up q4.2 7 6 (wr ((q4.2 7 6) - 1)))   (-1) e170) ?_
        refine e_pop dX8_undo_173 (fun _ => rfl) ?_
        exact e_mask [true, false, false] (q_X8_undo_174  q170.2       hf)
      · replace hf := ifn hf c15
        refine e_bipush dX8_undo_18 ⟨by decide, by decide, by decide⟩ ?_
        obtain rfl := Option.some.inj hf
        exact e_ireturn dX8_undo_20 rfl ⟨rfl, rfl⟩
  exact Cn_of rfl (fun _ => Nat.le_of_ble_eq_true rfl) ⟨rfl, rfl⟩ (e_pad 2 key)
abbrev m_X8_rents : MI := (yX8_rents, cX8_rents, 4, some .int, { frames := 6, cells := 0, slots := 0, locals := 139 })
def p_X8_rents_54  (h : Mem)   (l2 s0 : Int) : Option (Int × Mem) :=
  bd (p_X2_takings h 7 s0 l2) (fun r69 => some (r69, h))
set_option maxRecDepth 20000 in
theorem q_X8_rents_54  (h : Mem)     (l2 s0 : Int) {X : Int × Mem}  (hf : p_X8_rents_54  h   l2 s0 = some X) : E m_X8_rents none (fun r h' => r = some (vi X.1) ∧ h' = X.2) 54 [some (vr 0), none, some (vi l2), none] [vi s0] h := by
  unfold p_X8_rents_54 at hf
  refine e_istore_n (ls' := [some (vr 0), none, some (vi l2), some (vi s0)]) dX8_rents_54 (Nat.le_of_ble_eq_true rfl) rfl ?_
  refine e_aload_n dX8_rents_55 rfl ?_
  refine e_getR dX8_rents_56 rfl fl_197 rfl rfl ?_
  refine e_aload_n dX8_rents_59 rfl ?_
  refine e_getR dX8_rents_60 rfl fl_193 rfl rfl ?_
  refine e_aload_n dX8_rents_63 rfl ?_
  refine e_getR dX8_rents_64 rfl fl_192 rfl rfl ?_
  refine e_iload_n dX8_rents_67 rfl ?_
  refine e_iload_n dX8_rents_68 rfl ?_
  obtain ⟨r69, e69, hf⟩ := bd_some hf
  refine e_callV4i dX8_rents_69 rfl lk_465 ⟨rfl, rfl, Nat.le_of_ble_eq_true rfl, Nat.le_of_ble_eq_true rfl⟩ rfl rfl (Nat.le_of_ble_eq_true rfl) (q_X2_takings h 7 isT7 s0 l2 e69) ?_
  obtain rfl := Option.some.inj hf
  exact e_ireturn dX8_rents_72 rfl ⟨rfl, rfl⟩
def p_X8_rents_14  (h : Mem)   (l1 l2 : Int) : Option (Int × Mem) :=
  if l2 < 0 then (some ((-2), h)) else (if l2 ≤ 12 then (bd (p_X8_surveyTown h ) (fun h28 => if l1 = 4 then (bd (p_X6_everyRoof h28 7) (fun r40 => p_X8_rents_54  h28   l2 r40)) else (bd (p_X6_roofsOf h28 7 l1) (fun r51 => p_X8_rents_54  h28   l2 r51)))) else (some ((-2), h)))
set_option maxRecDepth 20000 in
theorem q_X8_rents_14  (h : Mem)     (l1 l2 : Int) {X : Int × Mem}  (hf : p_X8_rents_14  h   l1 l2 = some X) : E m_X8_rents none (fun r h' => r = some (vi X.1) ∧ h' = X.2) 14 [some (vr 0), some (vi l1), some (vi l2), none] [] h := by
  unfold p_X8_rents_14 at hf
  refine e_iload_n dX8_rents_14 rfl ?_
  refine e_if_lt (tgt := 24) dX8_rents_15 (by decide) (fun c15 => ?_) (fun c15 => ?_)
  · replace hf := ifp hf c15
    refine e_bipush dX8_rents_24 ⟨by decide, by decide, by decide⟩ ?_
    obtain rfl := Option.some.inj hf
    exact e_ireturn dX8_rents_26 rfl ⟨rfl, rfl⟩
  · replace hf := ifn hf c15
    refine e_iload_n dX8_rents_18 rfl ?_
    refine e_bipush dX8_rents_19 ⟨by decide, by decide, by decide⟩ ?_
    refine e_icmp_le (tgt := 27) dX8_rents_21 (by decide) (fun c21 => ?_) (fun c21 => ?_)
    · replace hf := ifp hf c21
      refine e_aload_n dX8_rents_27 rfl ?_
      obtain ⟨h28, e28, hf⟩ := bd_some hf
      refine e_callV0v dX8_rents_28 rfl lk_349 ⟨rfl, rfl, Nat.le_of_ble_eq_true rfl, Nat.le_of_ble_eq_true rfl⟩ rfl rfl (Nat.le_of_ble_eq_true rfl) (q_X8_surveyTown h    e28) ?_
      refine e_iload_n dX8_rents_31 rfl ?_
      refine e_iconst dX8_rents_32 ⟨by decide, by decide⟩ ?_
      refine e_icmp_ne (tgt := 46) dX8_rents_33 (by decide) (fun c33 => ?_) (fun c33 => ?_)
      · replace hf := ifn hf c33
        refine e_aload_n dX8_rents_46 rfl ?_
        refine e_getR dX8_rents_47 rfl fl_193 rfl rfl ?_
        refine e_iload_n dX8_rents_50 rfl ?_
        obtain ⟨r51, e51, hf⟩ := bd_some hf
        refine e_callV1i dX8_rents_51 rfl lk_461 ⟨rfl, rfl, Nat.le_of_ble_eq_true rfl, Nat.le_of_ble_eq_true rfl⟩ rfl rfl (Nat.le_of_ble_eq_true rfl) (q_X6_roofsOf h28 7 isT7 l1 e51) ?_
        exact e_mask [true, false, true, false] (q_X8_rents_54  h28     l2 r51  hf)
      · replace hf := ifp hf c33
        refine e_aload_n dX8_rents_36 rfl ?_
        refine e_getR dX8_rents_37 rfl fl_193 rfl rfl ?_
        obtain ⟨r40, e40, hf⟩ := bd_some hf
        refine e_callV0i dX8_rents_40 rfl lk_344 ⟨rfl, rfl, Nat.le_of_ble_eq_true rfl, Nat.le_of_ble_eq_true rfl⟩ rfl rfl (Nat.le_of_ble_eq_true rfl) (q_X6_everyRoof h28 7 isT7  e40) ?_
        refine e_goto (tgt := 54) dX8_rents_43 (by decide) ?_
        exact e_mask [true, false, true, false] (q_X8_rents_54  h28     l2 r40  hf)
    · replace hf := ifn hf c21
      refine e_bipush dX8_rents_24 ⟨by decide, by decide, by decide⟩ ?_
      obtain rfl := Option.some.inj hf
      exact e_ireturn dX8_rents_26 rfl ⟨rfl, rfl⟩
def p_X8_rents (h : Mem)  (l1 l2 : Int) : Option (Int × Mem) :=
  bd (p_X8_isLandlord h l1) (fun r1 => if r1 = 0 then (if l1 = 4 then (p_X8_rents_14  h   l1 l2) else (some ((-1), h))) else (p_X8_rents_14  h   l1 l2))
set_option maxRecDepth 20000 in
theorem q_X8_rents (h : Mem)   (l1 l2 : Int) {X : Int × Mem} (hf : p_X8_rents h  l1 l2 = some X) : Cn m_X8_rents [vr 0, vi l1, vi l2] h (fun r h' => r = some (vi X.1) ∧ h' = X.2) := by
  unfold p_X8_rents at hf
  have key : E m_X8_rents none (fun r h' => r = some (vi X.1) ∧ h' = X.2) 0 [some (vr 0), some (vi l1), some (vi l2), none] [] h := by
    refine e_iload_n dX8_rents_0 rfl ?_
    obtain ⟨r1, e1, hf⟩ := bd_some hf
    refine e_callS1i dX8_rents_1 rfl lk_415 ⟨rfl, rfl, Nat.le_of_ble_eq_true rfl, Nat.le_of_ble_eq_true rfl⟩ (Nat.le_of_ble_eq_true rfl) (q_X8_isLandlord h   l1 e1) ?_
    refine e_if_ne (tgt := 14) dX8_rents_4 (by decide) (fun c4 => ?_) (fun c4 => ?_)
    · replace hf := ifn hf c4
      exact e_mask [true, true, true, false] (q_X8_rents_14  h     l1 l2  hf)
    · replace hf := ifp hf c4
      refine e_iload_n dX8_rents_7 rfl ?_
      refine e_iconst dX8_rents_8 ⟨by decide, by decide⟩ ?_
      refine e_icmp_eq (tgt := 14) dX8_rents_9 (by decide) (fun c9 => ?_) (fun c9 => ?_)
      · replace hf := ifp hf c9
        exact e_mask [true, true, true, false] (q_X8_rents_14  h     l1 l2  hf)
      · replace hf := ifn hf c9
        refine e_iconst dX8_rents_12 ⟨by decide, by decide⟩ ?_
        obtain rfl := Option.some.inj hf
        exact e_ireturn dX8_rents_13 rfl ⟨rfl, rfl⟩
  exact Cn_of rfl (fun _ => Nat.le_of_ble_eq_true rfl) ⟨rfl, rfl⟩ (e_pad 1 key)
abbrev m_X8_isSpan : MI := (yX8_isSpan, cX8_isSpan, 2, some .boolean, { frames := 0, cells := 0, slots := 0, locals := 0 })
def p_X8_isSpan (h : Mem)  (l0 l1 : Int) : Option (Int) :=
  if l0 < 1 then (some 0) else (if l1 < l0 then (some 0) else (some 1))
set_option maxRecDepth 20000 in
theorem q_X8_isSpan (h : Mem)   (l0 l1 : Int) {X : Int} (hf : p_X8_isSpan h  l0 l1 = some X) : Cn m_X8_isSpan [vi l0, vi l1] h (fun r h' => r = some (vi X) ∧ h' = h) := by
  unfold p_X8_isSpan at hf
  have key : E m_X8_isSpan none (fun r h' => r = some (vi X) ∧ h' = h) 0 [some (vi l0), some (vi l1)] [] h := by
    refine e_iload_n dX8_isSpan_0 rfl ?_
    refine e_iconst dX8_isSpan_1 ⟨by decide, by decide⟩ ?_
    refine e_icmp_lt (tgt := 14) dX8_isSpan_2 (by decide) (fun c2 => ?_) (fun c2 => ?_)
    · replace hf := ifp hf c2
      refine e_iconst dX8_isSpan_14 ⟨by decide, by decide⟩ ?_
      obtain rfl := Option.some.inj hf
      exact e_zreturn dX8_isSpan_15 rfl (by decide) ⟨rfl, rfl⟩
    · replace hf := ifn hf c2
      refine e_iload_n dX8_isSpan_5 rfl ?_
      refine e_iload_n dX8_isSpan_6 rfl ?_
      refine e_icmp_gt (tgt := 14) dX8_isSpan_7 (by decide) (fun c7 => ?_) (fun c7 => ?_)
      · replace hf := ifp hf c7
        refine e_iconst dX8_isSpan_14 ⟨by decide, by decide⟩ ?_
        obtain rfl := Option.some.inj hf
        exact e_zreturn dX8_isSpan_15 rfl (by decide) ⟨rfl, rfl⟩
      · replace hf := ifn hf c7
        refine e_iconst dX8_isSpan_10 ⟨by decide, by decide⟩ ?_
        refine e_goto (tgt := 15) dX8_isSpan_11 (by decide) ?_
        obtain rfl := Option.some.inj hf
        exact e_zreturn dX8_isSpan_15 rfl (by decide) ⟨rfl, rfl⟩
  exact Cn_of rfl (fun _ => Nat.le_of_ble_eq_true rfl) ⟨rfl, rfl⟩ (e_pad 0 key)
theorem lk_489 : SLk "StarRight" 218 m_X8_isSpan 2 := ⟨tw_489, tw_490, tw_1, tw_491, by decide +kernel⟩
theorem lk_492 : VLk "StarRight" 222 m_X4_cellsPassed 3 := ⟨tw_492, tw_493, tw_494, tw_3, tw_495, by decide +kernel⟩
theorem lk_497 : VLk "StarRight" 226 m_X2_cellsSeenBy 1 := ⟨tw_497, tw_498, tw_499, tw_6, tw_500, by decide +kernel⟩
theorem lk_501 : SLk "StarRight" 229 m_J6_bitCount_0f7a4 1 := ⟨tw_501, tw_502, tw_13, tw_503, by decide +kernel⟩
abbrev m_X8_hold : MI := (yX8_hold, cX8_hold, 7, some .int, { frames := 6, cells := 0, slots := 0, locals := 139 })
def p_X8_hold_117 (K53 : Mem → Int → Int → Int → Option (Int × Mem)) (h : Mem)   (l3 l4 l5 : Int) : Option (Int × Mem) :=
  K53 h l3 l4 (wr (l5 + 1))
set_option maxRecDepth 20000 in
theorem q_X8_hold_117 (K53 : Mem → Int → Int → Int → Option (Int × Mem)) (h : Mem)     (l3 l4 l5 : Int) {X : Int × Mem} (hK53 : ∀ (h : Mem) (l3 l4 l5 : Int), K53 h l3 l4 l5 = some X → E m_X8_hold none (fun r h' => r = some (vi X.1) ∧ h' = X.2) 53 [some (vr 0), none, none, some (vi l3), some (vi l4), some (vi l5), none] [] h) (hf : p_X8_hold_117 K53 h   l3 l4 l5 = some X) : E m_X8_hold none (fun r h' => r = some (vi X.1) ∧ h' = X.2) 117 [some (vr 0), none, none, some (vi l3), some (vi l4), some (vi l5), none] [] h := by
  unfold p_X8_hold_117 at hf
  refine e_iinc (ls' := [some (vr 0), none, none, some (vi l3), some (vi l4), some (vi (wr (l5 + 1))), none]) dX8_hold_117 rfl (Nat.le_of_ble_eq_true rfl) rfl ?_
  refine e_goto (tgt := 53) dX8_hold_120 (by decide) ?_
  exact e_mask [true, false, false, true, true, true, false] (hK53 h l3 l4 (wr (l5 + 1)) hf)
def p_X8_hold_113 (K53 : Mem → Int → Int → Int → Option (Int × Mem)) (h : Mem)   (l3 l5 : Int) : Option (Int × Mem) :=
  p_X8_hold_117 K53 h   l3 l5 l5
set_option maxRecDepth 20000 in
theorem q_X8_hold_113 (K53 : Mem → Int → Int → Int → Option (Int × Mem)) (h : Mem)     (l3 l5 : Int) {X : Int × Mem} (hK53 : ∀ (h : Mem) (l3 l4 l5 : Int), K53 h l3 l4 l5 = some X → E m_X8_hold none (fun r h' => r = some (vi X.1) ∧ h' = X.2) 53 [some (vr 0), none, none, some (vi l3), some (vi l4), some (vi l5), none] [] h) (hf : p_X8_hold_113 K53 h   l3 l5 = some X) : E m_X8_hold none (fun r h' => r = some (vi X.1) ∧ h' = X.2) 113 [some (vr 0), none, none, some (vi l3), none, some (vi l5), none] [] h := by
  unfold p_X8_hold_113 at hf
  refine e_iload dX8_hold_113 rfl ?_
  refine e_istore (ls' := [some (vr 0), none, none, some (vi l3), some (vi l5), some (vi l5), none]) dX8_hold_115 (Nat.le_of_ble_eq_true rfl) rfl ?_
  exact e_mask [true, false, false, true, true, true, false] (q_X8_hold_117 K53 h     l3 l5 l5 hK53 hf)
def p_X8_hold_86 (K53 : Mem → Int → Int → Int → Option (Int × Mem)) (h : Mem)   (l3 l4 l5 s0 : Int) : Option (Int × Mem) :=
  if s0 = 0 then (p_X8_hold_117 K53 h   l3 l4 l5) else (if l4 = (-9) then (p_X8_hold_113 K53 h   l3 l5) else (bd (p_J6_bitCount_0f7a4 h l5) (fun r102 => bd (p_J6_bitCount_0f7a4 h l4) (fun r107 => if r107 ≤ r102 then (p_X8_hold_117 K53 h   l3 l4 l5) else (p_X8_hold_113 K53 h   l3 l5)))))
set_option maxRecDepth 20000 in
theorem q_X8_hold_86 (K53 : Mem → Int → Int → Int → Option (Int × Mem)) (h : Mem)     (l3 l4 l5 s0 : Int) {X : Int × Mem} (hK53 : ∀ (h : Mem) (l3 l4 l5 : Int), K53 h l3 l4 l5 = some X → E m_X8_hold none (fun r h' => r = some (vi X.1) ∧ h' = X.2) 53 [some (vr 0), none, none, some (vi l3), some (vi l4), some (vi l5), none] [] h) (hf : p_X8_hold_86 K53 h   l3 l4 l5 s0 = some X) : E m_X8_hold none (fun r h' => r = some (vi X.1) ∧ h' = X.2) 86 [some (vr 0), none, none, some (vi l3), some (vi l4), some (vi l5), none] [vi s0] h := by
  unfold p_X8_hold_86 at hf
  refine e_istore (ls' := [some (vr 0), none, none, some (vi l3), some (vi l4), some (vi l5), some (vi s0)]) dX8_hold_86 (Nat.le_of_ble_eq_true rfl) rfl ?_
  refine e_iload dX8_hold_88 rfl ?_
  refine e_if_eq (tgt := 117) dX8_hold_90 (by decide) (fun c90 => ?_) (fun c90 => ?_)
  · replace hf := ifp hf c90
    exact e_mask [true, false, false, true, true, true, false] (q_X8_hold_117 K53 h     l3 l4 l5 hK53 hf)
  · replace hf := ifn hf c90
    refine e_iload dX8_hold_93 rfl ?_
    refine e_bipush dX8_hold_95 ⟨by decide, by decide, by decide⟩ ?_
    refine e_icmp_eq (tgt := 113) dX8_hold_97 (by decide) (fun c97 => ?_) (fun c97 => ?_)
    · replace hf := ifp hf c97
      exact e_mask [true, false, false, true, false, true, false] (q_X8_hold_113 K53 h     l3 l5 hK53 hf)
    · replace hf := ifn hf c97
      refine e_iload dX8_hold_100 rfl ?_
      obtain ⟨r102, e102, hf⟩ := bd_some hf
      refine e_callS1i dX8_hold_102 rfl lk_501 ⟨rfl, rfl, Nat.le_of_ble_eq_true rfl, Nat.le_of_ble_eq_true rfl⟩ (Nat.le_of_ble_eq_true rfl) (q_J6_bitCount_0f7a4 h   l5 e102) ?_
      refine e_iload dX8_hold_105 rfl ?_
      obtain ⟨r107, e107, hf⟩ := bd_some hf
      refine e_callS1i dX8_hold_107 rfl lk_501 ⟨rfl, rfl, Nat.le_of_ble_eq_true rfl, Nat.le_of_ble_eq_true rfl⟩ (Nat.le_of_ble_eq_true rfl) (q_J6_bitCount_0f7a4 h   l4 e107) ?_
      refine e_icmp_ge (tgt := 117) dX8_hold_110 (by decide) (fun c110 => ?_) (fun c110 => ?_)
      · replace hf := ifp hf c110
        exact e_mask [true, false, false, true, true, true, false] (q_X8_hold_117 K53 h     l3 l4 l5 hK53 hf)
      · replace hf := ifn hf c110
        exact e_mask [true, false, false, true, false, true, false] (q_X8_hold_113 K53 h     l3 l5 hK53 hf)
def p_X8_hold_53 (K53 : Mem → Int → Int → Int → Option (Int × Mem)) (h : Mem)   (l3 l4 l5 : Int) : Option (Int × Mem) :=
  bd (p_X6_everyRoof h 7) (fun r59 => if r59 < l5 then (some (l4, h)) else (bd (p_X2_cellsSeenBy h l5) (fun r72 => if band l3 (bxor r72 (-1)) = 0 then (p_X8_hold_86 K53 h   l3 l4 l5 1) else (p_X8_hold_86 K53 h   l3 l4 l5 0))))
set_option maxRecDepth 20000 in
theorem q_X8_hold_53 (K53 : Mem → Int → Int → Int → Option (Int × Mem)) (h : Mem)     (l3 l4 l5 : Int) {X : Int × Mem} (hK53 : ∀ (h : Mem) (l3 l4 l5 : Int), K53 h l3 l4 l5 = some X → E m_X8_hold none (fun r h' => r = some (vi X.1) ∧ h' = X.2) 53 [some (vr 0), none, none, some (vi l3), some (vi l4), some (vi l5), none] [] h) (hf : p_X8_hold_53 K53 h   l3 l4 l5 = some X) : E m_X8_hold none (fun r h' => r = some (vi X.1) ∧ h' = X.2) 53 [some (vr 0), none, none, some (vi l3), some (vi l4), some (vi l5), none] [] h := by
  unfold p_X8_hold_53 at hf
  refine e_iload dX8_hold_53 rfl ?_
  refine e_aload_n dX8_hold_55 rfl ?_
  refine e_getR dX8_hold_56 rfl fl_193 rfl rfl ?_
  obtain ⟨r59, e59, hf⟩ := bd_some hf
  refine e_callV0i dX8_hold_59 rfl lk_344 ⟨rfl, rfl, Nat.le_of_ble_eq_true rfl, Nat.le_of_ble_eq_true rfl⟩ rfl rfl (Nat.le_of_ble_eq_true rfl) (q_X6_everyRoof h 7 isT7  e59) ?_
  refine e_icmp_gt (tgt := 123) dX8_hold_62 (by decide) (fun c62 => ?_) (fun c62 => ?_)
  · replace hf := ifp hf c62
    refine e_iload dX8_hold_123 rfl ?_
    obtain rfl := Option.some.inj hf
    exact e_ireturn dX8_hold_125 rfl ⟨rfl, rfl⟩
  · replace hf := ifn hf c62
    refine e_iload_n dX8_hold_65 rfl ?_
    refine e_aload_n dX8_hold_66 rfl ?_
    refine e_getR dX8_hold_67 rfl fl_197 rfl rfl ?_
    refine e_iload dX8_hold_70 rfl ?_
    obtain ⟨r72, e72, hf⟩ := bd_some hf
    refine e_callV1i dX8_hold_72 rfl lk_497 ⟨rfl, rfl, Nat.le_of_ble_eq_true rfl, Nat.le_of_ble_eq_true rfl⟩ rfl rfl (Nat.le_of_ble_eq_true rfl) (q_X2_cellsSeenBy h   l5 e72) ?_
    refine e_iconst dX8_hold_75 ⟨by decide, by decide⟩ ?_
    refine e_ixor dX8_hold_76 ?_
    refine e_iand dX8_hold_77 ?_
    refine e_if_ne (tgt := 85) dX8_hold_78 (by decide) (fun c78 => ?_) (fun c78 => ?_)
    · replace hf := ifn hf c78
      refine e_iconst dX8_hold_85 ⟨by decide, by decide⟩ ?_
      exact e_mask [true, false, false, true, true, true, false] (q_X8_hold_86 K53 h     l3 l4 l5 0 hK53 hf)
    · replace hf := ifp hf c78
      refine e_iconst dX8_hold_81 ⟨by decide, by decide⟩ ?_
      refine e_goto (tgt := 86) dX8_hold_82 (by decide) ?_
      exact e_mask [true, false, false, true, true, true, false] (q_X8_hold_86 K53 h     l3 l4 l5 1 hK53 hf)
def p_X8_hold_L53     : Nat → Mem → Int → Int → Int → Option (Int × Mem)
  | 0, _, _, _, _ => none
  | n + 1, h, l3, l4, l5 => p_X8_hold_53 (fun (h : Mem) (l3 l4 l5 : Int) => p_X8_hold_L53     n h l3 l4 l5) h   l3 l4 l5
theorem q_X8_hold_L53       {X : Int × Mem}  : ∀ (n : Nat) (h : Mem) (l3 l4 l5 : Int), p_X8_hold_L53     n h l3 l4 l5 = some X → E m_X8_hold none (fun r h' => r = some (vi X.1) ∧ h' = X.2) 53 [some (vr 0), none, none, some (vi l3), some (vi l4), some (vi l5), none] [] h := by
  intro n
  induction n with
  | zero => intro h l3 l4 l5 hf; have hf2 : (none : Option (Int × Mem)) = some X := hf; cases hf2
  | succ n ih => intro h l3 l4 l5 hf; exact q_X8_hold_53 (fun (h : Mem) (l3 l4 l5 : Int) => p_X8_hold_L53     n h l3 l4 l5) h     l3 l4 l5 (fun h l3 l4 l5 hf => ih h l3 l4 l5 hf) hf
def p_X8_hold (h : Mem)  (l1 l2 : Int) : Option (Int × Mem) :=
  bd (p_X4_hasStar h l1) (fun r5 => if r5 = 0 then (some ((-1), h)) else (bd (p_X8_isSpan h l2 10) (fun r16 => if r16 = 0 then (some ((-2), h)) else (bd (p_X8_surveyTown h ) (fun h26 => bd (p_X4_cellsPassed h26 l1 (h26 7 6) l2) (fun r42 => p_X8_hold_L53     300 h26 r42 (-9) 0))))))
set_option maxRecDepth 20000 in
theorem q_X8_hold (h : Mem)   (l1 l2 : Int) {X : Int × Mem} (hf : p_X8_hold h  l1 l2 = some X) : Cn m_X8_hold [vr 0, vi l1, vi l2] h (fun r h' => r = some (vi X.1) ∧ h' = X.2) := by
  unfold p_X8_hold at hf
  have key : E m_X8_hold none (fun r h' => r = some (vi X.1) ∧ h' = X.2) 0 [some (vr 0), some (vi l1), some (vi l2), none, none, none, none] [] h := by
    refine e_aload_n dX8_hold_0 rfl ?_
    refine e_getR dX8_hold_1 rfl fl_192 rfl rfl ?_
    refine e_iload_n dX8_hold_4 rfl ?_
    obtain ⟨r5, e5, hf⟩ := bd_some hf
    refine e_callV1i dX8_hold_5 rfl lk_393 ⟨rfl, rfl, Nat.le_of_ble_eq_true rfl, Nat.le_of_ble_eq_true rfl⟩ rfl rfl (Nat.le_of_ble_eq_true rfl) (q_X4_hasStar h   l1 e5) ?_
    refine e_if_ne (tgt := 13) dX8_hold_8 (by decide) (fun c8 => ?_) (fun c8 => ?_)
    · replace hf := ifn hf c8
      refine e_iload_n dX8_hold_13 rfl ?_
      refine e_bipush dX8_hold_14 ⟨by decide, by decide, by decide⟩ ?_
      obtain ⟨r16, e16, hf⟩ := bd_some hf
      refine e_callS2i dX8_hold_16 rfl lk_489 ⟨rfl, rfl, Nat.le_of_ble_eq_true rfl, Nat.le_of_ble_eq_true rfl⟩ (Nat.le_of_ble_eq_true rfl) (q_X8_isSpan h   l2 10 e16) ?_
      refine e_if_ne (tgt := 25) dX8_hold_19 (by decide) (fun c19 => ?_) (fun c19 => ?_)
      · replace hf := ifn hf c19
        refine e_aload_n dX8_hold_25 rfl ?_
        obtain ⟨h26, e26, hf⟩ := bd_some hf
        refine e_callV0v dX8_hold_26 rfl lk_349 ⟨rfl, rfl, Nat.le_of_ble_eq_true rfl, Nat.le_of_ble_eq_true rfl⟩ rfl rfl (Nat.le_of_ble_eq_true rfl) (q_X8_surveyTown h    e26) ?_
        refine e_aload_n dX8_hold_29 rfl ?_
        refine e_getR dX8_hold_30 rfl fl_192 rfl rfl ?_
        refine e_iload_n dX8_hold_33 rfl ?_
        refine e_aload_n dX8_hold_34 rfl ?_
        refine e_getR dX8_hold_35 rfl fl_193 rfl rfl ?_
        refine e_getI (kz := 6) rfl dX8_hold_38 rfl fl_80 rfl rfl (Or.inl rfl) ?_
        refine e_iload_n dX8_hold_41 rfl ?_
        obtain ⟨r42, e42, hf⟩ := bd_some hf
        refine e_callV3i dX8_hold_42 rfl lk_492 ⟨rfl, rfl, Nat.le_of_ble_eq_true rfl, Nat.le_of_ble_eq_true rfl⟩ rfl rfl (Nat.le_of_ble_eq_true rfl) (q_X4_cellsPassed h26   l1 (h26 7 6) l2 e42) ?_
        refine e_istore_n (ls' := [some (vr 0), some (vi l1), some (vi l2), some (vi r42), none, none, none]) dX8_hold_45 (Nat.le_of_ble_eq_true rfl) rfl ?_
        refine e_bipush dX8_hold_46 ⟨by decide, by decide, by decide⟩ ?_
        refine e_istore (ls' := [some (vr 0), some (vi l1), some (vi l2), some (vi r42), some (vi (-9)), none, none]) dX8_hold_48 (Nat.le_of_ble_eq_true rfl) rfl ?_
        refine e_iconst dX8_hold_50 ⟨by decide, by decide⟩ ?_
        refine e_istore (ls' := [some (vr 0), some (vi l1), some (vi l2), some (vi r42), some (vi (-9)), some (vi 0), none]) dX8_hold_51 (Nat.le_of_ble_eq_true rfl) rfl ?_
        exact e_mask [true, false, false, true, true, true, false] (q_X8_hold_L53        300 h26 r42 (-9) 0 hf)
      · replace hf := ifp hf c19
        refine e_bipush dX8_hold_22 ⟨by decide, by decide, by decide⟩ ?_
        obtain rfl := Option.some.inj hf
        exact e_ireturn dX8_hold_24 rfl ⟨rfl, rfl⟩
    · replace hf := ifp hf c8
      refine e_iconst dX8_hold_11 ⟨by decide, by decide⟩ ?_
      obtain rfl := Option.some.inj hf
      exact e_ireturn dX8_hold_12 rfl ⟨rfl, rfl⟩
  exact Cn_of rfl (fun _ => Nat.le_of_ble_eq_true rfl) ⟨rfl, rfl⟩ (e_pad 4 key)
abbrev m_X8_gainOfFires : MI := (yX8_gainOfFires, cX8_gainOfFires, 3, some .int, { frames := 5, cells := 0, slots := 0, locals := 119 })
def p_X8_gainOfFires (h : Mem)  (l1 l2 : Int) : Option (Int × Mem) :=
  bd (p_X6_everyRoof (up h 12 5 l1) 12) (fun r20 => bd (p_X2_survey (up h 12 5 l1) 12 r20 ((up h 12 5 l1) 0 11)) (fun h27 => bd (p_X6_everyRoof h27 12) (fun r46 => bd (p_X2_takings h27 12 r46 l2) (fun r50 => bd (p_J6_bitCount_0f7a4 h27 l1) (fun r55 => some (wr (r50 + (wr (l2 * r55))), h27))))))
set_option maxRecDepth 20000 in
theorem q_X8_gainOfFires (h : Mem)   (l1 l2 : Int) {X : Int × Mem} (hf : p_X8_gainOfFires h  l1 l2 = some X) : Cn m_X8_gainOfFires [vr 0, vi l1, vi l2] h (fun r h' => r = some (vi X.1) ∧ h' = X.2) := by
  unfold p_X8_gainOfFires at hf
  have key : E m_X8_gainOfFires none (fun r h' => r = some (vi X.1) ∧ h' = X.2) 0 [some (vr 0), some (vi l1), some (vi l2)] [] h := by
    refine e_aload_n dX8_gainOfFires_0 rfl ?_
    refine e_getR dX8_gainOfFires_1 rfl fl_194 rfl rfl ?_
    refine e_iload_n dX8_gainOfFires_4 rfl ?_
    refine e_putI (t := 0) (kz := 5) rfl dX8_gainOfFires_5 rfl fp_78 rfl rfl (Or.inl rfl) ?_
    refine e_aload_n dX8_gainOfFires_8 rfl ?_
    refine e_getR dX8_gainOfFires_9 rfl fl_197 rfl rfl ?_
    refine e_aload_n dX8_gainOfFires_12 rfl ?_
    refine e_getR dX8_gainOfFires_13 rfl fl_194 rfl rfl ?_
    refine e_aload_n dX8_gainOfFires_16 rfl ?_
    refine e_getR dX8_gainOfFires_17 rfl fl_194 rfl rfl ?_
    obtain ⟨r20, e20, hf⟩ := bd_some hf
    refine e_callV0i dX8_gainOfFires_20 rfl lk_344 ⟨rfl, rfl, Nat.le_of_ble_eq_true rfl, Nat.le_of_ble_eq_true rfl⟩ rfl rfl (Nat.le_of_ble_eq_true rfl) (q_X6_everyRoof (up h 12 5 l1) 12 isT12  e20) ?_
    refine e_aload_n dX8_gainOfFires_23 rfl ?_
    refine e_getI (kz := 11) rfl dX8_gainOfFires_24 rfl fl_202 rfl rfl (Or.inl rfl) ?_
    obtain ⟨h27, e27, hf⟩ := bd_some hf
    refine e_callV3v dX8_gainOfFires_27 rfl lk_353 ⟨rfl, rfl, Nat.le_of_ble_eq_true rfl, Nat.le_of_ble_eq_true rfl⟩ rfl rfl (Nat.le_of_ble_eq_true rfl) (q_X2_survey (up h 12 5 l1) 12 isT12 r20 ((up h 12 5 l1) 0 11) e27) ?_
    refine e_aload_n dX8_gainOfFires_30 rfl ?_
    refine e_getR dX8_gainOfFires_31 rfl fl_197 rfl rfl ?_
    refine e_aload_n dX8_gainOfFires_34 rfl ?_
    refine e_getR dX8_gainOfFires_35 rfl fl_194 rfl rfl ?_
    refine e_aload_n dX8_gainOfFires_38 rfl ?_
    refine e_getR dX8_gainOfFires_39 rfl fl_192 rfl rfl ?_
    refine e_aload_n dX8_gainOfFires_42 rfl ?_
    refine e_getR dX8_gainOfFires_43 rfl fl_194 rfl rfl ?_
    obtain ⟨r46, e46, hf⟩ := bd_some hf
    refine e_callV0i dX8_gainOfFires_46 rfl lk_344 ⟨rfl, rfl, Nat.le_of_ble_eq_true rfl, Nat.le_of_ble_eq_true rfl⟩ rfl rfl (Nat.le_of_ble_eq_true rfl) (q_X6_everyRoof h27 12 isT12  e46) ?_
    refine e_iload_n dX8_gainOfFires_49 rfl ?_
    obtain ⟨r50, e50, hf⟩ := bd_some hf
    refine e_callV4i dX8_gainOfFires_50 rfl lk_465 ⟨rfl, rfl, Nat.le_of_ble_eq_true rfl, Nat.le_of_ble_eq_true rfl⟩ rfl rfl (Nat.le_of_ble_eq_true rfl) (q_X2_takings h27 12 isT12 r46 l2 e50) ?_
    refine e_iload_n dX8_gainOfFires_53 rfl ?_
    refine e_iload_n dX8_gainOfFires_54 rfl ?_
    obtain ⟨r55, e55, hf⟩ := bd_some hf
    refine e_callS1i dX8_gainOfFires_55 rfl lk_501 ⟨rfl, rfl, Nat.le_of_ble_eq_true rfl, Nat.le_of_ble_eq_true rfl⟩ (Nat.le_of_ble_eq_true rfl) (q_J6_bitCount_0f7a4 h27   l1 e55) ?_
    refine e_imul dX8_gainOfFires_58 ?_
    refine e_iadd dX8_gainOfFires_59 ?_
    obtain rfl := Option.some.inj hf
    exact e_ireturn dX8_gainOfFires_60 rfl ⟨rfl, rfl⟩
  exact Cn_of rfl (fun _ => Nat.le_of_ble_eq_true rfl) ⟨rfl, rfl⟩ (e_pad 0 key)
theorem lk_511 : VLk "StarRight" 234 m_X6_copyOf 1 := ⟨tw_511, tw_512, tw_513, tw_4, tw_514, by decide +kernel⟩
theorem lk_516 : VLk "StarRight" 238 m_X8_gainOfFires 2 := ⟨tw_516, tw_518, twp_13, tw_1, tw_519, by decide +kernel⟩
abbrev m_X8_fires : MI := (yX8_fires, cX8_fires, 8, some .int, { frames := 6, cells := 0, slots := 0, locals := 141 })
def p_X8_fires_117  (h : Mem)   (l2 l3 l4 : Int) : Option (Int × Mem) :=
  if l2 = 0 then (some (l3, h)) else (some (l4, h))
set_option maxRecDepth 20000 in
theorem q_X8_fires_117  (h : Mem)     (l2 l3 l4 : Int) {X : Int × Mem}  (hf : p_X8_fires_117  h   l2 l3 l4 = some X) : E m_X8_fires none (fun r h' => r = some (vi X.1) ∧ h' = X.2) 117 [some (vr 0), none, some (vi l2), some (vi l3), some (vi l4), none, none, none] [] h := by
  unfold p_X8_fires_117 at hf
  refine e_iload_n dX8_fires_117 rfl ?_
  refine e_if_ne (tgt := 125) dX8_fires_118 (by decide) (fun c118 => ?_) (fun c118 => ?_)
  · replace hf := ifn hf c118
    refine e_iload dX8_fires_125 rfl ?_
    obtain rfl := Option.some.inj hf
    exact e_ireturn dX8_fires_127 rfl ⟨rfl, rfl⟩
  · replace hf := ifp hf c118
    refine e_iload_n dX8_fires_121 rfl ?_
    refine e_goto (tgt := 127) dX8_fires_122 (by decide) ?_
    obtain rfl := Option.some.inj hf
    exact e_ireturn dX8_fires_127 rfl ⟨rfl, rfl⟩
def p_X8_fires_111 (K45 : Mem → Int → Int → Int → Int → Int → Option (Int × Mem)) (h : Mem)   (l1 l2 l3 l4 l5 : Int) : Option (Int × Mem) :=
  K45 h l1 l2 l3 l4 (wr (l5 + 1))
set_option maxRecDepth 20000 in
theorem q_X8_fires_111 (K45 : Mem → Int → Int → Int → Int → Int → Option (Int × Mem)) (h : Mem)     (l1 l2 l3 l4 l5 : Int) {X : Int × Mem} (hK45 : ∀ (h : Mem) (l1 l2 l3 l4 l5 : Int), K45 h l1 l2 l3 l4 l5 = some X → E m_X8_fires none (fun r h' => r = some (vi X.1) ∧ h' = X.2) 45 [some (vr 0), some (vi l1), some (vi l2), some (vi l3), some (vi l4), some (vi l5), none, none] [] h) (hf : p_X8_fires_111 K45 h   l1 l2 l3 l4 l5 = some X) : E m_X8_fires none (fun r h' => r = some (vi X.1) ∧ h' = X.2) 111 [some (vr 0), some (vi l1), some (vi l2), some (vi l3), some (vi l4), some (vi l5), none, none] [] h := by
  unfold p_X8_fires_111 at hf
  refine e_iinc (ls' := [some (vr 0), some (vi l1), some (vi l2), some (vi l3), some (vi l4), some (vi (wr (l5 + 1))), none, none]) dX8_fires_111 rfl (Nat.le_of_ble_eq_true rfl) rfl ?_
  refine e_goto (tgt := 45) dX8_fires_114 (by decide) ?_
  exact e_mask [true, true, true, true, true, true, false, false] (hK45 h l1 l2 l3 l4 (wr (l5 + 1)) hf)
def p_X8_fires_104 (K45 : Mem → Int → Int → Int → Int → Int → Option (Int × Mem)) (h : Mem)   (l1 l2 l5 l6 : Int) : Option (Int × Mem) :=
  p_X8_fires_111 K45 h   l1 l2 l5 l6 l5
set_option maxRecDepth 20000 in
theorem q_X8_fires_104 (K45 : Mem → Int → Int → Int → Int → Int → Option (Int × Mem)) (h : Mem)     (l1 l2 l5 l6 : Int) {X : Int × Mem} (hK45 : ∀ (h : Mem) (l1 l2 l3 l4 l5 : Int), K45 h l1 l2 l3 l4 l5 = some X → E m_X8_fires none (fun r h' => r = some (vi X.1) ∧ h' = X.2) 45 [some (vr 0), some (vi l1), some (vi l2), some (vi l3), some (vi l4), some (vi l5), none, none] [] h) (hf : p_X8_fires_104 K45 h   l1 l2 l5 l6 = some X) : E m_X8_fires none (fun r h' => r = some (vi X.1) ∧ h' = X.2) 104 [some (vr 0), some (vi l1), some (vi l2), none, none, some (vi l5), some (vi l6), none] [] h := by
  unfold p_X8_fires_104 at hf
  refine e_iload dX8_fires_104 rfl ?_
  refine e_istore_n (ls' := [some (vr 0), some (vi l1), some (vi l2), some (vi l5), none, some (vi l5), some (vi l6), none]) dX8_fires_106 (Nat.le_of_ble_eq_true rfl) rfl ?_
  refine e_iload dX8_fires_107 rfl ?_
  refine e_istore (ls' := [some (vr 0), some (vi l1), some (vi l2), some (vi l5), some (vi l6), some (vi l5), some (vi l6), none]) dX8_fires_109 (Nat.le_of_ble_eq_true rfl) rfl ?_
  exact e_mask [true, true, true, true, true, true, false, false] (q_X8_fires_111 K45 h     l1 l2 l5 l6 l5 hK45 hf)
def p_X8_fires_83 (K45 : Mem → Int → Int → Int → Int → Int → Option (Int × Mem)) (h : Mem)   (l1 l2 l3 l4 l5 l6 s0 : Int) : Option (Int × Mem) :=
  if l4 < l6 then (p_X8_fires_104 K45 h   l1 l2 l5 l6) else (if l6 = l4 then (if s0 = 0 then (p_X8_fires_111 K45 h   l1 l2 l3 l4 l5) else (p_X8_fires_104 K45 h   l1 l2 l5 l6)) else (p_X8_fires_111 K45 h   l1 l2 l3 l4 l5))
set_option maxRecDepth 20000 in
theorem q_X8_fires_83 (K45 : Mem → Int → Int → Int → Int → Int → Option (Int × Mem)) (h : Mem)     (l1 l2 l3 l4 l5 l6 s0 : Int) {X : Int × Mem} (hK45 : ∀ (h : Mem) (l1 l2 l3 l4 l5 : Int), K45 h l1 l2 l3 l4 l5 = some X → E m_X8_fires none (fun r h' => r = some (vi X.1) ∧ h' = X.2) 45 [some (vr 0), some (vi l1), some (vi l2), some (vi l3), some (vi l4), some (vi l5), none, none] [] h) (hf : p_X8_fires_83 K45 h   l1 l2 l3 l4 l5 l6 s0 = some X) : E m_X8_fires none (fun r h' => r = some (vi X.1) ∧ h' = X.2) 83 [some (vr 0), some (vi l1), some (vi l2), some (vi l3), some (vi l4), some (vi l5), some (vi l6), none] [vi s0] h := by
  unfold p_X8_fires_83 at hf
  refine e_istore (ls' := [some (vr 0), some (vi l1), some (vi l2), some (vi l3), some (vi l4), some (vi l5), some (vi l6), some (vi s0)]) dX8_fires_83 (Nat.le_of_ble_eq_true rfl) rfl ?_
  refine e_iload dX8_fires_85 rfl ?_
  refine e_iload dX8_fires_87 rfl ?_
  refine e_icmp_gt (tgt := 104) dX8_fires_89 (by decide) (fun c89 => ?_) (fun c89 => ?_)
  · replace hf := ifp hf c89
    exact e_mask [true, true, true, false, false, true, true, false] (q_X8_fires_104 K45 h     l1 l2 l5 l6 hK45 hf)
  · replace hf := ifn hf c89
    refine e_iload dX8_fires_92 rfl ?_
    refine e_iload dX8_fires_94 rfl ?_
    refine e_icmp_ne (tgt := 111) dX8_fires_96 (by decide) (fun c96 => ?_) (fun c96 => ?_)
    · replace hf := ifn hf c96
      exact e_mask [true, true, true, true, true, true, false, false] (q_X8_fires_111 K45 h     l1 l2 l3 l4 l5 hK45 hf)
    · replace hf := ifp hf c96
      refine e_iload dX8_fires_99 rfl ?_
      refine e_if_eq (tgt := 111) dX8_fires_101 (by decide) (fun c101 => ?_) (fun c101 => ?_)
      · replace hf := ifp hf c101
        exact e_mask [true, true, true, true, true, true, false, false] (q_X8_fires_111 K45 h     l1 l2 l3 l4 l5 hK45 hf)
      · replace hf := ifn hf c101
        exact e_mask [true, true, true, false, false, true, true, false] (q_X8_fires_104 K45 h     l1 l2 l5 l6 hK45 hf)
def p_X8_fires_45 (K45 : Mem → Int → Int → Int → Int → Int → Option (Int × Mem)) (h : Mem)   (l1 l2 l3 l4 l5 : Int) : Option (Int × Mem) :=
  bd (p_X6_everyRoof h 7) (fun r51 => if r51 < l5 then (p_X8_fires_117  h   l2 l3 l4) else (bd (p_X8_gainOfFires h l5 l1) (fun q61 => bd (p_J6_bitCount_0f7a4 q61.2 l5) (fun r68 => bd (p_J6_bitCount_0f7a4 q61.2 l3) (fun r72 => if r72 ≤ r68 then (p_X8_fires_83 K45 q61.2   l1 l2 l3 l4 l5 q61.1 0) else (p_X8_fires_83 K45 q61.2   l1 l2 l3 l4 l5 q61.1 1))))))
set_option maxRecDepth 20000 in
theorem q_X8_fires_45 (K45 : Mem → Int → Int → Int → Int → Int → Option (Int × Mem)) (h : Mem)     (l1 l2 l3 l4 l5 : Int) {X : Int × Mem} (hK45 : ∀ (h : Mem) (l1 l2 l3 l4 l5 : Int), K45 h l1 l2 l3 l4 l5 = some X → E m_X8_fires none (fun r h' => r = some (vi X.1) ∧ h' = X.2) 45 [some (vr 0), some (vi l1), some (vi l2), some (vi l3), some (vi l4), some (vi l5), none, none] [] h) (hf : p_X8_fires_45 K45 h   l1 l2 l3 l4 l5 = some X) : E m_X8_fires none (fun r h' => r = some (vi X.1) ∧ h' = X.2) 45 [some (vr 0), some (vi l1), some (vi l2), some (vi l3), some (vi l4), some (vi l5), none, none] [] h := by
  unfold p_X8_fires_45 at hf
  refine e_iload dX8_fires_45 rfl ?_
  refine e_aload_n dX8_fires_47 rfl ?_
  refine e_getR dX8_fires_48 rfl fl_193 rfl rfl ?_
  obtain ⟨r51, e51, hf⟩ := bd_some hf
  refine e_callV0i dX8_fires_51 rfl lk_344 ⟨rfl, rfl, Nat.le_of_ble_eq_true rfl, Nat.le_of_ble_eq_true rfl⟩ rfl rfl (Nat.le_of_ble_eq_true rfl) (q_X6_everyRoof h 7 isT7  e51) ?_
  refine e_icmp_gt (tgt := 117) dX8_fires_54 (by decide) (fun c54 => ?_) (fun c54 => ?_)
  · replace hf := ifp hf c54
    exact e_mask [true, false, true, true, true, false, false, false] (q_X8_fires_117  h     l2 l3 l4  hf)
  · replace hf := ifn hf c54
    refine e_aload_n dX8_fires_57 rfl ?_
    refine e_iload dX8_fires_58 rfl ?_
    refine e_iload_n dX8_fires_60 rfl ?_
    obtain ⟨q61, e61, hf⟩ := bd_some hf
    refine e_callV2i dX8_fires_61 rfl lk_516 ⟨rfl, rfl, Nat.le_of_ble_eq_true rfl, Nat.le_of_ble_eq_true rfl⟩ rfl rfl (Nat.le_of_ble_eq_true rfl) (q_X8_gainOfFires h   l5 l1 e61) ?_
    refine e_istore (ls' := [some (vr 0), some (vi l1), some (vi l2), some (vi l3), some (vi l4), some (vi l5), some (vi q61.1), none]) dX8_fires_64 (Nat.le_of_ble_eq_true rfl) rfl ?_
    refine e_iload dX8_fires_66 rfl ?_
    obtain ⟨r68, e68, hf⟩ := bd_some hf
    refine e_callS1i dX8_fires_68 rfl lk_501 ⟨rfl, rfl, Nat.le_of_ble_eq_true rfl, Nat.le_of_ble_eq_true rfl⟩ (Nat.le_of_ble_eq_true rfl) (q_J6_bitCount_0f7a4 q61.2   l5 e68) ?_
    refine e_iload_n dX8_fires_71 rfl ?_
    obtain ⟨r72, e72, hf⟩ := bd_some hf
    refine e_callS1i dX8_fires_72 rfl lk_501 ⟨rfl, rfl, Nat.le_of_ble_eq_true rfl, Nat.le_of_ble_eq_true rfl⟩ (Nat.le_of_ble_eq_true rfl) (q_J6_bitCount_0f7a4 q61.2   l3 e72) ?_
    refine e_icmp_ge (tgt := 82) dX8_fires_75 (by decide) (fun c75 => ?_) (fun c75 => ?_)
    · replace hf := ifp hf c75
      refine e_iconst dX8_fires_82 ⟨by decide, by decide⟩ ?_
      exact e_mask [true, true, true, true, true, true, true, false] (q_X8_fires_83 K45 q61.2     l1 l2 l3 l4 l5 q61.1 0 hK45 hf)
    · replace hf := ifn hf c75
      refine e_iconst dX8_fires_78 ⟨by decide, by decide⟩ ?_
      refine e_goto (tgt := 83) dX8_fires_79 (by decide) ?_
      exact e_mask [true, true, true, true, true, true, true, false] (q_X8_fires_83 K45 q61.2     l1 l2 l3 l4 l5 q61.1 1 hK45 hf)
def p_X8_fires_L45     : Nat → Mem → Int → Int → Int → Int → Int → Option (Int × Mem)
  | 0, _, _, _, _, _, _ => none
  | n + 1, h, l1, l2, l3, l4, l5 => p_X8_fires_45 (fun (h : Mem) (l1 l2 l3 l4 l5 : Int) => p_X8_fires_L45     n h l1 l2 l3 l4 l5) h   l1 l2 l3 l4 l5
theorem q_X8_fires_L45       {X : Int × Mem}  : ∀ (n : Nat) (h : Mem) (l1 l2 l3 l4 l5 : Int), p_X8_fires_L45     n h l1 l2 l3 l4 l5 = some X → E m_X8_fires none (fun r h' => r = some (vi X.1) ∧ h' = X.2) 45 [some (vr 0), some (vi l1), some (vi l2), some (vi l3), some (vi l4), some (vi l5), none, none] [] h := by
  intro n
  induction n with
  | zero => intro h l1 l2 l3 l4 l5 hf; have hf2 : (none : Option (Int × Mem)) = some X := hf; cases hf2
  | succ n ih => intro h l1 l2 l3 l4 l5 hf; exact q_X8_fires_45 (fun (h : Mem) (l1 l2 l3 l4 l5 : Int) => p_X8_fires_L45     n h l1 l2 l3 l4 l5) h     l1 l2 l3 l4 l5 (fun h l1 l2 l3 l4 l5 hf => ih h l1 l2 l3 l4 l5 hf) hf
def p_X8_fires (h : Mem)  (l1 l2 : Int) : Option (Int × Mem) :=
  bd (p_X8_isSpan h l1 10) (fun r3 => if r3 = 0 then (some ((-2), h)) else (if l2 < 0 then (some ((-2), h)) else (if l2 ≤ 1 then (bd (p_X6_copyOf h 12 7) (fun h29 => bd (p_X8_gainOfFires h29 0 l1) (fun q37 => p_X8_fires_L45     300 q37.2 l1 l2 0 q37.1 1))) else (some ((-2), h)))))
set_option maxRecDepth 20000 in
theorem q_X8_fires (h : Mem)   (l1 l2 : Int) {X : Int × Mem} (hf : p_X8_fires h  l1 l2 = some X) : Cn m_X8_fires [vr 0, vi l1, vi l2] h (fun r h' => r = some (vi X.1) ∧ h' = X.2) := by
  unfold p_X8_fires at hf
  have key : E m_X8_fires none (fun r h' => r = some (vi X.1) ∧ h' = X.2) 0 [some (vr 0), some (vi l1), some (vi l2), none, none, none, none, none] [] h := by
    refine e_iload_n dX8_fires_0 rfl ?_
    refine e_bipush dX8_fires_1 ⟨by decide, by decide, by decide⟩ ?_
    obtain ⟨r3, e3, hf⟩ := bd_some hf
    refine e_callS2i dX8_fires_3 rfl lk_489 ⟨rfl, rfl, Nat.le_of_ble_eq_true rfl, Nat.le_of_ble_eq_true rfl⟩ (Nat.le_of_ble_eq_true rfl) (q_X8_isSpan h   l1 10 e3) ?_
    refine e_if_eq (tgt := 18) dX8_fires_6 (by decide) (fun c6 => ?_) (fun c6 => ?_)
    · replace hf := ifp hf c6
      refine e_bipush dX8_fires_18 ⟨by decide, by decide, by decide⟩ ?_
      obtain rfl := Option.some.inj hf
      exact e_ireturn dX8_fires_20 rfl ⟨rfl, rfl⟩
    · replace hf := ifn hf c6
      refine e_iload_n dX8_fires_9 rfl ?_
      refine e_if_lt (tgt := 18) dX8_fires_10 (by decide) (fun c10 => ?_) (fun c10 => ?_)
      · replace hf := ifp hf c10
        refine e_bipush dX8_fires_18 ⟨by decide, by decide, by decide⟩ ?_
        obtain rfl := Option.some.inj hf
        exact e_ireturn dX8_fires_20 rfl ⟨rfl, rfl⟩
      · replace hf := ifn hf c10
        refine e_iload_n dX8_fires_13 rfl ?_
        refine e_iconst dX8_fires_14 ⟨by decide, by decide⟩ ?_
        refine e_icmp_le (tgt := 21) dX8_fires_15 (by decide) (fun c15 => ?_) (fun c15 => ?_)
        · replace hf := ifp hf c15
          refine e_aload_n dX8_fires_21 rfl ?_
          refine e_getR dX8_fires_22 rfl fl_194 rfl rfl ?_
          refine e_aload_n dX8_fires_25 rfl ?_
          refine e_getR dX8_fires_26 rfl fl_193 rfl rfl ?_
          obtain ⟨h29, e29, hf⟩ := bd_some hf
          refine e_callV1v dX8_fires_29 rfl lk_511 ⟨rfl, rfl, Nat.le_of_ble_eq_true rfl, Nat.le_of_ble_eq_true rfl⟩ rfl rfl (Nat.le_of_ble_eq_true rfl) (q_X6_copyOf h 12 7 isT12 isT7  e29) ?_
          refine e_iconst dX8_fires_32 ⟨by decide, by decide⟩ ?_
          refine e_istore_n (ls' := [some (vr 0), some (vi l1), some (vi l2), some (vi 0), none, none, none, none]) dX8_fires_33 (Nat.le_of_ble_eq_true rfl) rfl ?_
          refine e_aload_n dX8_fires_34 rfl ?_
          refine e_iconst dX8_fires_35 ⟨by decide, by decide⟩ ?_
          refine e_iload_n dX8_fires_36 rfl ?_
          obtain ⟨q37, e37, hf⟩ := bd_some hf
          refine e_callV2i dX8_fires_37 rfl lk_516 ⟨rfl, rfl, Nat.le_of_ble_eq_true rfl, Nat.le_of_ble_eq_true rfl⟩ rfl rfl (Nat.le_of_ble_eq_true rfl) (q_X8_gainOfFires h29   0 l1 e37) ?_
          refine e_istore (ls' := [some (vr 0), some (vi l1), some (vi l2), some (vi 0), some (vi q37.1), none, none, none]) dX8_fires_40 (Nat.le_of_ble_eq_true rfl) rfl ?_
          refine e_iconst dX8_fires_42 ⟨by decide, by decide⟩ ?_
          refine e_istore (ls' := [some (vr 0), some (vi l1), some (vi l2), some (vi 0), some (vi q37.1), some (vi 1), none, none]) dX8_fires_43 (Nat.le_of_ble_eq_true rfl) rfl ?_
          exact e_mask [true, true, true, true, true, true, false, false] (q_X8_fires_L45        300 q37.2 l1 l2 0 q37.1 1 hf)
        · replace hf := ifn hf c15
          refine e_bipush dX8_fires_18 ⟨by decide, by decide, by decide⟩ ?_
          obtain rfl := Option.some.inj hf
          exact e_ireturn dX8_fires_20 rfl ⟨rfl, rfl⟩
  exact Cn_of rfl (fun _ => Nat.le_of_ble_eq_true rfl) ⟨rfl, rfl⟩ (e_pad 5 key)
abbrev m_X8_orders : MI := (yX8_orders, cX8_orders, 1, some .int, { frames := 0, cells := 0, slots := 0, locals := 0 })
def p_X8_orders (h : Mem)  (l0 : Int) : Option (Int) :=
  if l0 < 0 then (some 0) else (if 6 ≤ l0 then (some 0) else (gd (0 ≤ l0 ∧ l0 < 6) (some (ord6 l0))))
set_option maxRecDepth 20000 in
theorem q_X8_orders (h : Mem)   (l0 : Int) {X : Int} (hf : p_X8_orders h  l0 = some X) : Cn m_X8_orders [vi l0] h (fun r h' => r = some (vi X) ∧ h' = h) := by
  unfold p_X8_orders at hf
  have key : E m_X8_orders none (fun r h' => r = some (vi X) ∧ h' = h) 0 [some (vi l0)] [] h := by
    refine e_iload_n dX8_orders_0 rfl ?_
    refine e_if_lt (tgt := 20) dX8_orders_1 (by decide) (fun c1 => ?_) (fun c1 => ?_)
    · replace hf := ifp hf c1
      refine e_iconst dX8_orders_20 ⟨by decide, by decide⟩ ?_
      obtain rfl := Option.some.inj hf
      exact e_ireturn dX8_orders_21 rfl ⟨rfl, rfl⟩
    · replace hf := ifn hf c1
      refine e_iload_n dX8_orders_4 rfl ?_
      refine e_ords dX8_orders_5 rfl tw_531 ?_
      refine e_ordlen dX8_orders_8 ?_
      refine e_icmp_ge (tgt := 20) dX8_orders_9 (by decide) (fun c9 => ?_) (fun c9 => ?_)
      · replace hf := ifp hf c9
        refine e_iconst dX8_orders_20 ⟨by decide, by decide⟩ ?_
        obtain rfl := Option.some.inj hf
        exact e_ireturn dX8_orders_21 rfl ⟨rfl, rfl⟩
      · replace hf := ifn hf c9
        refine e_ords dX8_orders_12 rfl tw_531 ?_
        refine e_iload_n dX8_orders_15 rfl ?_
        obtain ⟨g16, hf⟩ := gd_some hf
        refine e_ordld dX8_orders_16 g16 ?_
        refine e_goto (tgt := 21) dX8_orders_17 (by decide) ?_
        obtain rfl := Option.some.inj hf
        exact e_ireturn dX8_orders_21 rfl ⟨rfl, rfl⟩
  exact Cn_of rfl (fun _ => Nat.le_of_ble_eq_true rfl) ⟨rfl, rfl⟩ (e_pad 0 key)
theorem lk_528 : SLk "StarRight" 244 m_X8_orders 1 := ⟨tw_528, tw_529, tw_1, tw_530, by decide +kernel⟩
abbrev m_X8_gainInAllOrders : MI := (yX8_gainInAllOrders, cX8_gainInAllOrders, 8, some .int, { frames := 1, cells := 0, slots := 0, locals := 20 })
def p_X8_gainInAllOrders_96 (K9 : Int → Int → Int → Option (Int)) (h : Mem)   (l2 l3 l4 : Int) : Option (Int) :=
  K9 l2 l3 (wr (l4 + 1))
set_option maxRecDepth 20000 in
theorem q_X8_gainInAllOrders_96 (K9 : Int → Int → Int → Option (Int)) (h : Mem)     (l2 l3 l4 : Int) {X : Int} (hK9 : ∀ (l2 l3 l4 : Int), K9 l2 l3 l4 = some X → E m_X8_gainInAllOrders none (fun r h' => r = some (vi X) ∧ h' = h) 9 [some (vr 0), none, some (vi l2), some (vi l3), some (vi l4), none, none, none] [] h) (hf : p_X8_gainInAllOrders_96 K9 h   l2 l3 l4 = some X) : E m_X8_gainInAllOrders none (fun r h' => r = some (vi X) ∧ h' = h) 96 [some (vr 0), none, some (vi l2), some (vi l3), some (vi l4), none, none, none] [] h := by
  unfold p_X8_gainInAllOrders_96 at hf
  refine e_iinc (ls' := [some (vr 0), none, some (vi l2), some (vi l3), some (vi (wr (l4 + 1))), none, none, none]) dX8_gainInAllOrders_96 rfl (Nat.le_of_ble_eq_true rfl) rfl ?_
  refine e_goto (tgt := 9) dX8_gainInAllOrders_99 (by decide) ?_
  exact e_mask [true, false, true, true, true, false, false, false] (hK9 l2 l3 (wr (l4 + 1)) hf)
def p_X8_gainInAllOrders_9 (K9 : Int → Int → Int → Option (Int)) (h : Mem)   (l2 l3 l4 : Int) : Option (Int) :=
  bd (p_X6_everyRoof h 7) (fun r15 => if r15 < l4 then (some l2) else (if 32 ≤ l4 then (some l2) else (if band l4 l3 = 0 then (p_X8_gainInAllOrders_96 K9 h   l2 l3 l4) else (bd (p_J6_bitCount_0f7a4 h l4) (fun r37 => gd (0 ≤ l4 ∧ l4 < 32) (gd (0 ≤ band l4 (bxor l3 (-1)) ∧ band l4 (bxor l3 (-1)) < 32) (bd (p_X8_orders h (wr (r37 - 1))) (fun r84 => bd (p_X8_orders h (wr ((wr ((h 7 4) - 1)) - (wr (r37 - 1))))) (fun r90 => p_X8_gainInAllOrders_96 K9 h   (wr (l2 + (wr ((wr ((wr ((h 44 l4) - (h 44 (band l4 (bxor l3 (-1)))))) * r84)) * r90)))) l3 l4)))))))))
set_option maxRecDepth 20000 in
theorem q_X8_gainInAllOrders_9 (K9 : Int → Int → Int → Option (Int)) (h : Mem)     (l2 l3 l4 : Int) {X : Int} (hK9 : ∀ (l2 l3 l4 : Int), K9 l2 l3 l4 = some X → E m_X8_gainInAllOrders none (fun r h' => r = some (vi X) ∧ h' = h) 9 [some (vr 0), none, some (vi l2), some (vi l3), some (vi l4), none, none, none] [] h) (hf : p_X8_gainInAllOrders_9 K9 h   l2 l3 l4 = some X) : E m_X8_gainInAllOrders none (fun r h' => r = some (vi X) ∧ h' = h) 9 [some (vr 0), none, some (vi l2), some (vi l3), some (vi l4), none, none, none] [] h := by
  unfold p_X8_gainInAllOrders_9 at hf
  refine e_iload dX8_gainInAllOrders_9 rfl ?_
  refine e_aload_n dX8_gainInAllOrders_11 rfl ?_
  refine e_getR dX8_gainInAllOrders_12 rfl fl_193 rfl rfl ?_
  obtain ⟨r15, e15, hf⟩ := bd_some hf
  refine e_callV0i dX8_gainInAllOrders_15 rfl lk_344 ⟨rfl, rfl, Nat.le_of_ble_eq_true rfl, Nat.le_of_ble_eq_true rfl⟩ rfl rfl (Nat.le_of_ble_eq_true rfl) (q_X6_everyRoof h 7 isT7  e15) ?_
  refine e_icmp_gt (tgt := 102) dX8_gainInAllOrders_18 (by decide) (fun c18 => ?_) (fun c18 => ?_)
  · replace hf := ifp hf c18
    refine e_iload_n dX8_gainInAllOrders_102 rfl ?_
    obtain rfl := Option.some.inj hf
    exact e_ireturn dX8_gainInAllOrders_103 rfl ⟨rfl, rfl⟩
  · replace hf := ifn hf c18
    refine e_iload dX8_gainInAllOrders_21 rfl ?_
    refine e_bipush dX8_gainInAllOrders_23 ⟨by decide, by decide, by decide⟩ ?_
    refine e_icmp_ge (tgt := 102) dX8_gainInAllOrders_25 (by decide) (fun c25 => ?_) (fun c25 => ?_)
    · replace hf := ifp hf c25
      refine e_iload_n dX8_gainInAllOrders_102 rfl ?_
      obtain rfl := Option.some.inj hf
      exact e_ireturn dX8_gainInAllOrders_103 rfl ⟨rfl, rfl⟩
    · replace hf := ifn hf c25
      refine e_iload dX8_gainInAllOrders_28 rfl ?_
      refine e_iload_n dX8_gainInAllOrders_30 rfl ?_
      refine e_iand dX8_gainInAllOrders_31 ?_
      refine e_if_eq (tgt := 96) dX8_gainInAllOrders_32 (by decide) (fun c32 => ?_) (fun c32 => ?_)
      · replace hf := ifp hf c32
        exact e_mask [true, false, true, true, true, false, false, false] (q_X8_gainInAllOrders_96 K9 h     l2 l3 l4 hK9 hf)
      · replace hf := ifn hf c32
        refine e_iload dX8_gainInAllOrders_35 rfl ?_
        obtain ⟨r37, e37, hf⟩ := bd_some hf
        refine e_callS1i dX8_gainInAllOrders_37 rfl lk_501 ⟨rfl, rfl, Nat.le_of_ble_eq_true rfl, Nat.le_of_ble_eq_true rfl⟩ (Nat.le_of_ble_eq_true rfl) (q_J6_bitCount_0f7a4 h   l4 e37) ?_
        refine e_iconst dX8_gainInAllOrders_40 ⟨by decide, by decide⟩ ?_
        refine e_isub dX8_gainInAllOrders_41 ?_
        refine e_istore (ls' := [some (vr 0), none, some (vi l2), some (vi l3), some (vi l4), some (vi (wr (r37 - 1))), none, none]) dX8_gainInAllOrders_42 (Nat.le_of_ble_eq_true rfl) rfl ?_
        refine e_aload_n dX8_gainInAllOrders_44 rfl ?_
        refine e_getR dX8_gainInAllOrders_45 rfl fl_193 rfl rfl ?_
        refine e_getI (kz := 4) rfl dX8_gainInAllOrders_48 rfl fl_76 rfl rfl (Or.inl rfl) ?_
        refine e_iconst dX8_gainInAllOrders_51 ⟨by decide, by decide⟩ ?_
        refine e_isub dX8_gainInAllOrders_52 ?_
        refine e_iload dX8_gainInAllOrders_53 rfl ?_
        refine e_isub dX8_gainInAllOrders_55 ?_
        refine e_istore (ls' := [some (vr 0), none, some (vi l2), some (vi l3), some (vi l4), some (vi (wr (r37 - 1))), some (vi (wr ((wr ((h 7 4) - 1)) - (wr (r37 - 1))))), none]) dX8_gainInAllOrders_56 (Nat.le_of_ble_eq_true rfl) rfl ?_
        refine e_aload_n dX8_gainInAllOrders_58 rfl ?_
        refine e_getR dX8_gainInAllOrders_59 rfl fl_201 rfl rfl ?_
        refine e_iload dX8_gainInAllOrders_62 rfl ?_
        obtain ⟨g64, hf⟩ := gd_some hf
        refine e_iald dX8_gainInAllOrders_64 rfl g64 ?_
        refine e_aload_n dX8_gainInAllOrders_65 rfl ?_
        refine e_getR dX8_gainInAllOrders_66 rfl fl_201 rfl rfl ?_
        refine e_iload dX8_gainInAllOrders_69 rfl ?_
        refine e_iload_n dX8_gainInAllOrders_71 rfl ?_
        refine e_iconst dX8_gainInAllOrders_72 ⟨by decide, by decide⟩ ?_
        refine e_ixor dX8_gainInAllOrders_73 ?_
        refine e_iand dX8_gainInAllOrders_74 ?_
        obtain ⟨g75, hf⟩ := gd_some hf
        refine e_iald dX8_gainInAllOrders_75 rfl g75 ?_
        refine e_isub dX8_gainInAllOrders_76 ?_
        refine e_istore (ls' := [some (vr 0), none, some (vi l2), some (vi l3), some (vi l4), some (vi (wr (r37 - 1))), some (vi (wr ((wr ((h 7 4) - 1)) - (wr (r37 - 1))))), some (vi (wr ((h 44 l4) - (h 44 (band l4 (bxor l3 (-1)))))))]) dX8_gainInAllOrders_77 (Nat.le_of_ble_eq_true rfl) rfl ?_
        refine e_iload_n dX8_gainInAllOrders_79 rfl ?_
        refine e_iload dX8_gainInAllOrders_80 rfl ?_
        refine e_iload dX8_gainInAllOrders_82 rfl ?_
        obtain ⟨r84, e84, hf⟩ := bd_some hf
        refine e_callS1i dX8_gainInAllOrders_84 rfl lk_528 ⟨rfl, rfl, Nat.le_of_ble_eq_true rfl, Nat.le_of_ble_eq_true rfl⟩ (Nat.le_of_ble_eq_true rfl) (q_X8_orders h   (wr (r37 - 1)) e84) ?_
        refine e_imul dX8_gainInAllOrders_87 ?_
        refine e_iload dX8_gainInAllOrders_88 rfl ?_
        obtain ⟨r90, e90, hf⟩ := bd_some hf
        refine e_callS1i dX8_gainInAllOrders_90 rfl lk_528 ⟨rfl, rfl, Nat.le_of_ble_eq_true rfl, Nat.le_of_ble_eq_true rfl⟩ (Nat.le_of_ble_eq_true rfl) (q_X8_orders h   (wr ((wr ((h 7 4) - 1)) - (wr (r37 - 1)))) e90) ?_
        refine e_imul dX8_gainInAllOrders_93 ?_
        refine e_iadd dX8_gainInAllOrders_94 ?_
        refine e_istore_n (ls' := [some (vr 0), none, some (vi (wr (l2 + (wr ((wr ((wr ((h 44 l4) - (h 44 (band l4 (bxor l3 (-1)))))) * r84)) * r90))))), some (vi l3), some (vi l4), some (vi (wr (r37 - 1))), some (vi (wr ((wr ((h 7 4) - 1)) - (wr (r37 - 1))))), some (vi (wr ((h 44 l4) - (h 44 (band l4 (bxor l3 (-1)))))))]) dX8_gainInAllOrders_95 (Nat.le_of_ble_eq_true rfl) rfl ?_
        exact e_mask [true, false, true, true, true, false, false, false] (q_X8_gainInAllOrders_96 K9 h     (wr (l2 + (wr ((wr ((wr ((h 44 l4) - (h 44 (band l4 (bxor l3 (-1)))))) * r84)) * r90)))) l3 l4 hK9 hf)
def p_X8_gainInAllOrders_L9  (h : Mem)   : Nat → Int → Int → Int → Option (Int)
  | 0, _, _, _ => none
  | n + 1, l2, l3, l4 => p_X8_gainInAllOrders_9 (fun (l2 l3 l4 : Int) => p_X8_gainInAllOrders_L9  h   n l2 l3 l4) h   l2 l3 l4
theorem q_X8_gainInAllOrders_L9  (h : Mem)     {X : Int}  : ∀ (n : Nat) (l2 l3 l4 : Int), p_X8_gainInAllOrders_L9  h   n l2 l3 l4 = some X → E m_X8_gainInAllOrders none (fun r h' => r = some (vi X) ∧ h' = h) 9 [some (vr 0), none, some (vi l2), some (vi l3), some (vi l4), none, none, none] [] h := by
  intro n
  induction n with
  | zero => intro l2 l3 l4 hf; have hf2 : (none : Option (Int)) = some X := hf; cases hf2
  | succ n ih => intro l2 l3 l4 hf; exact q_X8_gainInAllOrders_9 (fun (l2 l3 l4 : Int) => p_X8_gainInAllOrders_L9  h   n l2 l3 l4) h     l2 l3 l4 (fun l2 l3 l4 hf => ih l2 l3 l4 hf) hf
def p_X8_gainInAllOrders (h : Mem)  (l1 : Int) : Option (Int) :=
  p_X8_gainInAllOrders_L9  h   300  0 (bshl 1 l1) 0
set_option maxRecDepth 20000 in
theorem q_X8_gainInAllOrders (h : Mem)   (l1 : Int) {X : Int} (hf : p_X8_gainInAllOrders h  l1 = some X) : Cn m_X8_gainInAllOrders [vr 0, vi l1] h (fun r h' => r = some (vi X) ∧ h' = h) := by
  unfold p_X8_gainInAllOrders at hf
  have key : E m_X8_gainInAllOrders none (fun r h' => r = some (vi X) ∧ h' = h) 0 [some (vr 0), some (vi l1), none, none, none, none, none, none] [] h := by
    refine e_iconst dX8_gainInAllOrders_0 ⟨by decide, by decide⟩ ?_
    refine e_istore_n (ls' := [some (vr 0), some (vi l1), some (vi 0), none, none, none, none, none]) dX8_gainInAllOrders_1 (Nat.le_of_ble_eq_true rfl) rfl ?_
    refine e_iconst dX8_gainInAllOrders_2 ⟨by decide, by decide⟩ ?_
    refine e_iload_n dX8_gainInAllOrders_3 rfl ?_
    refine e_ishl dX8_gainInAllOrders_4 ?_
    refine e_istore_n (ls' := [some (vr 0), some (vi l1), some (vi 0), some (vi (bshl 1 l1)), none, none, none, none]) dX8_gainInAllOrders_5 (Nat.le_of_ble_eq_true rfl) rfl ?_
    refine e_iconst dX8_gainInAllOrders_6 ⟨by decide, by decide⟩ ?_
    refine e_istore (ls' := [some (vr 0), some (vi l1), some (vi 0), some (vi (bshl 1 l1)), some (vi 0), none, none, none]) dX8_gainInAllOrders_7 (Nat.le_of_ble_eq_true rfl) rfl ?_
    exact e_mask [true, false, true, true, true, false, false, false] (q_X8_gainInAllOrders_L9  h      300  0 (bshl 1 l1) 0 hf)
  exact Cn_of rfl (fun _ => Nat.le_of_ble_eq_true rfl) ⟨rfl, rfl⟩ (e_pad 6 key)
abbrev m_X8_commonDivisor : MI := (yX8_commonDivisor, cX8_commonDivisor, 6, some .int, { frames := 0, cells := 0, slots := 0, locals := 0 })
def p_X8_commonDivisor_7 (K7 : Int → Int → Int → Option (Int)) (h : Mem)   (l2 l3 l4 : Int) : Option (Int) :=
  if 64 ≤ l4 then (some l2) else (if l3 = 0 then (some l2) else (gd (¬ l3 = 0) (K7 l3 (qrem l2 l3) (wr (l4 + 1)))))
set_option maxRecDepth 20000 in
theorem q_X8_commonDivisor_7 (K7 : Int → Int → Int → Option (Int)) (h : Mem)     (l2 l3 l4 : Int) {X : Int} (hK7 : ∀ (l2 l3 l4 : Int), K7 l2 l3 l4 = some X → E m_X8_commonDivisor none (fun r h' => r = some (vi X) ∧ h' = h) 7 [none, none, some (vi l2), some (vi l3), some (vi l4), none] [] h) (hf : p_X8_commonDivisor_7 K7 h   l2 l3 l4 = some X) : E m_X8_commonDivisor none (fun r h' => r = some (vi X) ∧ h' = h) 7 [none, none, some (vi l2), some (vi l3), some (vi l4), none] [] h := by
  unfold p_X8_commonDivisor_7 at hf
  refine e_iload dX8_commonDivisor_7 rfl ?_
  refine e_bipush dX8_commonDivisor_9 ⟨by decide, by decide, by decide⟩ ?_
  refine e_icmp_ge (tgt := 34) dX8_commonDivisor_11 (by decide) (fun c11 => ?_) (fun c11 => ?_)
  · replace hf := ifp hf c11
    refine e_iload_n dX8_commonDivisor_34 rfl ?_
    obtain rfl := Option.some.inj hf
    exact e_ireturn dX8_commonDivisor_35 rfl ⟨rfl, rfl⟩
  · replace hf := ifn hf c11
    refine e_iload_n dX8_commonDivisor_14 rfl ?_
    refine e_if_eq (tgt := 34) dX8_commonDivisor_15 (by decide) (fun c15 => ?_) (fun c15 => ?_)
    · replace hf := ifp hf c15
      refine e_iload_n dX8_commonDivisor_34 rfl ?_
      obtain rfl := Option.some.inj hf
      exact e_ireturn dX8_commonDivisor_35 rfl ⟨rfl, rfl⟩
    · replace hf := ifn hf c15
      refine e_iload_n dX8_commonDivisor_18 rfl ?_
      refine e_iload_n dX8_commonDivisor_19 rfl ?_
      obtain ⟨g20, hf⟩ := gd_some hf
      refine e_irem dX8_commonDivisor_20 g20 ?_
      refine e_istore (ls' := [none, none, some (vi l2), some (vi l3), some (vi l4), some (vi (qrem l2 l3))]) dX8_commonDivisor_21 (Nat.le_of_ble_eq_true rfl) rfl ?_
      refine e_iload_n dX8_commonDivisor_23 rfl ?_
      refine e_istore_n (ls' := [none, none, some (vi l3), some (vi l3), some (vi l4), some (vi (qrem l2 l3))]) dX8_commonDivisor_24 (Nat.le_of_ble_eq_true rfl) rfl ?_
      refine e_iload dX8_commonDivisor_25 rfl ?_
      refine e_istore_n (ls' := [none, none, some (vi l3), some (vi (qrem l2 l3)), some (vi l4), some (vi (qrem l2 l3))]) dX8_commonDivisor_27 (Nat.le_of_ble_eq_true rfl) rfl ?_
      refine e_iinc (ls' := [none, none, some (vi l3), some (vi (qrem l2 l3)), some (vi (wr (l4 + 1))), some (vi (qrem l2 l3))]) dX8_commonDivisor_28 rfl (Nat.le_of_ble_eq_true rfl) rfl ?_
      refine e_goto (tgt := 7) dX8_commonDivisor_31 (by decide) ?_
      exact e_mask [false, false, true, true, true, false] (hK7 l3 (qrem l2 l3) (wr (l4 + 1)) hf)
def p_X8_commonDivisor_L7  (h : Mem)   : Nat → Int → Int → Int → Option (Int)
  | 0, _, _, _ => none
  | n + 1, l2, l3, l4 => p_X8_commonDivisor_7 (fun (l2 l3 l4 : Int) => p_X8_commonDivisor_L7  h   n l2 l3 l4) h   l2 l3 l4
theorem q_X8_commonDivisor_L7  (h : Mem)     {X : Int}  : ∀ (n : Nat) (l2 l3 l4 : Int), p_X8_commonDivisor_L7  h   n l2 l3 l4 = some X → E m_X8_commonDivisor none (fun r h' => r = some (vi X) ∧ h' = h) 7 [none, none, some (vi l2), some (vi l3), some (vi l4), none] [] h := by
  intro n
  induction n with
  | zero => intro l2 l3 l4 hf; have hf2 : (none : Option (Int)) = some X := hf; cases hf2
  | succ n ih => intro l2 l3 l4 hf; exact q_X8_commonDivisor_7 (fun (l2 l3 l4 : Int) => p_X8_commonDivisor_L7  h   n l2 l3 l4) h     l2 l3 l4 (fun l2 l3 l4 hf => ih l2 l3 l4 hf) hf
def p_X8_commonDivisor (h : Mem)  (l0 l1 : Int) : Option (Int) :=
  p_X8_commonDivisor_L7  h   300  l0 l1 0
set_option maxRecDepth 20000 in
theorem q_X8_commonDivisor (h : Mem)   (l0 l1 : Int) {X : Int} (hf : p_X8_commonDivisor h  l0 l1 = some X) : Cn m_X8_commonDivisor [vi l0, vi l1] h (fun r h' => r = some (vi X) ∧ h' = h) := by
  unfold p_X8_commonDivisor at hf
  have key : E m_X8_commonDivisor none (fun r h' => r = some (vi X) ∧ h' = h) 0 [some (vi l0), some (vi l1), none, none, none, none] [] h := by
    refine e_iload_n dX8_commonDivisor_0 rfl ?_
    refine e_istore_n (ls' := [some (vi l0), some (vi l1), some (vi l0), none, none, none]) dX8_commonDivisor_1 (Nat.le_of_ble_eq_true rfl) rfl ?_
    refine e_iload_n dX8_commonDivisor_2 rfl ?_
    refine e_istore_n (ls' := [some (vi l0), some (vi l1), some (vi l0), some (vi l1), none, none]) dX8_commonDivisor_3 (Nat.le_of_ble_eq_true rfl) rfl ?_
    refine e_iconst dX8_commonDivisor_4 ⟨by decide, by decide⟩ ?_
    refine e_istore (ls' := [some (vi l0), some (vi l1), some (vi l0), some (vi l1), some (vi 0), none]) dX8_commonDivisor_5 (Nat.le_of_ble_eq_true rfl) rfl ?_
    exact e_mask [false, false, true, true, true, false] (q_X8_commonDivisor_L7  h      300  l0 l1 0 hf)
  exact Cn_of rfl (fun _ => Nat.le_of_ble_eq_true rfl) ⟨rfl, rfl⟩ (e_pad 4 key)
theorem lk_537 : SLk "StarRight" 303 m_X8_commonDivisor 2 := ⟨tw_537, tw_538, tw_1, tw_539, by decide +kernel⟩
abbrev m_X8_fraction : MI := (yX8_fraction, cX8_fraction, 5, some .int, { frames := 1, cells := 0, slots := 0, locals := 25 })
def p_X8_fraction_18  (h : Mem)   (l3 s0 : Int) : Option (Int) :=
  if l3 = 0 then (some s0) else (gd (¬ l3 = 0) (some (qdiv s0 l3)))
set_option maxRecDepth 20000 in
theorem q_X8_fraction_18  (h : Mem)     (l3 s0 : Int) {X : Int}  (hf : p_X8_fraction_18  h   l3 s0 = some X) : E m_X8_fraction none (fun r h' => r = some (vi X) ∧ h' = h) 18 [none, none, none, some (vi l3), none] [vi s0] h := by
  unfold p_X8_fraction_18 at hf
  refine e_istore (ls' := [none, none, none, some (vi l3), some (vi s0)]) dX8_fraction_18 (Nat.le_of_ble_eq_true rfl) rfl ?_
  refine e_iload_n dX8_fraction_20 rfl ?_
  refine e_if_ne (tgt := 29) dX8_fraction_21 (by decide) (fun c21 => ?_) (fun c21 => ?_)
  · replace hf := ifn hf c21
    refine e_iload dX8_fraction_29 rfl ?_
    refine e_iload_n dX8_fraction_31 rfl ?_
    obtain ⟨g32, hf⟩ := gd_some hf
    refine e_idiv dX8_fraction_32 g32 ?_
    obtain rfl := Option.some.inj hf
    exact e_ireturn dX8_fraction_33 rfl ⟨rfl, rfl⟩
  · replace hf := ifp hf c21
    refine e_iload dX8_fraction_24 rfl ?_
    refine e_goto (tgt := 33) dX8_fraction_26 (by decide) ?_
    obtain rfl := Option.some.inj hf
    exact e_ireturn dX8_fraction_33 rfl ⟨rfl, rfl⟩
def p_X8_fraction (h : Mem)  (l0 l1 l2 : Int) : Option (Int) :=
  bd (p_X8_commonDivisor h (babs l0) l1) (fun r5 => if l2 = 0 then (p_X8_fraction_18  h   r5 l1) else (p_X8_fraction_18  h   r5 l0))
set_option maxRecDepth 20000 in
theorem q_X8_fraction (h : Mem)   (l0 l1 l2 : Int) {X : Int} (hf : p_X8_fraction h  l0 l1 l2 = some X) : Cn m_X8_fraction [vi l0, vi l1, vi l2] h (fun r h' => r = some (vi X) ∧ h' = h) := by
  unfold p_X8_fraction at hf
  have key : E m_X8_fraction none (fun r h' => r = some (vi X) ∧ h' = h) 0 [some (vi l0), some (vi l1), some (vi l2), none, none] [] h := by
    refine e_iload_n dX8_fraction_0 rfl ?_
    refine e_mabs dX8_fraction_1 rfl tw_536 ⟨tw_337, tw_11⟩ (Nat.le_of_ble_eq_true rfl) (Nat.le_of_ble_eq_true rfl) ?_
    refine e_iload_n dX8_fraction_4 rfl ?_
    obtain ⟨r5, e5, hf⟩ := bd_some hf
    refine e_callS2i dX8_fraction_5 rfl lk_537 ⟨rfl, rfl, Nat.le_of_ble_eq_true rfl, Nat.le_of_ble_eq_true rfl⟩ (Nat.le_of_ble_eq_true rfl) (q_X8_commonDivisor h   (babs l0) l1 e5) ?_
    refine e_istore_n (ls' := [some (vi l0), some (vi l1), some (vi l2), some (vi r5), none]) dX8_fraction_8 (Nat.le_of_ble_eq_true rfl) rfl ?_
    refine e_iload_n dX8_fraction_9 rfl ?_
    refine e_if_eq (tgt := 17) dX8_fraction_10 (by decide) (fun c10 => ?_) (fun c10 => ?_)
    · replace hf := ifp hf c10
      refine e_iload_n dX8_fraction_17 rfl ?_
      exact e_mask [false, false, false, true, false] (q_X8_fraction_18  h     r5 l1  hf)
    · replace hf := ifn hf c10
      refine e_iload_n dX8_fraction_13 rfl ?_
      refine e_goto (tgt := 18) dX8_fraction_14 (by decide) ?_
      exact e_mask [false, false, false, true, false] (q_X8_fraction_18  h     r5 l0  hf)
  exact Cn_of rfl (fun _ => Nat.le_of_ble_eq_true rfl) ⟨rfl, rfl⟩ (e_pad 2 key)
theorem lk_524 : VLk "StarRight" 241 m_X8_gainInAllOrders 1 := ⟨tw_524, tw_526, twp_14, tw_1, tw_527, by decide +kernel⟩
theorem lk_533 : SLk "StarRight" 247 m_X8_fraction 3 := ⟨tw_533, tw_534, tw_1, tw_535, by decide +kernel⟩
abbrev m_X8_share : MI := (yX8_share, cX8_share, 5, some .int, { frames := 5, cells := 0, slots := 0, locals := 119 })
def p_X8_share_95  (h : Mem)   (l1 l3 : Int) : Option (Int × Mem) :=
  bd (p_X8_gainInAllOrders h l1) (fun r97 => bd (p_X8_orders h (h 7 4)) (fun r107 => bd (p_X8_fraction h r97 r107 l3) (fun r111 => some (r111, h))))
set_option maxRecDepth 20000 in
theorem q_X8_share_95  (h : Mem)     (l1 l3 : Int) {X : Int × Mem}  (hf : p_X8_share_95  h   l1 l3 = some X) : E m_X8_share none (fun r h' => r = some (vi X.1) ∧ h' = X.2) 95 [some (vr 0), some (vi l1), none, some (vi l3), none] [] h := by
  unfold p_X8_share_95 at hf
  refine e_aload_n dX8_share_95 rfl ?_
  refine e_iload_n dX8_share_96 rfl ?_
  obtain ⟨r97, e97, hf⟩ := bd_some hf
  refine e_callV1i dX8_share_97 rfl lk_524 ⟨rfl, rfl, Nat.le_of_ble_eq_true rfl, Nat.le_of_ble_eq_true rfl⟩ rfl rfl (Nat.le_of_ble_eq_true rfl) (q_X8_gainInAllOrders h   l1 e97) ?_
  refine e_aload_n dX8_share_100 rfl ?_
  refine e_getR dX8_share_101 rfl fl_193 rfl rfl ?_
  refine e_getI (kz := 4) rfl dX8_share_104 rfl fl_76 rfl rfl (Or.inl rfl) ?_
  obtain ⟨r107, e107, hf⟩ := bd_some hf
  refine e_callS1i dX8_share_107 rfl lk_528 ⟨rfl, rfl, Nat.le_of_ble_eq_true rfl, Nat.le_of_ble_eq_true rfl⟩ (Nat.le_of_ble_eq_true rfl) (q_X8_orders h   (h 7 4) e107) ?_
  refine e_iload_n dX8_share_110 rfl ?_
  obtain ⟨r111, e111, hf⟩ := bd_some hf
  refine e_callS3i dX8_share_111 rfl lk_533 ⟨rfl, rfl, Nat.le_of_ble_eq_true rfl, Nat.le_of_ble_eq_true rfl⟩ (Nat.le_of_ble_eq_true rfl) (q_X8_fraction h   r97 r107 l3 e111) ?_
  obtain rfl := Option.some.inj hf
  exact e_ireturn dX8_share_114 rfl ⟨rfl, rfl⟩
def p_X8_share_28 (K28 : Mem → Int → Int → Int → Int → Option (Int × Mem)) (h : Mem)   (l1 l2 l3 l4 : Int) : Option (Int × Mem) :=
  bd (p_X6_everyRoof h 7) (fun r34 => if r34 < l4 then (p_X8_share_95  h   l1 l3) else (if 32 ≤ l4 then (p_X8_share_95  h   l1 l3) else (bd (p_X2_survey h 7 l4 (h 0 11)) (fun h61 => bd (p_X2_takings h61 7 l4 l2) (fun r85 => gd (0 ≤ l4 ∧ l4 < 32) (K28 (up h61 44 l4 r85) l1 l2 l3 (wr (l4 + 1))))))))
set_option maxRecDepth 20000 in
theorem q_X8_share_28 (K28 : Mem → Int → Int → Int → Int → Option (Int × Mem)) (h : Mem)     (l1 l2 l3 l4 : Int) {X : Int × Mem} (hK28 : ∀ (h : Mem) (l1 l2 l3 l4 : Int), K28 h l1 l2 l3 l4 = some X → E m_X8_share none (fun r h' => r = some (vi X.1) ∧ h' = X.2) 28 [some (vr 0), some (vi l1), some (vi l2), some (vi l3), some (vi l4)] [] h) (hf : p_X8_share_28 K28 h   l1 l2 l3 l4 = some X) : E m_X8_share none (fun r h' => r = some (vi X.1) ∧ h' = X.2) 28 [some (vr 0), some (vi l1), some (vi l2), some (vi l3), some (vi l4)] [] h := by
  unfold p_X8_share_28 at hf
  refine e_iload dX8_share_28 rfl ?_
  refine e_aload_n dX8_share_30 rfl ?_
  refine e_getR dX8_share_31 rfl fl_193 rfl rfl ?_
  obtain ⟨r34, e34, hf⟩ := bd_some hf
  refine e_callV0i dX8_share_34 rfl lk_344 ⟨rfl, rfl, Nat.le_of_ble_eq_true rfl, Nat.le_of_ble_eq_true rfl⟩ rfl rfl (Nat.le_of_ble_eq_true rfl) (q_X6_everyRoof h 7 isT7  e34) ?_
  refine e_icmp_gt (tgt := 95) dX8_share_37 (by decide) (fun c37 => ?_) (fun c37 => ?_)
  · replace hf := ifp hf c37
    exact e_mask [true, true, false, true, false] (q_X8_share_95  h     l1 l3  hf)
  · replace hf := ifn hf c37
    refine e_iload dX8_share_40 rfl ?_
    refine e_bipush dX8_share_42 ⟨by decide, by decide, by decide⟩ ?_
    refine e_icmp_ge (tgt := 95) dX8_share_44 (by decide) (fun c44 => ?_) (fun c44 => ?_)
    · replace hf := ifp hf c44
      exact e_mask [true, true, false, true, false] (q_X8_share_95  h     l1 l3  hf)
    · replace hf := ifn hf c44
      refine e_aload_n dX8_share_47 rfl ?_
      refine e_getR dX8_share_48 rfl fl_197 rfl rfl ?_
      refine e_aload_n dX8_share_51 rfl ?_
      refine e_getR dX8_share_52 rfl fl_193 rfl rfl ?_
      refine e_iload dX8_share_55 rfl ?_
      refine e_aload_n dX8_share_57 rfl ?_
      refine e_getI (kz := 11) rfl dX8_share_58 rfl fl_202 rfl rfl (Or.inl rfl) ?_
      obtain ⟨h61, e61, hf⟩ := bd_some hf
      refine e_callV3v dX8_share_61 rfl lk_353 ⟨rfl, rfl, Nat.le_of_ble_eq_true rfl, Nat.le_of_ble_eq_true rfl⟩ rfl rfl (Nat.le_of_ble_eq_true rfl) (q_X2_survey h 7 isT7 l4 (h 0 11) e61) ?_
      refine e_aload_n dX8_share_64 rfl ?_
      refine e_getR dX8_share_65 rfl fl_201 rfl rfl ?_
      refine e_iload dX8_share_68 rfl ?_
      refine e_aload_n dX8_share_70 rfl ?_
      refine e_getR dX8_share_71 rfl fl_197 rfl rfl ?_
      refine e_aload_n dX8_share_74 rfl ?_
      refine e_getR dX8_share_75 rfl fl_193 rfl rfl ?_
      refine e_aload_n dX8_share_78 rfl ?_
      refine e_getR dX8_share_79 rfl fl_192 rfl rfl ?_
      refine e_iload dX8_share_82 rfl ?_
      refine e_iload_n dX8_share_84 rfl ?_
      obtain ⟨r85, e85, hf⟩ := bd_some hf
      refine e_callV4i dX8_share_85 rfl lk_465 ⟨rfl, rfl, Nat.le_of_ble_eq_true rfl, Nat.le_of_ble_eq_true rfl⟩ rfl rfl (Nat.le_of_ble_eq_true rfl) (q_X2_takings h61 7 isT7 l4 l2 e85) ?_
      obtain ⟨g88, hf⟩ := gd_some hf
      refine e_iast dX8_share_88 rfl g88 ?_
      refine e_iinc (ls' := [some (vr 0), some (vi l1), some (vi l2), some (vi l3), some (vi (wr (l4 + 1)))]) dX8_share_89 rfl (Nat.le_of_ble_eq_true rfl) rfl ?_
      refine e_goto (tgt := 28) dX8_share_92 (by decide) ?_
      exact e_mask [true, true, true, true, true] (hK28 (up h61 44 l4 r85) l1 l2 l3 (wr (l4 + 1)) hf)
def p_X8_share_L28     : Nat → Mem → Int → Int → Int → Int → Option (Int × Mem)
  | 0, _, _, _, _, _ => none
  | n + 1, h, l1, l2, l3, l4 => p_X8_share_28 (fun (h : Mem) (l1 l2 l3 l4 : Int) => p_X8_share_L28     n h l1 l2 l3 l4) h   l1 l2 l3 l4
theorem q_X8_share_L28       {X : Int × Mem}  : ∀ (n : Nat) (h : Mem) (l1 l2 l3 l4 : Int), p_X8_share_L28     n h l1 l2 l3 l4 = some X → E m_X8_share none (fun r h' => r = some (vi X.1) ∧ h' = X.2) 28 [some (vr 0), some (vi l1), some (vi l2), some (vi l3), some (vi l4)] [] h := by
  intro n
  induction n with
  | zero => intro h l1 l2 l3 l4 hf; have hf2 : (none : Option (Int × Mem)) = some X := hf; cases hf2
  | succ n ih => intro h l1 l2 l3 l4 hf; exact q_X8_share_28 (fun (h : Mem) (l1 l2 l3 l4 : Int) => p_X8_share_L28     n h l1 l2 l3 l4) h     l1 l2 l3 l4 (fun h l1 l2 l3 l4 hf => ih h l1 l2 l3 l4 hf) hf
def p_X8_share (h : Mem)  (l1 l2 l3 : Int) : Option (Int × Mem) :=
  bd (p_X6_hasRoof h 7 l1) (fun r5 => if r5 = 0 then (some ((-1), h)) else (bd (p_X8_isSpan h l2 10) (fun r16 => if r16 = 0 then (some ((-2), h)) else (p_X8_share_L28     300 h l1 l2 l3 0))))
set_option maxRecDepth 20000 in
theorem q_X8_share (h : Mem)   (l1 l2 l3 : Int) {X : Int × Mem} (hf : p_X8_share h  l1 l2 l3 = some X) : Cn m_X8_share [vr 0, vi l1, vi l2, vi l3] h (fun r h' => r = some (vi X.1) ∧ h' = X.2) := by
  unfold p_X8_share at hf
  have key : E m_X8_share none (fun r h' => r = some (vi X.1) ∧ h' = X.2) 0 [some (vr 0), some (vi l1), some (vi l2), some (vi l3), none] [] h := by
    refine e_aload_n dX8_share_0 rfl ?_
    refine e_getR dX8_share_1 rfl fl_193 rfl rfl ?_
    refine e_iload_n dX8_share_4 rfl ?_
    obtain ⟨r5, e5, hf⟩ := bd_some hf
    refine e_callV1i dX8_share_5 rfl lk_343 ⟨rfl, rfl, Nat.le_of_ble_eq_true rfl, Nat.le_of_ble_eq_true rfl⟩ rfl rfl (Nat.le_of_ble_eq_true rfl) (q_X6_hasRoof h 7 isT7 l1 e5) ?_
    refine e_if_ne (tgt := 13) dX8_share_8 (by decide) (fun c8 => ?_) (fun c8 => ?_)
    · replace hf := ifn hf c8
      refine e_iload_n dX8_share_13 rfl ?_
      refine e_bipush dX8_share_14 ⟨by decide, by decide, by decide⟩ ?_
      obtain ⟨r16, e16, hf⟩ := bd_some hf
      refine e_callS2i dX8_share_16 rfl lk_489 ⟨rfl, rfl, Nat.le_of_ble_eq_true rfl, Nat.le_of_ble_eq_true rfl⟩ (Nat.le_of_ble_eq_true rfl) (q_X8_isSpan h   l2 10 e16) ?_
      refine e_if_ne (tgt := 25) dX8_share_19 (by decide) (fun c19 => ?_) (fun c19 => ?_)
      · replace hf := ifn hf c19
        refine e_iconst dX8_share_25 ⟨by decide, by decide⟩ ?_
        refine e_istore (ls' := [some (vr 0), some (vi l1), some (vi l2), some (vi l3), some (vi 0)]) dX8_share_26 (Nat.le_of_ble_eq_true rfl) rfl ?_
        exact e_mask [true, true, true, true, true] (q_X8_share_L28        300 h l1 l2 l3 0 hf)
      · replace hf := ifp hf c19
        refine e_bipush dX8_share_22 ⟨by decide, by decide, by decide⟩ ?_
        obtain rfl := Option.some.inj hf
        exact e_ireturn dX8_share_24 rfl ⟨rfl, rfl⟩
    · replace hf := ifp hf c8
      refine e_iconst dX8_share_11 ⟨by decide, by decide⟩ ?_
      obtain rfl := Option.some.inj hf
      exact e_ireturn dX8_share_12 rfl ⟨rfl, rfl⟩
  exact Cn_of rfl (fun _ => Nat.le_of_ble_eq_true rfl) ⟨rfl, rfl⟩ (e_pad 1 key)
abbrev m_X8_rentsByLaw : MI := (yX8_rentsByLaw, cX8_rentsByLaw, 4, some .int, { frames := 5, cells := 0, slots := 0, locals := 119 })
def p_X8_rentsByLaw (h : Mem)  (l1 l2 l3 : Int) : Option (Int × Mem) :=
  bd (p_X6_everyRoof h 7) (fun r12 => bd (p_X2_survey h 7 r12 l1) (fun h16 => bd (p_X6_roofsOf h16 7 l2) (fun r36 => bd (p_X2_takings h16 7 r36 l3) (fun r40 => some (r40, h16)))))
set_option maxRecDepth 20000 in
theorem q_X8_rentsByLaw (h : Mem)   (l1 l2 l3 : Int) {X : Int × Mem} (hf : p_X8_rentsByLaw h  l1 l2 l3 = some X) : Cn m_X8_rentsByLaw [vr 0, vi l1, vi l2, vi l3] h (fun r h' => r = some (vi X.1) ∧ h' = X.2) := by
  unfold p_X8_rentsByLaw at hf
  have key : E m_X8_rentsByLaw none (fun r h' => r = some (vi X.1) ∧ h' = X.2) 0 [some (vr 0), some (vi l1), some (vi l2), some (vi l3)] [] h := by
    refine e_aload_n dX8_rentsByLaw_0 rfl ?_
    refine e_getR dX8_rentsByLaw_1 rfl fl_197 rfl rfl ?_
    refine e_aload_n dX8_rentsByLaw_4 rfl ?_
    refine e_getR dX8_rentsByLaw_5 rfl fl_193 rfl rfl ?_
    refine e_aload_n dX8_rentsByLaw_8 rfl ?_
    refine e_getR dX8_rentsByLaw_9 rfl fl_193 rfl rfl ?_
    obtain ⟨r12, e12, hf⟩ := bd_some hf
    refine e_callV0i dX8_rentsByLaw_12 rfl lk_344 ⟨rfl, rfl, Nat.le_of_ble_eq_true rfl, Nat.le_of_ble_eq_true rfl⟩ rfl rfl (Nat.le_of_ble_eq_true rfl) (q_X6_everyRoof h 7 isT7  e12) ?_
    refine e_iload_n dX8_rentsByLaw_15 rfl ?_
    obtain ⟨h16, e16, hf⟩ := bd_some hf
    refine e_callV3v dX8_rentsByLaw_16 rfl lk_353 ⟨rfl, rfl, Nat.le_of_ble_eq_true rfl, Nat.le_of_ble_eq_true rfl⟩ rfl rfl (Nat.le_of_ble_eq_true rfl) (q_X2_survey h 7 isT7 r12 l1 e16) ?_
    refine e_aload_n dX8_rentsByLaw_19 rfl ?_
    refine e_getR dX8_rentsByLaw_20 rfl fl_197 rfl rfl ?_
    refine e_aload_n dX8_rentsByLaw_23 rfl ?_
    refine e_getR dX8_rentsByLaw_24 rfl fl_193 rfl rfl ?_
    refine e_aload_n dX8_rentsByLaw_27 rfl ?_
    refine e_getR dX8_rentsByLaw_28 rfl fl_192 rfl rfl ?_
    refine e_aload_n dX8_rentsByLaw_31 rfl ?_
    refine e_getR dX8_rentsByLaw_32 rfl fl_193 rfl rfl ?_
    refine e_iload_n dX8_rentsByLaw_35 rfl ?_
    obtain ⟨r36, e36, hf⟩ := bd_some hf
    refine e_callV1i dX8_rentsByLaw_36 rfl lk_461 ⟨rfl, rfl, Nat.le_of_ble_eq_true rfl, Nat.le_of_ble_eq_true rfl⟩ rfl rfl (Nat.le_of_ble_eq_true rfl) (q_X6_roofsOf h16 7 isT7 l2 e36) ?_
    refine e_iload_n dX8_rentsByLaw_39 rfl ?_
    obtain ⟨r40, e40, hf⟩ := bd_some hf
    refine e_callV4i dX8_rentsByLaw_40 rfl lk_465 ⟨rfl, rfl, Nat.le_of_ble_eq_true rfl, Nat.le_of_ble_eq_true rfl⟩ rfl rfl (Nat.le_of_ble_eq_true rfl) (q_X2_takings h16 7 isT7 r36 l3 e40) ?_
    obtain rfl := Option.some.inj hf
    exact e_ireturn dX8_rentsByLaw_43 rfl ⟨rfl, rfl⟩
  exact Cn_of rfl (fun _ => Nat.le_of_ble_eq_true rfl) ⟨rfl, rfl⟩ (e_pad 0 key)
theorem lk_544 : VLk "StarRight" 254 m_X8_rentsByLaw 3 := ⟨tw_544, tw_546, twp_15, tw_1, tw_547, by decide +kernel⟩
abbrev m_X8_bestLaw : MI := (yX8_bestLaw, cX8_bestLaw, 7, some .int, { frames := 6, cells := 0, slots := 0, locals := 142 })
def p_X8_bestLaw_66 (K36 : Mem → Int → Int → Int → Int → Int → Option (Int × Mem)) (h : Mem)   (l1 l2 l3 l4 l5 : Int) : Option (Int × Mem) :=
  K36 h l1 l2 l3 l4 (wr (l5 + 1))
set_option maxRecDepth 20000 in
theorem q_X8_bestLaw_66 (K36 : Mem → Int → Int → Int → Int → Int → Option (Int × Mem)) (h : Mem)     (l1 l2 l3 l4 l5 : Int) {X : Int × Mem} (hK36 : ∀ (h : Mem) (l1 l2 l3 l4 l5 : Int), K36 h l1 l2 l3 l4 l5 = some X → E m_X8_bestLaw none (fun r h' => r = some (vi X.1) ∧ h' = X.2) 36 [some (vr 0), some (vi l1), some (vi l2), some (vi l3), some (vi l4), some (vi l5), none] [] h) (hf : p_X8_bestLaw_66 K36 h   l1 l2 l3 l4 l5 = some X) : E m_X8_bestLaw none (fun r h' => r = some (vi X.1) ∧ h' = X.2) 66 [some (vr 0), some (vi l1), some (vi l2), some (vi l3), some (vi l4), some (vi l5), none] [] h := by
  unfold p_X8_bestLaw_66 at hf
  refine e_iinc (ls' := [some (vr 0), some (vi l1), some (vi l2), some (vi l3), some (vi l4), some (vi (wr (l5 + 1))), none]) dX8_bestLaw_66 rfl (Nat.le_of_ble_eq_true rfl) rfl ?_
  refine e_goto (tgt := 36) dX8_bestLaw_69 (by decide) ?_
  exact e_mask [true, true, true, true, true, true, false] (hK36 h l1 l2 l3 l4 (wr (l5 + 1)) hf)
def p_X8_bestLaw_36 (K36 : Mem → Int → Int → Int → Int → Int → Option (Int × Mem)) (h : Mem)   (l1 l2 l3 l4 l5 : Int) : Option (Int × Mem) :=
  if 3 ≤ l5 then (some (l3, h)) else (bd (p_X8_rentsByLaw h l5 l1 l2) (fun q47 => if q47.1 ≤ l4 then (p_X8_bestLaw_66 K36 q47.2   l1 l2 l3 l4 l5) else (p_X8_bestLaw_66 K36 q47.2   l1 l2 l5 q47.1 l5)))
set_option maxRecDepth 20000 in
theorem q_X8_bestLaw_36 (K36 : Mem → Int → Int → Int → Int → Int → Option (Int × Mem)) (h : Mem)     (l1 l2 l3 l4 l5 : Int) {X : Int × Mem} (hK36 : ∀ (h : Mem) (l1 l2 l3 l4 l5 : Int), K36 h l1 l2 l3 l4 l5 = some X → E m_X8_bestLaw none (fun r h' => r = some (vi X.1) ∧ h' = X.2) 36 [some (vr 0), some (vi l1), some (vi l2), some (vi l3), some (vi l4), some (vi l5), none] [] h) (hf : p_X8_bestLaw_36 K36 h   l1 l2 l3 l4 l5 = some X) : E m_X8_bestLaw none (fun r h' => r = some (vi X.1) ∧ h' = X.2) 36 [some (vr 0), some (vi l1), some (vi l2), some (vi l3), some (vi l4), some (vi l5), none] [] h := by
  unfold p_X8_bestLaw_36 at hf
  refine e_iload dX8_bestLaw_36 rfl ?_
  refine e_iconst dX8_bestLaw_38 ⟨by decide, by decide⟩ ?_
  refine e_icmp_ge (tgt := 72) dX8_bestLaw_39 (by decide) (fun c39 => ?_) (fun c39 => ?_)
  · replace hf := ifp hf c39
    refine e_iload_n dX8_bestLaw_72 rfl ?_
    obtain rfl := Option.some.inj hf
    exact e_ireturn dX8_bestLaw_73 rfl ⟨rfl, rfl⟩
  · replace hf := ifn hf c39
    refine e_aload_n dX8_bestLaw_42 rfl ?_
    refine e_iload dX8_bestLaw_43 rfl ?_
    refine e_iload_n dX8_bestLaw_45 rfl ?_
    refine e_iload_n dX8_bestLaw_46 rfl ?_
    obtain ⟨q47, e47, hf⟩ := bd_some hf
    refine e_callV3i dX8_bestLaw_47 rfl lk_544 ⟨rfl, rfl, Nat.le_of_ble_eq_true rfl, Nat.le_of_ble_eq_true rfl⟩ rfl rfl (Nat.le_of_ble_eq_true rfl) (q_X8_rentsByLaw h   l5 l1 l2 e47) ?_
    refine e_istore (ls' := [some (vr 0), some (vi l1), some (vi l2), some (vi l3), some (vi l4), some (vi l5), some (vi q47.1)]) dX8_bestLaw_50 (Nat.le_of_ble_eq_true rfl) rfl ?_
    refine e_iload dX8_bestLaw_52 rfl ?_
    refine e_iload dX8_bestLaw_54 rfl ?_
    refine e_icmp_le (tgt := 66) dX8_bestLaw_56 (by decide) (fun c56 => ?_) (fun c56 => ?_)
    · replace hf := ifp hf c56
      exact e_mask [true, true, true, true, true, true, false] (q_X8_bestLaw_66 K36 q47.2     l1 l2 l3 l4 l5 hK36 hf)
    · replace hf := ifn hf c56
      refine e_iload dX8_bestLaw_59 rfl ?_
      refine e_istore_n (ls' := [some (vr 0), some (vi l1), some (vi l2), some (vi l5), some (vi l4), some (vi l5), some (vi q47.1)]) dX8_bestLaw_61 (Nat.le_of_ble_eq_true rfl) rfl ?_
      refine e_iload dX8_bestLaw_62 rfl ?_
      refine e_istore (ls' := [some (vr 0), some (vi l1), some (vi l2), some (vi l5), some (vi q47.1), some (vi l5), some (vi q47.1)]) dX8_bestLaw_64 (Nat.le_of_ble_eq_true rfl) rfl ?_
      exact e_mask [true, true, true, true, true, true, false] (q_X8_bestLaw_66 K36 q47.2     l1 l2 l5 q47.1 l5 hK36 hf)
def p_X8_bestLaw_L36     : Nat → Mem → Int → Int → Int → Int → Int → Option (Int × Mem)
  | 0, _, _, _, _, _, _ => none
  | n + 1, h, l1, l2, l3, l4, l5 => p_X8_bestLaw_36 (fun (h : Mem) (l1 l2 l3 l4 l5 : Int) => p_X8_bestLaw_L36     n h l1 l2 l3 l4 l5) h   l1 l2 l3 l4 l5
theorem q_X8_bestLaw_L36       {X : Int × Mem}  : ∀ (n : Nat) (h : Mem) (l1 l2 l3 l4 l5 : Int), p_X8_bestLaw_L36     n h l1 l2 l3 l4 l5 = some X → E m_X8_bestLaw none (fun r h' => r = some (vi X.1) ∧ h' = X.2) 36 [some (vr 0), some (vi l1), some (vi l2), some (vi l3), some (vi l4), some (vi l5), none] [] h := by
  intro n
  induction n with
  | zero => intro h l1 l2 l3 l4 l5 hf; have hf2 : (none : Option (Int × Mem)) = some X := hf; cases hf2
  | succ n ih => intro h l1 l2 l3 l4 l5 hf; exact q_X8_bestLaw_36 (fun (h : Mem) (l1 l2 l3 l4 l5 : Int) => p_X8_bestLaw_L36     n h l1 l2 l3 l4 l5) h     l1 l2 l3 l4 l5 (fun h l1 l2 l3 l4 l5 hf => ih h l1 l2 l3 l4 l5 hf) hf
def p_X8_bestLaw (h : Mem)  (l1 l2 : Int) : Option (Int × Mem) :=
  bd (p_X8_isLandlord h l1) (fun r1 => if r1 = 0 then (some ((-1), h)) else (if l2 < 0 then (some ((-2), h)) else (if l2 ≤ 12 then (bd (p_X8_rentsByLaw h 0 l1 l2) (fun q28 => p_X8_bestLaw_L36     300 q28.2 l1 l2 0 q28.1 1)) else (some ((-2), h)))))
set_option maxRecDepth 20000 in
theorem q_X8_bestLaw (h : Mem)   (l1 l2 : Int) {X : Int × Mem} (hf : p_X8_bestLaw h  l1 l2 = some X) : Cn m_X8_bestLaw [vr 0, vi l1, vi l2] h (fun r h' => r = some (vi X.1) ∧ h' = X.2) := by
  unfold p_X8_bestLaw at hf
  have key : E m_X8_bestLaw none (fun r h' => r = some (vi X.1) ∧ h' = X.2) 0 [some (vr 0), some (vi l1), some (vi l2), none, none, none, none] [] h := by
    refine e_iload_n dX8_bestLaw_0 rfl ?_
    obtain ⟨r1, e1, hf⟩ := bd_some hf
    refine e_callS1i dX8_bestLaw_1 rfl lk_415 ⟨rfl, rfl, Nat.le_of_ble_eq_true rfl, Nat.le_of_ble_eq_true rfl⟩ (Nat.le_of_ble_eq_true rfl) (q_X8_isLandlord h   l1 e1) ?_
    refine e_if_ne (tgt := 9) dX8_bestLaw_4 (by decide) (fun c4 => ?_) (fun c4 => ?_)
    · replace hf := ifn hf c4
      refine e_iload_n dX8_bestLaw_9 rfl ?_
      refine e_if_lt (tgt := 19) dX8_bestLaw_10 (by decide) (fun c10 => ?_) (fun c10 => ?_)
      · replace hf := ifp hf c10
        refine e_bipush dX8_bestLaw_19 ⟨by decide, by decide, by decide⟩ ?_
        obtain rfl := Option.some.inj hf
        exact e_ireturn dX8_bestLaw_21 rfl ⟨rfl, rfl⟩
      · replace hf := ifn hf c10
        refine e_iload_n dX8_bestLaw_13 rfl ?_
        refine e_bipush dX8_bestLaw_14 ⟨by decide, by decide, by decide⟩ ?_
        refine e_icmp_le (tgt := 22) dX8_bestLaw_16 (by decide) (fun c16 => ?_) (fun c16 => ?_)
        · replace hf := ifp hf c16
          refine e_iconst dX8_bestLaw_22 ⟨by decide, by decide⟩ ?_
          refine e_istore_n (ls' := [some (vr 0), some (vi l1), some (vi l2), some (vi 0), none, none, none]) dX8_bestLaw_23 (Nat.le_of_ble_eq_true rfl) rfl ?_
          refine e_aload_n dX8_bestLaw_24 rfl ?_
          refine e_iconst dX8_bestLaw_25 ⟨by decide, by decide⟩ ?_
          refine e_iload_n dX8_bestLaw_26 rfl ?_
          refine e_iload_n dX8_bestLaw_27 rfl ?_
          obtain ⟨q28, e28, hf⟩ := bd_some hf
          refine e_callV3i dX8_bestLaw_28 rfl lk_544 ⟨rfl, rfl, Nat.le_of_ble_eq_true rfl, Nat.le_of_ble_eq_true rfl⟩ rfl rfl (Nat.le_of_ble_eq_true rfl) (q_X8_rentsByLaw h   0 l1 l2 e28) ?_
          refine e_istore (ls' := [some (vr 0), some (vi l1), some (vi l2), some (vi 0), some (vi q28.1), none, none]) dX8_bestLaw_31 (Nat.le_of_ble_eq_true rfl) rfl ?_
          refine e_iconst dX8_bestLaw_33 ⟨by decide, by decide⟩ ?_
          refine e_istore (ls' := [some (vr 0), some (vi l1), some (vi l2), some (vi 0), some (vi q28.1), some (vi 1), none]) dX8_bestLaw_34 (Nat.le_of_ble_eq_true rfl) rfl ?_
          exact e_mask [true, true, true, true, true, true, false] (q_X8_bestLaw_L36        300 q28.2 l1 l2 0 q28.1 1 hf)
        · replace hf := ifn hf c16
          refine e_bipush dX8_bestLaw_19 ⟨by decide, by decide, by decide⟩ ?_
          obtain rfl := Option.some.inj hf
          exact e_ireturn dX8_bestLaw_21 rfl ⟨rfl, rfl⟩
    · replace hf := ifp hf c4
      refine e_iconst dX8_bestLaw_7 ⟨by decide, by decide⟩ ?_
      obtain rfl := Option.some.inj hf
      exact e_ireturn dX8_bestLaw_8 rfl ⟨rfl, rfl⟩
  exact Cn_of rfl (fun _ => Nat.le_of_ble_eq_true rfl) ⟨rfl, rfl⟩ (e_pad 4 key)
theorem lk_552 : VLk "StarRight" 257 m_X2_holders 3 := ⟨tw_552, tw_553, tw_554, tw_6, tw_555, by decide +kernel⟩
abbrev m_X8_starless : MI := (yX8_starless, cX8_starless, 5, some .int, { frames := 6, cells := 0, slots := 0, locals := 139 })
def p_X8_starless_67 (K38 : Mem → Int → Int → Option (Int × Mem)) (h : Mem)   (l2 l3 : Int) : Option (Int × Mem) :=
  K38 h l2 (wr (l3 + 1))
set_option maxRecDepth 20000 in
theorem q_X8_starless_67 (K38 : Mem → Int → Int → Option (Int × Mem)) (h : Mem)     (l2 l3 : Int) {X : Int × Mem} (hK38 : ∀ (h : Mem) (l2 l3 : Int), K38 h l2 l3 = some X → E m_X8_starless none (fun r h' => r = some (vi X.1) ∧ h' = X.2) 38 [some (vr 0), none, some (vi l2), some (vi l3), none] [] h) (hf : p_X8_starless_67 K38 h   l2 l3 = some X) : E m_X8_starless none (fun r h' => r = some (vi X.1) ∧ h' = X.2) 67 [some (vr 0), none, some (vi l2), some (vi l3), none] [] h := by
  unfold p_X8_starless_67 at hf
  refine e_iinc (ls' := [some (vr 0), none, some (vi l2), some (vi (wr (l3 + 1))), none]) dX8_starless_67 rfl (Nat.le_of_ble_eq_true rfl) rfl ?_
  refine e_goto (tgt := 38) dX8_starless_70 (by decide) ?_
  exact e_mask [true, false, true, true, false] (hK38 h l2 (wr (l3 + 1)) hf)
def p_X8_starless_38 (K38 : Mem → Int → Int → Option (Int × Mem)) (h : Mem)   (l2 l3 : Int) : Option (Int × Mem) :=
  if 4 ≤ l3 then (some ((-9), h)) else (bd (p_X6_roofsOf h 7 l3) (fun r48 => if r48 = 0 then (p_X8_starless_67 K38 h   l2 l3) else (if band r48 l2 = 0 then (some (l3, h)) else (p_X8_starless_67 K38 h   l2 l3))))
set_option maxRecDepth 20000 in
theorem q_X8_starless_38 (K38 : Mem → Int → Int → Option (Int × Mem)) (h : Mem)     (l2 l3 : Int) {X : Int × Mem} (hK38 : ∀ (h : Mem) (l2 l3 : Int), K38 h l2 l3 = some X → E m_X8_starless none (fun r h' => r = some (vi X.1) ∧ h' = X.2) 38 [some (vr 0), none, some (vi l2), some (vi l3), none] [] h) (hf : p_X8_starless_38 K38 h   l2 l3 = some X) : E m_X8_starless none (fun r h' => r = some (vi X.1) ∧ h' = X.2) 38 [some (vr 0), none, some (vi l2), some (vi l3), none] [] h := by
  unfold p_X8_starless_38 at hf
  refine e_iload_n dX8_starless_38 rfl ?_
  refine e_iconst dX8_starless_39 ⟨by decide, by decide⟩ ?_
  refine e_icmp_ge (tgt := 73) dX8_starless_40 (by decide) (fun c40 => ?_) (fun c40 => ?_)
  · replace hf := ifp hf c40
    refine e_bipush dX8_starless_73 ⟨by decide, by decide, by decide⟩ ?_
    obtain rfl := Option.some.inj hf
    exact e_ireturn dX8_starless_75 rfl ⟨rfl, rfl⟩
  · replace hf := ifn hf c40
    refine e_aload_n dX8_starless_43 rfl ?_
    refine e_getR dX8_starless_44 rfl fl_193 rfl rfl ?_
    refine e_iload_n dX8_starless_47 rfl ?_
    obtain ⟨r48, e48, hf⟩ := bd_some hf
    refine e_callV1i dX8_starless_48 rfl lk_461 ⟨rfl, rfl, Nat.le_of_ble_eq_true rfl, Nat.le_of_ble_eq_true rfl⟩ rfl rfl (Nat.le_of_ble_eq_true rfl) (q_X6_roofsOf h 7 isT7 l3 e48) ?_
    refine e_istore (ls' := [some (vr 0), none, some (vi l2), some (vi l3), some (vi r48)]) dX8_starless_51 (Nat.le_of_ble_eq_true rfl) rfl ?_
    refine e_iload dX8_starless_53 rfl ?_
    refine e_if_eq (tgt := 67) dX8_starless_55 (by decide) (fun c55 => ?_) (fun c55 => ?_)
    · replace hf := ifp hf c55
      exact e_mask [true, false, true, true, false] (q_X8_starless_67 K38 h     l2 l3 hK38 hf)
    · replace hf := ifn hf c55
      refine e_iload dX8_starless_58 rfl ?_
      refine e_iload_n dX8_starless_60 rfl ?_
      refine e_iand dX8_starless_61 ?_
      refine e_if_ne (tgt := 67) dX8_starless_62 (by decide) (fun c62 => ?_) (fun c62 => ?_)
      · replace hf := ifn hf c62
        exact e_mask [true, false, true, true, false] (q_X8_starless_67 K38 h     l2 l3 hK38 hf)
      · replace hf := ifp hf c62
        refine e_iload_n dX8_starless_65 rfl ?_
        obtain rfl := Option.some.inj hf
        exact e_ireturn dX8_starless_66 rfl ⟨rfl, rfl⟩
def p_X8_starless_L38     : Nat → Mem → Int → Int → Option (Int × Mem)
  | 0, _, _, _ => none
  | n + 1, h, l2, l3 => p_X8_starless_38 (fun (h : Mem) (l2 l3 : Int) => p_X8_starless_L38     n h l2 l3) h   l2 l3
theorem q_X8_starless_L38       {X : Int × Mem}  : ∀ (n : Nat) (h : Mem) (l2 l3 : Int), p_X8_starless_L38     n h l2 l3 = some X → E m_X8_starless none (fun r h' => r = some (vi X.1) ∧ h' = X.2) 38 [some (vr 0), none, some (vi l2), some (vi l3), none] [] h := by
  intro n
  induction n with
  | zero => intro h l2 l3 hf; have hf2 : (none : Option (Int × Mem)) = some X := hf; cases hf2
  | succ n ih => intro h l2 l3 hf; exact q_X8_starless_38 (fun (h : Mem) (l2 l3 : Int) => p_X8_starless_L38     n h l2 l3) h     l2 l3 (fun h l2 l3 hf => ih h l2 l3 hf) hf
def p_X8_starless (h : Mem)  (l1 : Int) : Option (Int × Mem) :=
  bd (p_X8_isSpan h l1 10) (fun r3 => if r3 = 0 then (some ((-2), h)) else (bd (p_X8_surveyTown h ) (fun h13 => bd (p_X2_holders h13 (h13 7 6) l1) (fun r32 => p_X8_starless_L38     300 h13 r32 0))))
set_option maxRecDepth 20000 in
theorem q_X8_starless (h : Mem)   (l1 : Int) {X : Int × Mem} (hf : p_X8_starless h  l1 = some X) : Cn m_X8_starless [vr 0, vi l1] h (fun r h' => r = some (vi X.1) ∧ h' = X.2) := by
  unfold p_X8_starless at hf
  have key : E m_X8_starless none (fun r h' => r = some (vi X.1) ∧ h' = X.2) 0 [some (vr 0), some (vi l1), none, none, none] [] h := by
    refine e_iload_n dX8_starless_0 rfl ?_
    refine e_bipush dX8_starless_1 ⟨by decide, by decide, by decide⟩ ?_
    obtain ⟨r3, e3, hf⟩ := bd_some hf
    refine e_callS2i dX8_starless_3 rfl lk_489 ⟨rfl, rfl, Nat.le_of_ble_eq_true rfl, Nat.le_of_ble_eq_true rfl⟩ (Nat.le_of_ble_eq_true rfl) (q_X8_isSpan h   l1 10 e3) ?_
    refine e_if_ne (tgt := 12) dX8_starless_6 (by decide) (fun c6 => ?_) (fun c6 => ?_)
    · replace hf := ifn hf c6
      refine e_aload_n dX8_starless_12 rfl ?_
      obtain ⟨h13, e13, hf⟩ := bd_some hf
      refine e_callV0v dX8_starless_13 rfl lk_349 ⟨rfl, rfl, Nat.le_of_ble_eq_true rfl, Nat.le_of_ble_eq_true rfl⟩ rfl rfl (Nat.le_of_ble_eq_true rfl) (q_X8_surveyTown h    e13) ?_
      refine e_aload_n dX8_starless_16 rfl ?_
      refine e_getR dX8_starless_17 rfl fl_197 rfl rfl ?_
      refine e_aload_n dX8_starless_20 rfl ?_
      refine e_getR dX8_starless_21 rfl fl_192 rfl rfl ?_
      refine e_aload_n dX8_starless_24 rfl ?_
      refine e_getR dX8_starless_25 rfl fl_193 rfl rfl ?_
      refine e_getI (kz := 6) rfl dX8_starless_28 rfl fl_80 rfl rfl (Or.inl rfl) ?_
      refine e_iload_n dX8_starless_31 rfl ?_
      obtain ⟨r32, e32, hf⟩ := bd_some hf
      refine e_callV3i dX8_starless_32 rfl lk_552 ⟨rfl, rfl, Nat.le_of_ble_eq_true rfl, Nat.le_of_ble_eq_true rfl⟩ rfl rfl (Nat.le_of_ble_eq_true rfl) (q_X2_holders h13   (h13 7 6) l1 e32) ?_
      refine e_istore_n (ls' := [some (vr 0), some (vi l1), some (vi r32), none, none]) dX8_starless_35 (Nat.le_of_ble_eq_true rfl) rfl ?_
      refine e_iconst dX8_starless_36 ⟨by decide, by decide⟩ ?_
      refine e_istore_n (ls' := [some (vr 0), some (vi l1), some (vi r32), some (vi 0), none]) dX8_starless_37 (Nat.le_of_ble_eq_true rfl) rfl ?_
      exact e_mask [true, false, true, true, false] (q_X8_starless_L38        300 h13 r32 0 hf)
    · replace hf := ifp hf c6
      refine e_bipush dX8_starless_9 ⟨by decide, by decide, by decide⟩ ?_
      obtain rfl := Option.some.inj hf
      exact e_ireturn dX8_starless_11 rfl ⟨rfl, rfl⟩
  exact Cn_of rfl (fun _ => Nat.le_of_ble_eq_true rfl) ⟨rfl, rfl⟩ (e_pad 3 key)
theorem lk_564 : SLk "StarRight" 270 m_X1_heightOfFirst 1 := ⟨tw_564, tw_565, tw_9, tw_566, by decide +kernel⟩
theorem lk_567 : SLk "StarRight" 273 m_X1_heightOfOther 1 := ⟨tw_567, tw_568, tw_9, tw_569, by decide +kernel⟩
theorem lk_570 : VLk "StarRight" 276 m_X1_put 3 := ⟨tw_570, tw_571, tw_572, tw_9, tw_573, by decide +kernel⟩
abbrev m_X8_tryHeights : MI := (yX8_tryHeights, cX8_tryHeights, 9, none, { frames := 5, cells := 0, slots := 0, locals := 119 })
def p_X8_tryHeights (h : Mem)  (l1 l2 l3 l4 : Int) : Option (Mem) :=
  bd (p_X1_heightOfFirst h l4) (fun r2 => bd (p_X1_heightOfOther h l4) (fun r9 => bd (p_X6_setHeight h 12 l1 r2) (fun h21 => bd (p_X6_setHeight h21 12 l2 r9) (fun h31 => bd (p_X6_everyRoof h31 12) (fun r46 => bd (p_X2_survey h31 12 r46 (h31 0 11)) (fun h53 => bd (p_X2_takings h53 12 (bshl 1 l1) l3) (fun r72 => bd (p_X2_takings h53 12 (bshl 1 l2) l3) (fun r96 => bd (p_X1_put h53 l4 (wr (r72 - r2)) (wr (r96 - r9))) (fun h114 => some h114)))))))))
set_option maxRecDepth 20000 in
theorem q_X8_tryHeights (h : Mem)   (l1 l2 l3 l4 : Int) {X : Mem} (hf : p_X8_tryHeights h  l1 l2 l3 l4 = some X) : Cn m_X8_tryHeights [vr 0, vi l1, vi l2, vi l3, vi l4] h (fun r h' => r = none ∧ h' = X) := by
  unfold p_X8_tryHeights at hf
  have key : E m_X8_tryHeights none (fun r h' => r = none ∧ h' = X) 0 [some (vr 0), some (vi l1), some (vi l2), some (vi l3), some (vi l4), none, none, none, none] [] h := by
    refine e_iload dX8_tryHeights_0 rfl ?_
    obtain ⟨r2, e2, hf⟩ := bd_some hf
    refine e_callS1i dX8_tryHeights_2 rfl lk_564 ⟨rfl, rfl, Nat.le_of_ble_eq_true rfl, Nat.le_of_ble_eq_true rfl⟩ (Nat.le_of_ble_eq_true rfl) (q_X1_heightOfFirst h   l4 e2) ?_
    refine e_istore (ls' := [some (vr 0), some (vi l1), some (vi l2), some (vi l3), some (vi l4), some (vi r2), none, none, none]) dX8_tryHeights_5 (Nat.le_of_ble_eq_true rfl) rfl ?_
    refine e_iload dX8_tryHeights_7 rfl ?_
    obtain ⟨r9, e9, hf⟩ := bd_some hf
    refine e_callS1i dX8_tryHeights_9 rfl lk_567 ⟨rfl, rfl, Nat.le_of_ble_eq_true rfl, Nat.le_of_ble_eq_true rfl⟩ (Nat.le_of_ble_eq_true rfl) (q_X1_heightOfOther h   l4 e9) ?_
    refine e_istore (ls' := [some (vr 0), some (vi l1), some (vi l2), some (vi l3), some (vi l4), some (vi r2), some (vi r9), none, none]) dX8_tryHeights_12 (Nat.le_of_ble_eq_true rfl) rfl ?_
    refine e_aload_n dX8_tryHeights_14 rfl ?_
    refine e_getR dX8_tryHeights_15 rfl fl_194 rfl rfl ?_
    refine e_iload_n dX8_tryHeights_18 rfl ?_
    refine e_iload dX8_tryHeights_19 rfl ?_
    obtain ⟨h21, e21, hf⟩ := bd_some hf
    refine e_callV2v dX8_tryHeights_21 rfl lk_422 ⟨rfl, rfl, Nat.le_of_ble_eq_true rfl, Nat.le_of_ble_eq_true rfl⟩ rfl rfl (Nat.le_of_ble_eq_true rfl) (q_X6_setHeight h 12 isT12 l1 r2 e21) ?_
    refine e_aload_n dX8_tryHeights_24 rfl ?_
    refine e_getR dX8_tryHeights_25 rfl fl_194 rfl rfl ?_
    refine e_iload_n dX8_tryHeights_28 rfl ?_
    refine e_iload dX8_tryHeights_29 rfl ?_
    obtain ⟨h31, e31, hf⟩ := bd_some hf
    refine e_callV2v dX8_tryHeights_31 rfl lk_422 ⟨rfl, rfl, Nat.le_of_ble_eq_true rfl, Nat.le_of_ble_eq_true rfl⟩ rfl rfl (Nat.le_of_ble_eq_true rfl) (q_X6_setHeight h21 12 isT12 l2 r9 e31) ?_
    refine e_aload_n dX8_tryHeights_34 rfl ?_
    refine e_getR dX8_tryHeights_35 rfl fl_197 rfl rfl ?_
    refine e_aload_n dX8_tryHeights_38 rfl ?_
    refine e_getR dX8_tryHeights_39 rfl fl_194 rfl rfl ?_
    refine e_aload_n dX8_tryHeights_42 rfl ?_
    refine e_getR dX8_tryHeights_43 rfl fl_194 rfl rfl ?_
    obtain ⟨r46, e46, hf⟩ := bd_some hf
    refine e_callV0i dX8_tryHeights_46 rfl lk_344 ⟨rfl, rfl, Nat.le_of_ble_eq_true rfl, Nat.le_of_ble_eq_true rfl⟩ rfl rfl (Nat.le_of_ble_eq_true rfl) (q_X6_everyRoof h31 12 isT12  e46) ?_
    refine e_aload_n dX8_tryHeights_49 rfl ?_
    refine e_getI (kz := 11) rfl dX8_tryHeights_50 rfl fl_202 rfl rfl (Or.inl rfl) ?_
    obtain ⟨h53, e53, hf⟩ := bd_some hf
    refine e_callV3v dX8_tryHeights_53 rfl lk_353 ⟨rfl, rfl, Nat.le_of_ble_eq_true rfl, Nat.le_of_ble_eq_true rfl⟩ rfl rfl (Nat.le_of_ble_eq_true rfl) (q_X2_survey h31 12 isT12 r46 (h31 0 11) e53) ?_
    refine e_aload_n dX8_tryHeights_56 rfl ?_
    refine e_getR dX8_tryHeights_57 rfl fl_197 rfl rfl ?_
    refine e_aload_n dX8_tryHeights_60 rfl ?_
    refine e_getR dX8_tryHeights_61 rfl fl_194 rfl rfl ?_
    refine e_aload_n dX8_tryHeights_64 rfl ?_
    refine e_getR dX8_tryHeights_65 rfl fl_192 rfl rfl ?_
    refine e_iconst dX8_tryHeights_68 ⟨by decide, by decide⟩ ?_
    refine e_iload_n dX8_tryHeights_69 rfl ?_
    refine e_ishl dX8_tryHeights_70 ?_
    refine e_iload_n dX8_tryHeights_71 rfl ?_
    obtain ⟨r72, e72, hf⟩ := bd_some hf
    refine e_callV4i dX8_tryHeights_72 rfl lk_465 ⟨rfl, rfl, Nat.le_of_ble_eq_true rfl, Nat.le_of_ble_eq_true rfl⟩ rfl rfl (Nat.le_of_ble_eq_true rfl) (q_X2_takings h53 12 isT12 (bshl 1 l1) l3 e72) ?_
    refine e_iload dX8_tryHeights_75 rfl ?_
    refine e_isub dX8_tryHeights_77 ?_
    refine e_istore (ls' := [some (vr 0), some (vi l1), some (vi l2), some (vi l3), some (vi l4), some (vi r2), some (vi r9), some (vi (wr (r72 - r2))), none]) dX8_tryHeights_78 (Nat.le_of_ble_eq_true rfl) rfl ?_
    refine e_aload_n dX8_tryHeights_80 rfl ?_
    refine e_getR dX8_tryHeights_81 rfl fl_197 rfl rfl ?_
    refine e_aload_n dX8_tryHeights_84 rfl ?_
    refine e_getR dX8_tryHeights_85 rfl fl_194 rfl rfl ?_
    refine e_aload_n dX8_tryHeights_88 rfl ?_
    refine e_getR dX8_tryHeights_89 rfl fl_192 rfl rfl ?_
    refine e_iconst dX8_tryHeights_92 ⟨by decide, by decide⟩ ?_
    refine e_iload_n dX8_tryHeights_93 rfl ?_
    refine e_ishl dX8_tryHeights_94 ?_
    refine e_iload_n dX8_tryHeights_95 rfl ?_
    obtain ⟨r96, e96, hf⟩ := bd_some hf
    refine e_callV4i dX8_tryHeights_96 rfl lk_465 ⟨rfl, rfl, Nat.le_of_ble_eq_true rfl, Nat.le_of_ble_eq_true rfl⟩ rfl rfl (Nat.le_of_ble_eq_true rfl) (q_X2_takings h53 12 isT12 (bshl 1 l2) l3 e96) ?_
    refine e_iload dX8_tryHeights_99 rfl ?_
    refine e_isub dX8_tryHeights_101 ?_
    refine e_istore (ls' := [some (vr 0), some (vi l1), some (vi l2), some (vi l3), some (vi l4), some (vi r2), some (vi r9), some (vi (wr (r72 - r2))), some (vi (wr (r96 - r9)))]) dX8_tryHeights_102 (Nat.le_of_ble_eq_true rfl) rfl ?_
    refine e_aload_n dX8_tryHeights_104 rfl ?_
    refine e_getR dX8_tryHeights_105 rfl fl_200 rfl rfl ?_
    refine e_iload dX8_tryHeights_108 rfl ?_
    refine e_iload dX8_tryHeights_110 rfl ?_
    refine e_iload dX8_tryHeights_112 rfl ?_
    obtain ⟨h114, e114, hf⟩ := bd_some hf
    refine e_callV3v dX8_tryHeights_114 rfl lk_570 ⟨rfl, rfl, Nat.le_of_ble_eq_true rfl, Nat.le_of_ble_eq_true rfl⟩ rfl rfl (Nat.le_of_ble_eq_true rfl) (q_X1_put h53   l4 (wr (r72 - r2)) (wr (r96 - r9)) e114) ?_
    obtain rfl := Option.some.inj hf
    exact e_return dX8_tryHeights_117 rfl ⟨rfl, rfl⟩
  exact Cn_of rfl (fun _ => Nat.le_of_ble_eq_true rfl) ⟨rfl, rfl⟩ (e_pad 4 key)
theorem lk_560 : VLk "StarRight" 260 m_X8_tryHeights 4 := ⟨tw_560, tw_562, twp_16, tw_1, tw_563, by decide +kernel⟩
theorem lk_574 : VLk "StarRight" 264 m_X1_pairsAtRest 0 := ⟨tw_574, tw_575, tw_576, tw_9, tw_577, by decide +kernel⟩
theorem lk_584 : VLk "StarRight" 267 m_X1_firstAtRest 0 := ⟨tw_584, tw_585, tw_586, tw_9, tw_587, by decide +kernel⟩
abbrev m_X8_rests : MI := (yX8_rests, cX8_rests, 6, some .int, { frames := 6, cells := 0, slots := 0, locals := 147 })
def p_X8_rests_88  (h : Mem)   (l4 : Int) : Option (Int × Mem) :=
  if l4 = 0 then (bd (p_X1_pairsAtRest h ) (fun r97 => some (r97, h))) else (bd (p_X1_firstAtRest h ) (fun r107 => some (r107, h)))
set_option maxRecDepth 20000 in
theorem q_X8_rests_88  (h : Mem)     (l4 : Int) {X : Int × Mem}  (hf : p_X8_rests_88  h   l4 = some X) : E m_X8_rests none (fun r h' => r = some (vi X.1) ∧ h' = X.2) 88 [some (vr 0), none, none, none, some (vi l4), none] [] h := by
  unfold p_X8_rests_88 at hf
  refine e_iload dX8_rests_88 rfl ?_
  refine e_if_ne (tgt := 103) dX8_rests_90 (by decide) (fun c90 => ?_) (fun c90 => ?_)
  · replace hf := ifn hf c90
    refine e_aload_n dX8_rests_103 rfl ?_
    refine e_getR dX8_rests_104 rfl fl_200 rfl rfl ?_
    obtain ⟨r107, e107, hf⟩ := bd_some hf
    refine e_callV0i dX8_rests_107 rfl lk_584 ⟨rfl, rfl, Nat.le_of_ble_eq_true rfl, Nat.le_of_ble_eq_true rfl⟩ rfl rfl (Nat.le_of_ble_eq_true rfl) (q_X1_firstAtRest h    e107) ?_
    obtain rfl := Option.some.inj hf
    exact e_ireturn dX8_rests_110 rfl ⟨rfl, rfl⟩
  · replace hf := ifp hf c90
    refine e_aload_n dX8_rests_93 rfl ?_
    refine e_getR dX8_rests_94 rfl fl_200 rfl rfl ?_
    obtain ⟨r97, e97, hf⟩ := bd_some hf
    refine e_callV0i dX8_rests_97 rfl lk_574 ⟨rfl, rfl, Nat.le_of_ble_eq_true rfl, Nat.le_of_ble_eq_true rfl⟩ rfl rfl (Nat.le_of_ble_eq_true rfl) (q_X1_pairsAtRest h    e97) ?_
    refine e_goto (tgt := 110) dX8_rests_100 (by decide) ?_
    obtain rfl := Option.some.inj hf
    exact e_ireturn dX8_rests_110 rfl ⟨rfl, rfl⟩
def p_X8_rests_66 (K66 : Mem → Int → Int → Int → Int → Int → Option (Int × Mem)) (h : Mem)   (l1 l2 l3 l4 l5 : Int) : Option (Int × Mem) :=
  if 100 ≤ l5 then (p_X8_rests_88  h   l4) else (bd (p_X8_tryHeights h l1 l2 l3 l5) (fun h79 => K66 h79 l1 l2 l3 l4 (wr (l5 + 1))))
set_option maxRecDepth 20000 in
theorem q_X8_rests_66 (K66 : Mem → Int → Int → Int → Int → Int → Option (Int × Mem)) (h : Mem)     (l1 l2 l3 l4 l5 : Int) {X : Int × Mem} (hK66 : ∀ (h : Mem) (l1 l2 l3 l4 l5 : Int), K66 h l1 l2 l3 l4 l5 = some X → E m_X8_rests none (fun r h' => r = some (vi X.1) ∧ h' = X.2) 66 [some (vr 0), some (vi l1), some (vi l2), some (vi l3), some (vi l4), some (vi l5)] [] h) (hf : p_X8_rests_66 K66 h   l1 l2 l3 l4 l5 = some X) : E m_X8_rests none (fun r h' => r = some (vi X.1) ∧ h' = X.2) 66 [some (vr 0), some (vi l1), some (vi l2), some (vi l3), some (vi l4), some (vi l5)] [] h := by
  unfold p_X8_rests_66 at hf
  refine e_iload dX8_rests_66 rfl ?_
  refine e_bipush dX8_rests_68 ⟨by decide, by decide, by decide⟩ ?_
  refine e_icmp_ge (tgt := 88) dX8_rests_70 (by decide) (fun c70 => ?_) (fun c70 => ?_)
  · replace hf := ifp hf c70
    exact e_mask [true, false, false, false, true, false] (q_X8_rests_88  h     l4  hf)
  · replace hf := ifn hf c70
    refine e_aload_n dX8_rests_73 rfl ?_
    refine e_iload_n dX8_rests_74 rfl ?_
    refine e_iload_n dX8_rests_75 rfl ?_
    refine e_iload_n dX8_rests_76 rfl ?_
    refine e_iload dX8_rests_77 rfl ?_
    obtain ⟨h79, e79, hf⟩ := bd_some hf
    refine e_callV4v dX8_rests_79 rfl lk_560 ⟨rfl, rfl, Nat.le_of_ble_eq_true rfl, Nat.le_of_ble_eq_true rfl⟩ rfl rfl (Nat.le_of_ble_eq_true rfl) (q_X8_tryHeights h   l1 l2 l3 l5 e79) ?_
    refine e_iinc (ls' := [some (vr 0), some (vi l1), some (vi l2), some (vi l3), some (vi l4), some (vi (wr (l5 + 1)))]) dX8_rests_82 rfl (Nat.le_of_ble_eq_true rfl) rfl ?_
    refine e_goto (tgt := 66) dX8_rests_85 (by decide) ?_
    exact e_mask [true, true, true, true, true, true] (hK66 h79 l1 l2 l3 l4 (wr (l5 + 1)) hf)
def p_X8_rests_L66     : Nat → Mem → Int → Int → Int → Int → Int → Option (Int × Mem)
  | 0, _, _, _, _, _, _ => none
  | n + 1, h, l1, l2, l3, l4, l5 => p_X8_rests_66 (fun (h : Mem) (l1 l2 l3 l4 l5 : Int) => p_X8_rests_L66     n h l1 l2 l3 l4 l5) h   l1 l2 l3 l4 l5
theorem q_X8_rests_L66       {X : Int × Mem}  : ∀ (n : Nat) (h : Mem) (l1 l2 l3 l4 l5 : Int), p_X8_rests_L66     n h l1 l2 l3 l4 l5 = some X → E m_X8_rests none (fun r h' => r = some (vi X.1) ∧ h' = X.2) 66 [some (vr 0), some (vi l1), some (vi l2), some (vi l3), some (vi l4), some (vi l5)] [] h := by
  intro n
  induction n with
  | zero => intro h l1 l2 l3 l4 l5 hf; have hf2 : (none : Option (Int × Mem)) = some X := hf; cases hf2
  | succ n ih => intro h l1 l2 l3 l4 l5 hf; exact q_X8_rests_66 (fun (h : Mem) (l1 l2 l3 l4 l5 : Int) => p_X8_rests_L66     n h l1 l2 l3 l4 l5) h     l1 l2 l3 l4 l5 (fun h l1 l2 l3 l4 l5 hf => ih h l1 l2 l3 l4 l5 hf) hf
def p_X8_rests (h : Mem)  (l1 l2 l3 l4 : Int) : Option (Int × Mem) :=
  bd (p_X6_hasRoof h 7 l1) (fun r5 => if r5 = 0 then (some ((-1), h)) else (bd (p_X6_hasRoof h 7 l2) (fun r16 => if r16 = 0 then (some ((-1), h)) else (if l1 = l2 then (some ((-2), h)) else (bd (p_X8_isSpan h l3 10) (fun r32 => if r32 = 0 then (some ((-2), h)) else (if l4 < 0 then (some ((-2), h)) else (if l4 ≤ 1 then (bd (p_X6_copyOf h 12 7) (fun h60 => p_X8_rests_L66     300 h60 l1 l2 l3 l4 0)) else (some ((-2), h))))))))))
set_option maxRecDepth 20000 in
theorem q_X8_rests (h : Mem)   (l1 l2 l3 l4 : Int) {X : Int × Mem} (hf : p_X8_rests h  l1 l2 l3 l4 = some X) : Cn m_X8_rests [vr 0, vi l1, vi l2, vi l3, vi l4] h (fun r h' => r = some (vi X.1) ∧ h' = X.2) := by
  unfold p_X8_rests at hf
  have key : E m_X8_rests none (fun r h' => r = some (vi X.1) ∧ h' = X.2) 0 [some (vr 0), some (vi l1), some (vi l2), some (vi l3), some (vi l4), none] [] h := by
    refine e_aload_n dX8_rests_0 rfl ?_
    refine e_getR dX8_rests_1 rfl fl_193 rfl rfl ?_
    refine e_iload_n dX8_rests_4 rfl ?_
    obtain ⟨r5, e5, hf⟩ := bd_some hf
    refine e_callV1i dX8_rests_5 rfl lk_343 ⟨rfl, rfl, Nat.le_of_ble_eq_true rfl, Nat.le_of_ble_eq_true rfl⟩ rfl rfl (Nat.le_of_ble_eq_true rfl) (q_X6_hasRoof h 7 isT7 l1 e5) ?_
    refine e_if_eq (tgt := 22) dX8_rests_8 (by decide) (fun c8 => ?_) (fun c8 => ?_)
    · replace hf := ifp hf c8
      refine e_iconst dX8_rests_22 ⟨by decide, by decide⟩ ?_
      obtain rfl := Option.some.inj hf
      exact e_ireturn dX8_rests_23 rfl ⟨rfl, rfl⟩
    · replace hf := ifn hf c8
      refine e_aload_n dX8_rests_11 rfl ?_
      refine e_getR dX8_rests_12 rfl fl_193 rfl rfl ?_
      refine e_iload_n dX8_rests_15 rfl ?_
      obtain ⟨r16, e16, hf⟩ := bd_some hf
      refine e_callV1i dX8_rests_16 rfl lk_343 ⟨rfl, rfl, Nat.le_of_ble_eq_true rfl, Nat.le_of_ble_eq_true rfl⟩ rfl rfl (Nat.le_of_ble_eq_true rfl) (q_X6_hasRoof h 7 isT7 l2 e16) ?_
      refine e_if_ne (tgt := 24) dX8_rests_19 (by decide) (fun c19 => ?_) (fun c19 => ?_)
      · replace hf := ifn hf c19
        refine e_iload_n dX8_rests_24 rfl ?_
        refine e_iload_n dX8_rests_25 rfl ?_
        refine e_icmp_eq (tgt := 49) dX8_rests_26 (by decide) (fun c26 => ?_) (fun c26 => ?_)
        · replace hf := ifp hf c26
          refine e_bipush dX8_rests_49 ⟨by decide, by decide, by decide⟩ ?_
          obtain rfl := Option.some.inj hf
          exact e_ireturn dX8_rests_51 rfl ⟨rfl, rfl⟩
        · replace hf := ifn hf c26
          refine e_iload_n dX8_rests_29 rfl ?_
          refine e_bipush dX8_rests_30 ⟨by decide, by decide, by decide⟩ ?_
          obtain ⟨r32, e32, hf⟩ := bd_some hf
          refine e_callS2i dX8_rests_32 rfl lk_489 ⟨rfl, rfl, Nat.le_of_ble_eq_true rfl, Nat.le_of_ble_eq_true rfl⟩ (Nat.le_of_ble_eq_true rfl) (q_X8_isSpan h   l3 10 e32) ?_
          refine e_if_eq (tgt := 49) dX8_rests_35 (by decide) (fun c35 => ?_) (fun c35 => ?_)
          · replace hf := ifp hf c35
            refine e_bipush dX8_rests_49 ⟨by decide, by decide, by decide⟩ ?_
            obtain rfl := Option.some.inj hf
            exact e_ireturn dX8_rests_51 rfl ⟨rfl, rfl⟩
          · replace hf := ifn hf c35
            refine e_iload dX8_rests_38 rfl ?_
            refine e_if_lt (tgt := 49) dX8_rests_40 (by decide) (fun c40 => ?_) (fun c40 => ?_)
            · replace hf := ifp hf c40
              refine e_bipush dX8_rests_49 ⟨by decide, by decide, by decide⟩ ?_
              obtain rfl := Option.some.inj hf
              exact e_ireturn dX8_rests_51 rfl ⟨rfl, rfl⟩
            · replace hf := ifn hf c40
              refine e_iload dX8_rests_43 rfl ?_
              refine e_iconst dX8_rests_45 ⟨by decide, by decide⟩ ?_
              refine e_icmp_le (tgt := 52) dX8_rests_46 (by decide) (fun c46 => ?_) (fun c46 => ?_)
              · replace hf := ifp hf c46
                refine e_aload_n dX8_rests_52 rfl ?_
                refine e_getR dX8_rests_53 rfl fl_194 rfl rfl ?_
                refine e_aload_n dX8_rests_56 rfl ?_
                refine e_getR dX8_rests_57 rfl fl_193 rfl rfl ?_
                obtain ⟨h60, e60, hf⟩ := bd_some hf
                refine e_callV1v dX8_rests_60 rfl lk_511 ⟨rfl, rfl, Nat.le_of_ble_eq_true rfl, Nat.le_of_ble_eq_true rfl⟩ rfl rfl (Nat.le_of_ble_eq_true rfl) (q_X6_copyOf h 12 7 isT12 isT7  e60) ?_
                refine e_iconst dX8_rests_63 ⟨by decide, by decide⟩ ?_
                refine e_istore (ls' := [some (vr 0), some (vi l1), some (vi l2), some (vi l3), some (vi l4), some (vi 0)]) dX8_rests_64 (Nat.le_of_ble_eq_true rfl) rfl ?_
                exact e_mask [true, true, true, true, true, true] (q_X8_rests_L66        300 h60 l1 l2 l3 l4 0 hf)
              · replace hf := ifn hf c46
                refine e_bipush dX8_rests_49 ⟨by decide, by decide, by decide⟩ ?_
                obtain rfl := Option.some.inj hf
                exact e_ireturn dX8_rests_51 rfl ⟨rfl, rfl⟩
      · replace hf := ifp hf c19
        refine e_iconst dX8_rests_22 ⟨by decide, by decide⟩ ?_
        obtain rfl := Option.some.inj hf
        exact e_ireturn dX8_rests_23 rfl ⟨rfl, rfl⟩
  exact Cn_of rfl (fun _ => Nat.le_of_ble_eq_true rfl) ⟨rfl, rfl⟩ (e_pad 1 key)
theorem lk_592 : VLk "StarRight" 279 m_X7_isFull 0 := ⟨tw_592, tw_593, tw_594, tw_8, tw_595, by decide +kernel⟩
theorem lk_596 : VLk "StarRight" 280 m_X7_add 3 := ⟨tw_596, tw_597, tw_598, tw_8, tw_599, by decide +kernel⟩
abbrev m_X8_shine : MI := (yX8_shine, cX8_shine, 4, some .int, { frames := 2, cells := 0, slots := 0, locals := 43 })
def p_X8_shine (h : Mem)  (l1 l2 l3 : Int) : Option (Int × Mem) :=
  if l1 < 0 then (some ((-2), h)) else (if 10 ≤ l1 then (some ((-2), h)) else (if l2 < 0 then (some ((-2), h)) else (if l2 < 10 then (bd (p_X7_isFull h ) (fun r27 => if r27 = 0 then (bd (p_X7_add h l1 l2 l3) (fun q43 => some (q43.1, q43.2))) else (some ((-4), h)))) else (some ((-2), h)))))
set_option maxRecDepth 20000 in
theorem q_X8_shine (h : Mem)   (l1 l2 l3 : Int) {X : Int × Mem} (hf : p_X8_shine h  l1 l2 l3 = some X) : Cn m_X8_shine [vr 0, vi l1, vi l2, vi l3] h (fun r h' => r = some (vi X.1) ∧ h' = X.2) := by
  unfold p_X8_shine at hf
  have key : E m_X8_shine none (fun r h' => r = some (vi X.1) ∧ h' = X.2) 0 [some (vr 0), some (vi l1), some (vi l2), some (vi l3)] [] h := by
    refine e_iload_n dX8_shine_0 rfl ?_
    refine e_if_lt (tgt := 20) dX8_shine_1 (by decide) (fun c1 => ?_) (fun c1 => ?_)
    · replace hf := ifp hf c1
      refine e_bipush dX8_shine_20 ⟨by decide, by decide, by decide⟩ ?_
      obtain rfl := Option.some.inj hf
      exact e_ireturn dX8_shine_22 rfl ⟨rfl, rfl⟩
    · replace hf := ifn hf c1
      refine e_iload_n dX8_shine_4 rfl ?_
      refine e_bipush dX8_shine_5 ⟨by decide, by decide, by decide⟩ ?_
      refine e_icmp_ge (tgt := 20) dX8_shine_7 (by decide) (fun c7 => ?_) (fun c7 => ?_)
      · replace hf := ifp hf c7
        refine e_bipush dX8_shine_20 ⟨by decide, by decide, by decide⟩ ?_
        obtain rfl := Option.some.inj hf
        exact e_ireturn dX8_shine_22 rfl ⟨rfl, rfl⟩
      · replace hf := ifn hf c7
        refine e_iload_n dX8_shine_10 rfl ?_
        refine e_if_lt (tgt := 20) dX8_shine_11 (by decide) (fun c11 => ?_) (fun c11 => ?_)
        · replace hf := ifp hf c11
          refine e_bipush dX8_shine_20 ⟨by decide, by decide, by decide⟩ ?_
          obtain rfl := Option.some.inj hf
          exact e_ireturn dX8_shine_22 rfl ⟨rfl, rfl⟩
        · replace hf := ifn hf c11
          refine e_iload_n dX8_shine_14 rfl ?_
          refine e_bipush dX8_shine_15 ⟨by decide, by decide, by decide⟩ ?_
          refine e_icmp_lt (tgt := 23) dX8_shine_17 (by decide) (fun c17 => ?_) (fun c17 => ?_)
          · replace hf := ifp hf c17
            refine e_aload_n dX8_shine_23 rfl ?_
            refine e_getR dX8_shine_24 rfl fl_199 rfl rfl ?_
            obtain ⟨r27, e27, hf⟩ := bd_some hf
            refine e_callV0i dX8_shine_27 rfl lk_592 ⟨rfl, rfl, Nat.le_of_ble_eq_true rfl, Nat.le_of_ble_eq_true rfl⟩ rfl rfl (Nat.le_of_ble_eq_true rfl) (q_X7_isFull h    e27) ?_
            refine e_if_eq (tgt := 36) dX8_shine_30 (by decide) (fun c30 => ?_) (fun c30 => ?_)
            · replace hf := ifp hf c30
              refine e_aload_n dX8_shine_36 rfl ?_
              refine e_getR dX8_shine_37 rfl fl_199 rfl rfl ?_
              refine e_iload_n dX8_shine_40 rfl ?_
              refine e_iload_n dX8_shine_41 rfl ?_
              refine e_iload_n dX8_shine_42 rfl ?_
              obtain ⟨q43, e43, hf⟩ := bd_some hf
              refine e_callV3i dX8_shine_43 rfl lk_596 ⟨rfl, rfl, Nat.le_of_ble_eq_true rfl, Nat.le_of_ble_eq_true rfl⟩ rfl rfl (Nat.le_of_ble_eq_true rfl) (q_X7_add h   l1 l2 l3 e43) ?_
              obtain rfl := Option.some.inj hf
              exact e_ireturn dX8_shine_46 rfl ⟨rfl, rfl⟩
            · replace hf := ifn hf c30
              refine e_bipush dX8_shine_33 ⟨by decide, by decide, by decide⟩ ?_
              obtain rfl := Option.some.inj hf
              exact e_ireturn dX8_shine_35 rfl ⟨rfl, rfl⟩
          · replace hf := ifn hf c17
            refine e_bipush dX8_shine_20 ⟨by decide, by decide, by decide⟩ ?_
            obtain rfl := Option.some.inj hf
            exact e_ireturn dX8_shine_22 rfl ⟨rfl, rfl⟩
  exact Cn_of rfl (fun _ => Nat.le_of_ble_eq_true rfl) ⟨rfl, rfl⟩ (e_pad 0 key)
theorem lk_605 : VLk "StarRight" 282 m_X7_clear 0 := ⟨tw_605, tw_606, tw_607, tw_8, tw_608, by decide +kernel⟩
abbrev m_X8_unshine : MI := (yX8_unshine, cX8_unshine, 1, some .int, { frames := 1, cells := 0, slots := 0, locals := 21 })
def p_X8_unshine (h : Mem)   : Option (Int × Mem) :=
  bd (p_X7_clear h ) (fun q4 => some (q4.1, q4.2))
set_option maxRecDepth 20000 in
theorem q_X8_unshine (h : Mem)    {X : Int × Mem} (hf : p_X8_unshine h   = some X) : Cn m_X8_unshine [vr 0] h (fun r h' => r = some (vi X.1) ∧ h' = X.2) := by
  unfold p_X8_unshine at hf
  have key : E m_X8_unshine none (fun r h' => r = some (vi X.1) ∧ h' = X.2) 0 [some (vr 0)] [] h := by
    refine e_aload_n dX8_unshine_0 rfl ?_
    refine e_getR dX8_unshine_1 rfl fl_199 rfl rfl ?_
    obtain ⟨q4, e4, hf⟩ := bd_some hf
    refine e_callV0i dX8_unshine_4 rfl lk_605 ⟨rfl, rfl, Nat.le_of_ble_eq_true rfl, Nat.le_of_ble_eq_true rfl⟩ rfl rfl (Nat.le_of_ble_eq_true rfl) (q_X7_clear h    e4) ?_
    obtain rfl := Option.some.inj hf
    exact e_ireturn dX8_unshine_7 rfl ⟨rfl, rfl⟩
  exact Cn_of rfl (fun _ => Nat.le_of_ble_eq_true rfl) ⟨rfl, rfl⟩ (e_pad 0 key)
theorem lk_613 : VLk "StarRight" 283 m_X7_fittingStars 0 := ⟨tw_613, tw_614, tw_615, tw_8, tw_616, by decide +kernel⟩
theorem lk_625 : SLk "StarRight" 287 m_J13_bitCount_95d88 1 := ⟨tw_625, tw_626, tw_14, tw_627, by decide +kernel⟩
theorem lk_631 : SLk "StarRight" 292 m_X7_firstOf 1 := ⟨tw_631, tw_632, tw_8, tw_633, by decide +kernel⟩
abbrev m_X8_found : MI := (yX8_found, cX8_found, 4, some .int, { frames := 4, cells := 0, slots := 0, locals := 89 })
def p_X8_found (h : Mem)  (l1 : Int) : Option (Int) :=
  if l1 < 0 then (some (-2)) else (if l1 ≤ 1 then (bd (p_X7_fittingStars h ) (fun r16 => if l1 = 0 then (bd (p_J13_bitCount_95d88 h r16) (fun r25 => some r25)) else (bd (p_X7_firstOf h r16) (fun r32 => some r32)))) else (some (-2)))
set_option maxRecDepth 20000 in
theorem q_X8_found (h : Mem)   (l1 : Int) {X : Int} (hf : p_X8_found h  l1 = some X) : Cn m_X8_found [vr 0, vi l1] h (fun r h' => r = some (vi X) ∧ h' = h) := by
  unfold p_X8_found at hf
  have key : E m_X8_found none (fun r h' => r = some (vi X) ∧ h' = h) 0 [some (vr 0), some (vi l1), none, none] [] h := by
    refine e_iload_n dX8_found_0 rfl ?_
    refine e_if_lt (tgt := 9) dX8_found_1 (by decide) (fun c1 => ?_) (fun c1 => ?_)
    · replace hf := ifp hf c1
      refine e_bipush dX8_found_9 ⟨by decide, by decide, by decide⟩ ?_
      obtain rfl := Option.some.inj hf
      exact e_ireturn dX8_found_11 rfl ⟨rfl, rfl⟩
    · replace hf := ifn hf c1
      refine e_iload_n dX8_found_4 rfl ?_
      refine e_iconst dX8_found_5 ⟨by decide, by decide⟩ ?_
      refine e_icmp_le (tgt := 12) dX8_found_6 (by decide) (fun c6 => ?_) (fun c6 => ?_)
      · replace hf := ifp hf c6
        refine e_aload_n dX8_found_12 rfl ?_
        refine e_getR dX8_found_13 rfl fl_199 rfl rfl ?_
        obtain ⟨r16, e16, hf⟩ := bd_some hf
        refine e_callV0l dX8_found_16 rfl lk_613 ⟨rfl, rfl, Nat.le_of_ble_eq_true rfl, Nat.le_of_ble_eq_true rfl⟩ rfl rfl (Nat.le_of_ble_eq_true rfl) (q_X7_fittingStars h    e16) ?_
        refine e_lstore_n (ls' := [some (vr 0), some (vi l1), some (vl r16), none]) dX8_found_19 (Nat.le_of_ble_eq_true rfl) rfl ?_
        refine e_iload_n dX8_found_20 rfl ?_
        refine e_if_ne (tgt := 31) dX8_found_21 (by decide) (fun c21 => ?_) (fun c21 => ?_)
        · replace hf := ifn hf c21
          refine e_lload_n dX8_found_31 rfl ?_
          obtain ⟨r32, e32, hf⟩ := bd_some hf
          refine e_callS1i dX8_found_32 rfl lk_631 ⟨rfl, rfl, Nat.le_of_ble_eq_true rfl, Nat.le_of_ble_eq_true rfl⟩ (Nat.le_of_ble_eq_true rfl) (q_X7_firstOf h   r16 e32) ?_
          obtain rfl := Option.some.inj hf
          exact e_ireturn dX8_found_35 rfl ⟨rfl, rfl⟩
        · replace hf := ifp hf c21
          refine e_lload_n dX8_found_24 rfl ?_
          obtain ⟨r25, e25, hf⟩ := bd_some hf
          refine e_callS1i dX8_found_25 rfl lk_625 ⟨rfl, rfl, Nat.le_of_ble_eq_true rfl, Nat.le_of_ble_eq_true rfl⟩ (Nat.le_of_ble_eq_true rfl) (q_J13_bitCount_95d88 h   r16 e25) ?_
          refine e_goto (tgt := 35) dX8_found_28 (by decide) ?_
          obtain rfl := Option.some.inj hf
          exact e_ireturn dX8_found_35 rfl ⟨rfl, rfl⟩
      · replace hf := ifn hf c6
        refine e_bipush dX8_found_9 ⟨by decide, by decide, by decide⟩ ?_
        obtain rfl := Option.some.inj hf
        exact e_ireturn dX8_found_11 rfl ⟨rfl, rfl⟩
  exact Cn_of rfl (fun _ => Nat.le_of_ble_eq_true rfl) ⟨rfl, rfl⟩ (e_pad 2 key)
theorem lk_638 : VLk "StarRight" 295 m_X7_bestLook 0 := ⟨tw_638, tw_639, tw_640, tw_8, tw_641, by decide +kernel⟩
abbrev m_X8_look : MI := (yX8_look, cX8_look, 1, some .int, { frames := 5, cells := 0, slots := 0, locals := 115 })
def p_X8_look (h : Mem)   : Option (Int) :=
  bd (p_X7_bestLook h ) (fun r4 => some r4)
set_option maxRecDepth 20000 in
theorem q_X8_look (h : Mem)    {X : Int} (hf : p_X8_look h   = some X) : Cn m_X8_look [vr 0] h (fun r h' => r = some (vi X) ∧ h' = h) := by
  unfold p_X8_look at hf
  have key : E m_X8_look none (fun r h' => r = some (vi X) ∧ h' = h) 0 [some (vr 0)] [] h := by
    refine e_aload_n dX8_look_0 rfl ?_
    refine e_getR dX8_look_1 rfl fl_199 rfl rfl ?_
    obtain ⟨r4, e4, hf⟩ := bd_some hf
    refine e_callV0i dX8_look_4 rfl lk_638 ⟨rfl, rfl, Nat.le_of_ble_eq_true rfl, Nat.le_of_ble_eq_true rfl⟩ rfl rfl (Nat.le_of_ble_eq_true rfl) (q_X7_bestLook h    e4) ?_
    obtain rfl := Option.some.inj hf
    exact e_ireturn dX8_look_7 rfl ⟨rfl, rfl⟩
  exact Cn_of rfl (fun _ => Nat.le_of_ble_eq_true rfl) ⟨rfl, rfl⟩ (e_pad 0 key)
abbrev m_X8_chance : MI := (yX8_chance, cX8_chance, 8, some .int, { frames := 6, cells := 0, slots := 0, locals := 139 })
def p_X8_chance_98  (h : Mem)   (l4 l5 l6 : Int) : Option (Int × Mem) :=
  bd (p_X8_fraction h (wr (l5 - l6)) l5 l4) (fun r107 => some (r107, h))
set_option maxRecDepth 20000 in
theorem q_X8_chance_98  (h : Mem)     (l4 l5 l6 : Int) {X : Int × Mem}  (hf : p_X8_chance_98  h   l4 l5 l6 = some X) : E m_X8_chance none (fun r h' => r = some (vi X.1) ∧ h' = X.2) 98 [some (vr 0), none, none, none, some (vi l4), some (vi l5), some (vi l6), none] [] h := by
  unfold p_X8_chance_98 at hf
  refine e_iload dX8_chance_98 rfl ?_
  refine e_iload dX8_chance_100 rfl ?_
  refine e_isub dX8_chance_102 ?_
  refine e_iload dX8_chance_103 rfl ?_
  refine e_iload dX8_chance_105 rfl ?_
  obtain ⟨r107, e107, hf⟩ := bd_some hf
  refine e_callS3i dX8_chance_107 rfl lk_533 ⟨rfl, rfl, Nat.le_of_ble_eq_true rfl, Nat.le_of_ble_eq_true rfl⟩ (Nat.le_of_ble_eq_true rfl) (q_X8_fraction h   (wr (l5 - l6)) l5 l4 e107) ?_
  obtain rfl := Option.some.inj hf
  exact e_ireturn dX8_chance_110 rfl ⟨rfl, rfl⟩
def p_X8_chance_92 (K48 : Mem → Int → Int → Int → Int → Int → Int → Int → Option (Int × Mem)) (h : Mem)   (l1 l2 l3 l4 l5 l6 l7 : Int) : Option (Int × Mem) :=
  K48 h l1 l2 l3 l4 l5 l6 (wr (l7 + 1))
set_option maxRecDepth 20000 in
theorem q_X8_chance_92 (K48 : Mem → Int → Int → Int → Int → Int → Int → Int → Option (Int × Mem)) (h : Mem)     (l1 l2 l3 l4 l5 l6 l7 : Int) {X : Int × Mem} (hK48 : ∀ (h : Mem) (l1 l2 l3 l4 l5 l6 l7 : Int), K48 h l1 l2 l3 l4 l5 l6 l7 = some X → E m_X8_chance none (fun r h' => r = some (vi X.1) ∧ h' = X.2) 48 [some (vr 0), some (vi l1), some (vi l2), some (vi l3), some (vi l4), some (vi l5), some (vi l6), some (vi l7)] [] h) (hf : p_X8_chance_92 K48 h   l1 l2 l3 l4 l5 l6 l7 = some X) : E m_X8_chance none (fun r h' => r = some (vi X.1) ∧ h' = X.2) 92 [some (vr 0), some (vi l1), some (vi l2), some (vi l3), some (vi l4), some (vi l5), some (vi l6), some (vi l7)] [] h := by
  unfold p_X8_chance_92 at hf
  refine e_iinc (ls' := [some (vr 0), some (vi l1), some (vi l2), some (vi l3), some (vi l4), some (vi l5), some (vi l6), some (vi (wr (l7 + 1)))]) dX8_chance_92 rfl (Nat.le_of_ble_eq_true rfl) rfl ?_
  refine e_goto (tgt := 48) dX8_chance_95 (by decide) ?_
  exact e_mask [true, true, true, true, true, true, true, true] (hK48 h l1 l2 l3 l4 l5 l6 (wr (l7 + 1)) hf)
def p_X8_chance_48 (K48 : Mem → Int → Int → Int → Int → Int → Int → Int → Option (Int × Mem)) (h : Mem)   (l1 l2 l3 l4 l5 l6 l7 : Int) : Option (Int × Mem) :=
  if l2 ≤ l7 then (p_X8_chance_98  h   l4 l5 l6) else (bd (p_X2_payOf h l1 (wr ((h 7 6) + l7))) (fun r73 => if r73 ≤ 0 then (p_X8_chance_92 K48 h   l1 l2 l3 l4 l5 l6 l7) else (p_X8_chance_92 K48 h   l1 l2 l3 l4 (wr (l5 * 10)) (wr (l6 * l3)) l7)))
set_option maxRecDepth 20000 in
theorem q_X8_chance_48 (K48 : Mem → Int → Int → Int → Int → Int → Int → Int → Option (Int × Mem)) (h : Mem)     (l1 l2 l3 l4 l5 l6 l7 : Int) {X : Int × Mem} (hK48 : ∀ (h : Mem) (l1 l2 l3 l4 l5 l6 l7 : Int), K48 h l1 l2 l3 l4 l5 l6 l7 = some X → E m_X8_chance none (fun r h' => r = some (vi X.1) ∧ h' = X.2) 48 [some (vr 0), some (vi l1), some (vi l2), some (vi l3), some (vi l4), some (vi l5), some (vi l6), some (vi l7)] [] h) (hf : p_X8_chance_48 K48 h   l1 l2 l3 l4 l5 l6 l7 = some X) : E m_X8_chance none (fun r h' => r = some (vi X.1) ∧ h' = X.2) 48 [some (vr 0), some (vi l1), some (vi l2), some (vi l3), some (vi l4), some (vi l5), some (vi l6), some (vi l7)] [] h := by
  unfold p_X8_chance_48 at hf
  refine e_iload dX8_chance_48 rfl ?_
  refine e_iload_n dX8_chance_50 rfl ?_
  refine e_icmp_ge (tgt := 98) dX8_chance_51 (by decide) (fun c51 => ?_) (fun c51 => ?_)
  · replace hf := ifp hf c51
    exact e_mask [true, false, false, false, true, true, true, false] (q_X8_chance_98  h     l4 l5 l6  hf)
  · replace hf := ifn hf c51
    refine e_aload_n dX8_chance_54 rfl ?_
    refine e_getR dX8_chance_55 rfl fl_197 rfl rfl ?_
    refine e_aload_n dX8_chance_58 rfl ?_
    refine e_getR dX8_chance_59 rfl fl_192 rfl rfl ?_
    refine e_iload_n dX8_chance_62 rfl ?_
    refine e_aload_n dX8_chance_63 rfl ?_
    refine e_getR dX8_chance_64 rfl fl_193 rfl rfl ?_
    refine e_getI (kz := 6) rfl dX8_chance_67 rfl fl_80 rfl rfl (Or.inl rfl) ?_
    refine e_iload dX8_chance_70 rfl ?_
    refine e_iadd dX8_chance_72 ?_
    obtain ⟨r73, e73, hf⟩ := bd_some hf
    refine e_callV3i dX8_chance_73 rfl lk_394 ⟨rfl, rfl, Nat.le_of_ble_eq_true rfl, Nat.le_of_ble_eq_true rfl⟩ rfl rfl (Nat.le_of_ble_eq_true rfl) (q_X2_payOf h   l1 (wr ((h 7 6) + l7)) e73) ?_
    refine e_if_le (tgt := 92) dX8_chance_76 (by decide) (fun c76 => ?_) (fun c76 => ?_)
    · replace hf := ifp hf c76
      exact e_mask [true, true, true, true, true, true, true, true] (q_X8_chance_92 K48 h     l1 l2 l3 l4 l5 l6 l7 hK48 hf)
    · replace hf := ifn hf c76
      refine e_iload dX8_chance_79 rfl ?_
      refine e_bipush dX8_chance_81 ⟨by decide, by decide, by decide⟩ ?_
      refine e_imul dX8_chance_83 ?_
      refine e_istore (ls' := [some (vr 0), some (vi l1), some (vi l2), some (vi l3), some (vi l4), some (vi (wr (l5 * 10))), some (vi l6), some (vi l7)]) dX8_chance_84 (Nat.le_of_ble_eq_true rfl) rfl ?_
      refine e_iload dX8_chance_86 rfl ?_
      refine e_iload_n dX8_chance_88 rfl ?_
      refine e_imul dX8_chance_89 ?_
      refine e_istore (ls' := [some (vr 0), some (vi l1), some (vi l2), some (vi l3), some (vi l4), some (vi (wr (l5 * 10))), some (vi (wr (l6 * l3))), some (vi l7)]) dX8_chance_90 (Nat.le_of_ble_eq_true rfl) rfl ?_
      exact e_mask [true, true, true, true, true, true, true, true] (q_X8_chance_92 K48 h     l1 l2 l3 l4 (wr (l5 * 10)) (wr (l6 * l3)) l7 hK48 hf)
def p_X8_chance_L48     : Nat → Mem → Int → Int → Int → Int → Int → Int → Int → Option (Int × Mem)
  | 0, _, _, _, _, _, _, _, _ => none
  | n + 1, h, l1, l2, l3, l4, l5, l6, l7 => p_X8_chance_48 (fun (h : Mem) (l1 l2 l3 l4 l5 l6 l7 : Int) => p_X8_chance_L48     n h l1 l2 l3 l4 l5 l6 l7) h   l1 l2 l3 l4 l5 l6 l7
theorem q_X8_chance_L48       {X : Int × Mem}  : ∀ (n : Nat) (h : Mem) (l1 l2 l3 l4 l5 l6 l7 : Int), p_X8_chance_L48     n h l1 l2 l3 l4 l5 l6 l7 = some X → E m_X8_chance none (fun r h' => r = some (vi X.1) ∧ h' = X.2) 48 [some (vr 0), some (vi l1), some (vi l2), some (vi l3), some (vi l4), some (vi l5), some (vi l6), some (vi l7)] [] h := by
  intro n
  induction n with
  | zero => intro h l1 l2 l3 l4 l5 l6 l7 hf; have hf2 : (none : Option (Int × Mem)) = some X := hf; cases hf2
  | succ n ih => intro h l1 l2 l3 l4 l5 l6 l7 hf; exact q_X8_chance_48 (fun (h : Mem) (l1 l2 l3 l4 l5 l6 l7 : Int) => p_X8_chance_L48     n h l1 l2 l3 l4 l5 l6 l7) h     l1 l2 l3 l4 l5 l6 l7 (fun h l1 l2 l3 l4 l5 l6 l7 hf => ih h l1 l2 l3 l4 l5 l6 l7 hf) hf
def p_X8_chance (h : Mem)  (l1 l2 l3 l4 : Int) : Option (Int × Mem) :=
  bd (p_X4_hasStar h l1) (fun r5 => if r5 = 0 then (some ((-1), h)) else (bd (p_X8_isSpan h l2 6) (fun r16 => if r16 = 0 then (some ((-2), h)) else (if l3 < 0 then (some ((-2), h)) else (if l3 ≤ 10 then (bd (p_X8_surveyTown h ) (fun h36 => p_X8_chance_L48     300 h36 l1 l2 l3 l4 1 1 0)) else (some ((-2), h)))))))
set_option maxRecDepth 20000 in
theorem q_X8_chance (h : Mem)   (l1 l2 l3 l4 : Int) {X : Int × Mem} (hf : p_X8_chance h  l1 l2 l3 l4 = some X) : Cn m_X8_chance [vr 0, vi l1, vi l2, vi l3, vi l4] h (fun r h' => r = some (vi X.1) ∧ h' = X.2) := by
  unfold p_X8_chance at hf
  have key : E m_X8_chance none (fun r h' => r = some (vi X.1) ∧ h' = X.2) 0 [some (vr 0), some (vi l1), some (vi l2), some (vi l3), some (vi l4), none, none, none] [] h := by
    refine e_aload_n dX8_chance_0 rfl ?_
    refine e_getR dX8_chance_1 rfl fl_192 rfl rfl ?_
    refine e_iload_n dX8_chance_4 rfl ?_
    obtain ⟨r5, e5, hf⟩ := bd_some hf
    refine e_callV1i dX8_chance_5 rfl lk_393 ⟨rfl, rfl, Nat.le_of_ble_eq_true rfl, Nat.le_of_ble_eq_true rfl⟩ rfl rfl (Nat.le_of_ble_eq_true rfl) (q_X4_hasStar h   l1 e5) ?_
    refine e_if_ne (tgt := 13) dX8_chance_8 (by decide) (fun c8 => ?_) (fun c8 => ?_)
    · replace hf := ifn hf c8
      refine e_iload_n dX8_chance_13 rfl ?_
      refine e_bipush dX8_chance_14 ⟨by decide, by decide, by decide⟩ ?_
      obtain ⟨r16, e16, hf⟩ := bd_some hf
      refine e_callS2i dX8_chance_16 rfl lk_489 ⟨rfl, rfl, Nat.le_of_ble_eq_true rfl, Nat.le_of_ble_eq_true rfl⟩ (Nat.le_of_ble_eq_true rfl) (q_X8_isSpan h   l2 6 e16) ?_
      refine e_if_eq (tgt := 32) dX8_chance_19 (by decide) (fun c19 => ?_) (fun c19 => ?_)
      · replace hf := ifp hf c19
        refine e_bipush dX8_chance_32 ⟨by decide, by decide, by decide⟩ ?_
        obtain rfl := Option.some.inj hf
        exact e_ireturn dX8_chance_34 rfl ⟨rfl, rfl⟩
      · replace hf := ifn hf c19
        refine e_iload_n dX8_chance_22 rfl ?_
        refine e_if_lt (tgt := 32) dX8_chance_23 (by decide) (fun c23 => ?_) (fun c23 => ?_)
        · replace hf := ifp hf c23
          refine e_bipush dX8_chance_32 ⟨by decide, by decide, by decide⟩ ?_
          obtain rfl := Option.some.inj hf
          exact e_ireturn dX8_chance_34 rfl ⟨rfl, rfl⟩
        · replace hf := ifn hf c23
          refine e_iload_n dX8_chance_26 rfl ?_
          refine e_bipush dX8_chance_27 ⟨by decide, by decide, by decide⟩ ?_
          refine e_icmp_le (tgt := 35) dX8_chance_29 (by decide) (fun c29 => ?_) (fun c29 => ?_)
          · replace hf := ifp hf c29
            refine e_aload_n dX8_chance_35 rfl ?_
            obtain ⟨h36, e36, hf⟩ := bd_some hf
            refine e_callV0v dX8_chance_36 rfl lk_349 ⟨rfl, rfl, Nat.le_of_ble_eq_true rfl, Nat.le_of_ble_eq_true rfl⟩ rfl rfl (Nat.le_of_ble_eq_true rfl) (q_X8_surveyTown h    e36) ?_
            refine e_iconst dX8_chance_39 ⟨by decide, by decide⟩ ?_
            refine e_istore (ls' := [some (vr 0), some (vi l1), some (vi l2), some (vi l3), some (vi l4), some (vi 1), none, none]) dX8_chance_40 (Nat.le_of_ble_eq_true rfl) rfl ?_
            refine e_iconst dX8_chance_42 ⟨by decide, by decide⟩ ?_
            refine e_istore (ls' := [some (vr 0), some (vi l1), some (vi l2), some (vi l3), some (vi l4), some (vi 1), some (vi 1), none]) dX8_chance_43 (Nat.le_of_ble_eq_true rfl) rfl ?_
            refine e_iconst dX8_chance_45 ⟨by decide, by decide⟩ ?_
            refine e_istore (ls' := [some (vr 0), some (vi l1), some (vi l2), some (vi l3), some (vi l4), some (vi 1), some (vi 1), some (vi 0)]) dX8_chance_46 (Nat.le_of_ble_eq_true rfl) rfl ?_
            exact e_mask [true, true, true, true, true, true, true, true] (q_X8_chance_L48        300 h36 l1 l2 l3 l4 1 1 0 hf)
          · replace hf := ifn hf c29
            refine e_bipush dX8_chance_32 ⟨by decide, by decide, by decide⟩ ?_
            obtain rfl := Option.some.inj hf
            exact e_ireturn dX8_chance_34 rfl ⟨rfl, rfl⟩
    · replace hf := ifp hf c8
      refine e_iconst dX8_chance_11 ⟨by decide, by decide⟩ ?_
      obtain rfl := Option.some.inj hf
      exact e_ireturn dX8_chance_12 rfl ⟨rfl, rfl⟩
  exact Cn_of rfl (fun _ => Nat.le_of_ble_eq_true rfl) ⟨rfl, rfl⟩ (e_pad 3 key)
abbrev m_X8_seed : MI := (yX8_seed, cX8_seed, 5, some .long, { frames := 0, cells := 0, slots := 0, locals := 0 })
def p_X8_seed (h : Mem)  (l1 : Int) : Option (Int × Mem) :=
  some (h 0 12, (up h 0 12 l1))
set_option maxRecDepth 20000 in
theorem q_X8_seed (h : Mem)   (l1 : Int) {X : Int × Mem} (hf : p_X8_seed h  l1 = some X) : Cn m_X8_seed [vr 0, vl l1] h (fun r h' => r = some (vl X.1) ∧ h' = X.2) := by
  unfold p_X8_seed at hf
  have key : E m_X8_seed none (fun r h' => r = some (vl X.1) ∧ h' = X.2) 0 [some (vr 0), some (vl l1), none, none, none] [] h := by
    refine e_aload_n dX8_seed_0 rfl ?_
    refine e_getL (kz := 12) rfl dX8_seed_1 rfl fl_203 rfl rfl ?_
    refine e_lstore_n (ls' := [some (vr 0), some (vl l1), none, some (vl (h 0 12)), none]) dX8_seed_4 (Nat.le_of_ble_eq_true rfl) rfl ?_
    refine e_aload_n dX8_seed_5 rfl ?_
    refine e_lload_n dX8_seed_6 rfl ?_
    refine e_putL (kz := 12) rfl dX8_seed_7 rfl fp_203 rfl rfl ?_
    refine e_lload_n dX8_seed_10 rfl ?_
    obtain rfl := Option.some.inj hf
    exact e_lreturn dX8_seed_11 rfl ⟨rfl, rfl⟩
  exact Cn_of rfl (fun _ => Nat.le_of_ble_eq_true rfl) ⟨rfl, rfl⟩ (e_pad 2 key)
theorem lk_663 : VLk "StarRight" 316 m_X2_paidAt 3 := ⟨tw_663, tw_470, tw_471, tw_6, tw_472, by decide +kernel⟩
abbrev m_X8_nights : MI := (yX8_nights, cX8_nights, 5, some .int, { frames := 6, cells := 0, slots := 0, locals := 139 })
def p_X8_nights_99 (K20 : Mem → Int → Int → Int → Option (Int × Mem)) (h : Mem)   (l1 l2 l3 : Int) : Option (Int × Mem) :=
  K20 h l1 l2 (wr (l3 + 1))
set_option maxRecDepth 20000 in
theorem q_X8_nights_99 (K20 : Mem → Int → Int → Int → Option (Int × Mem)) (h : Mem)     (l1 l2 l3 : Int) {X : Int × Mem} (hK20 : ∀ (h : Mem) (l1 l2 l3 : Int), K20 h l1 l2 l3 = some X → E m_X8_nights none (fun r h' => r = some (vi X.1) ∧ h' = X.2) 20 [some (vr 0), some (vi l1), some (vi l2), some (vi l3), none] [] h) (hf : p_X8_nights_99 K20 h   l1 l2 l3 = some X) : E m_X8_nights none (fun r h' => r = some (vi X.1) ∧ h' = X.2) 99 [some (vr 0), some (vi l1), some (vi l2), some (vi l3), none] [] h := by
  unfold p_X8_nights_99 at hf
  refine e_iinc (ls' := [some (vr 0), some (vi l1), some (vi l2), some (vi (wr (l3 + 1))), none]) dX8_nights_99 rfl (Nat.le_of_ble_eq_true rfl) rfl ?_
  refine e_goto (tgt := 20) dX8_nights_102 (by decide) ?_
  exact e_mask [true, true, true, true, false] (hK20 h l1 l2 (wr (l3 + 1)) hf)
def p_X8_nights_62 (K20 : Mem → Int → Int → Int → Option (Int × Mem)) (h : Mem)   (l1 l2 l3 s0 : Int) : Option (Int × Mem) :=
  if s0 = 0 then (bd (p_X6_everyRoof h 7) (fun r82 => bd (p_X2_paidAt h r82 (wr ((h 7 6) + l3))) (fun r94 => p_X8_nights_99 K20 h   l1 (wr (l2 + r94)) l3))) else (p_X8_nights_99 K20 h   l1 l2 l3)
set_option maxRecDepth 20000 in
theorem q_X8_nights_62 (K20 : Mem → Int → Int → Int → Option (Int × Mem)) (h : Mem)     (l1 l2 l3 s0 : Int) {X : Int × Mem} (hK20 : ∀ (h : Mem) (l1 l2 l3 : Int), K20 h l1 l2 l3 = some X → E m_X8_nights none (fun r h' => r = some (vi X.1) ∧ h' = X.2) 20 [some (vr 0), some (vi l1), some (vi l2), some (vi l3), none] [] h) (hf : p_X8_nights_62 K20 h   l1 l2 l3 s0 = some X) : E m_X8_nights none (fun r h' => r = some (vi X.1) ∧ h' = X.2) 62 [some (vr 0), some (vi l1), some (vi l2), some (vi l3), none] [vi s0] h := by
  unfold p_X8_nights_62 at hf
  refine e_istore (ls' := [some (vr 0), some (vi l1), some (vi l2), some (vi l3), some (vi s0)]) dX8_nights_62 (Nat.le_of_ble_eq_true rfl) rfl ?_
  refine e_iload dX8_nights_64 rfl ?_
  refine e_if_ne (tgt := 99) dX8_nights_66 (by decide) (fun c66 => ?_) (fun c66 => ?_)
  · replace hf := ifn hf c66
    exact e_mask [true, true, true, true, false] (q_X8_nights_99 K20 h     l1 l2 l3 hK20 hf)
  · replace hf := ifp hf c66
    refine e_iload_n dX8_nights_69 rfl ?_
    refine e_aload_n dX8_nights_70 rfl ?_
    refine e_getR dX8_nights_71 rfl fl_197 rfl rfl ?_
    refine e_aload_n dX8_nights_74 rfl ?_
    refine e_getR dX8_nights_75 rfl fl_192 rfl rfl ?_
    refine e_aload_n dX8_nights_78 rfl ?_
    refine e_getR dX8_nights_79 rfl fl_193 rfl rfl ?_
    obtain ⟨r82, e82, hf⟩ := bd_some hf
    refine e_callV0i dX8_nights_82 rfl lk_344 ⟨rfl, rfl, Nat.le_of_ble_eq_true rfl, Nat.le_of_ble_eq_true rfl⟩ rfl rfl (Nat.le_of_ble_eq_true rfl) (q_X6_everyRoof h 7 isT7  e82) ?_
    refine e_aload_n dX8_nights_85 rfl ?_
    refine e_getR dX8_nights_86 rfl fl_193 rfl rfl ?_
    refine e_getI (kz := 6) rfl dX8_nights_89 rfl fl_80 rfl rfl (Or.inl rfl) ?_
    refine e_iload_n dX8_nights_92 rfl ?_
    refine e_iadd dX8_nights_93 ?_
    obtain ⟨r94, e94, hf⟩ := bd_some hf
    refine e_callV3i dX8_nights_94 rfl lk_663 ⟨rfl, rfl, Nat.le_of_ble_eq_true rfl, Nat.le_of_ble_eq_true rfl⟩ rfl rfl (Nat.le_of_ble_eq_true rfl) (q_X2_paidAt h   r82 (wr ((h 7 6) + l3)) e94) ?_
    refine e_iadd dX8_nights_97 ?_
    refine e_istore_n (ls' := [some (vr 0), some (vi l1), some (vi (wr (l2 + r94))), some (vi l3), some (vi s0)]) dX8_nights_98 (Nat.le_of_ble_eq_true rfl) rfl ?_
    exact e_mask [true, true, true, true, false] (q_X8_nights_99 K20 h     l1 (wr (l2 + r94)) l3 hK20 hf)
def p_X8_nights_20 (K20 : Mem → Int → Int → Int → Option (Int × Mem)) (h : Mem)   (l1 l2 l3 : Int) : Option (Int × Mem) :=
  if l1 ≤ l3 then (some (l2, h)) else (if lcmp64 (lrem64 (lushr64 ((up h 0 12 (wl ((wl ((h 0 12) * 6364136223846793005)) + 1442695040888963407))) 0 12) 33) 3) 0 = 0 then (p_X8_nights_62 K20 (up h 0 12 (wl ((wl ((h 0 12) * 6364136223846793005)) + 1442695040888963407)))   l1 l2 l3 1) else (p_X8_nights_62 K20 (up h 0 12 (wl ((wl ((h 0 12) * 6364136223846793005)) + 1442695040888963407)))   l1 l2 l3 0))
set_option maxRecDepth 20000 in
theorem q_X8_nights_20 (K20 : Mem → Int → Int → Int → Option (Int × Mem)) (h : Mem)     (l1 l2 l3 : Int) {X : Int × Mem} (hK20 : ∀ (h : Mem) (l1 l2 l3 : Int), K20 h l1 l2 l3 = some X → E m_X8_nights none (fun r h' => r = some (vi X.1) ∧ h' = X.2) 20 [some (vr 0), some (vi l1), some (vi l2), some (vi l3), none] [] h) (hf : p_X8_nights_20 K20 h   l1 l2 l3 = some X) : E m_X8_nights none (fun r h' => r = some (vi X.1) ∧ h' = X.2) 20 [some (vr 0), some (vi l1), some (vi l2), some (vi l3), none] [] h := by
  unfold p_X8_nights_20 at hf
  refine e_iload_n dX8_nights_20 rfl ?_
  refine e_iload_n dX8_nights_21 rfl ?_
  refine e_icmp_ge (tgt := 105) dX8_nights_22 (by decide) (fun c22 => ?_) (fun c22 => ?_)
  · replace hf := ifp hf c22
    refine e_iload_n dX8_nights_105 rfl ?_
    obtain rfl := Option.some.inj hf
    exact e_ireturn dX8_nights_106 rfl ⟨rfl, rfl⟩
  · replace hf := ifn hf c22
    refine e_aload_n dX8_nights_25 rfl ?_
    refine e_aload_n dX8_nights_26 rfl ?_
    refine e_getL (kz := 12) rfl dX8_nights_27 rfl fl_203 rfl rfl ?_
    refine e_ldc2 (a := 6364136223846793005) dX8_nights_30 rfl tw_660 ⟨by decide, by decide⟩ ?_
    refine e_lmul dX8_nights_33 ?_
    refine e_ldc2 (a := 1442695040888963407) dX8_nights_34 rfl tw_661 ⟨by decide, by decide⟩ ?_
    refine e_ladd dX8_nights_37 ?_
    refine e_putL (kz := 12) rfl dX8_nights_38 rfl fp_203 rfl rfl ?_
    refine e_aload_n dX8_nights_41 rfl ?_
    refine e_getL (kz := 12) rfl dX8_nights_42 rfl fl_203 rfl rfl ?_
    refine e_bipush dX8_nights_45 ⟨by decide, by decide, by decide⟩ ?_
    refine e_lushr dX8_nights_47 ?_
    refine e_ldc2 (a := 3) dX8_nights_48 rfl tw_662 ⟨by decide, by decide⟩ ?_
    refine e_lrem dX8_nights_51 (by decide) ?_
    refine e_lconst (a := 0) dX8_nights_52 ⟨by decide, by decide, by decide⟩ ?_
    refine e_lcmp dX8_nights_53 ?_
    refine e_if_ne (tgt := 61) dX8_nights_54 (by decide) (fun c54 => ?_) (fun c54 => ?_)
    · replace hf := ifn hf c54
      refine e_iconst dX8_nights_61 ⟨by decide, by decide⟩ ?_
      exact e_mask [true, true, true, true, false] (q_X8_nights_62 K20 (up h 0 12 (wl ((wl ((h 0 12) * 6364136223846793005)) + 1442695040888963407)))     l1 l2 l3 0 hK20 hf)
    · replace hf := ifp hf c54
      refine e_iconst dX8_nights_57 ⟨by decide, by decide⟩ ?_
      refine e_goto (tgt := 62) dX8_nights_58 (by decide) ?_
      exact e_mask [true, true, true, true, false] (q_X8_nights_62 K20 (up h 0 12 (wl ((wl ((h 0 12) * 6364136223846793005)) + 1442695040888963407)))     l1 l2 l3 1 hK20 hf)
def p_X8_nights_L20     : Nat → Mem → Int → Int → Int → Option (Int × Mem)
  | 0, _, _, _, _ => none
  | n + 1, h, l1, l2, l3 => p_X8_nights_20 (fun (h : Mem) (l1 l2 l3 : Int) => p_X8_nights_L20     n h l1 l2 l3) h   l1 l2 l3
theorem q_X8_nights_L20       {X : Int × Mem}  : ∀ (n : Nat) (h : Mem) (l1 l2 l3 : Int), p_X8_nights_L20     n h l1 l2 l3 = some X → E m_X8_nights none (fun r h' => r = some (vi X.1) ∧ h' = X.2) 20 [some (vr 0), some (vi l1), some (vi l2), some (vi l3), none] [] h := by
  intro n
  induction n with
  | zero => intro h l1 l2 l3 hf; have hf2 : (none : Option (Int × Mem)) = some X := hf; cases hf2
  | succ n ih => intro h l1 l2 l3 hf; exact q_X8_nights_20 (fun (h : Mem) (l1 l2 l3 : Int) => p_X8_nights_L20     n h l1 l2 l3) h     l1 l2 l3 (fun h l1 l2 l3 hf => ih h l1 l2 l3 hf) hf
def p_X8_nights (h : Mem)  (l1 : Int) : Option (Int × Mem) :=
  bd (p_X8_isSpan h l1 30) (fun r3 => if r3 = 0 then (some ((-2), h)) else (bd (p_X8_surveyTown h ) (fun h13 => p_X8_nights_L20     300 h13 l1 0 0)))
set_option maxRecDepth 20000 in
theorem q_X8_nights (h : Mem)   (l1 : Int) {X : Int × Mem} (hf : p_X8_nights h  l1 = some X) : Cn m_X8_nights [vr 0, vi l1] h (fun r h' => r = some (vi X.1) ∧ h' = X.2) := by
  unfold p_X8_nights at hf
  have key : E m_X8_nights none (fun r h' => r = some (vi X.1) ∧ h' = X.2) 0 [some (vr 0), some (vi l1), none, none, none] [] h := by
    refine e_iload_n dX8_nights_0 rfl ?_
    refine e_bipush dX8_nights_1 ⟨by decide, by decide, by decide⟩ ?_
    obtain ⟨r3, e3, hf⟩ := bd_some hf
    refine e_callS2i dX8_nights_3 rfl lk_489 ⟨rfl, rfl, Nat.le_of_ble_eq_true rfl, Nat.le_of_ble_eq_true rfl⟩ (Nat.le_of_ble_eq_true rfl) (q_X8_isSpan h   l1 30 e3) ?_
    refine e_if_ne (tgt := 12) dX8_nights_6 (by decide) (fun c6 => ?_) (fun c6 => ?_)
    · replace hf := ifn hf c6
      refine e_aload_n dX8_nights_12 rfl ?_
      obtain ⟨h13, e13, hf⟩ := bd_some hf
      refine e_callV0v dX8_nights_13 rfl lk_349 ⟨rfl, rfl, Nat.le_of_ble_eq_true rfl, Nat.le_of_ble_eq_true rfl⟩ rfl rfl (Nat.le_of_ble_eq_true rfl) (q_X8_surveyTown h    e13) ?_
      refine e_iconst dX8_nights_16 ⟨by decide, by decide⟩ ?_
      refine e_istore_n (ls' := [some (vr 0), some (vi l1), some (vi 0), none, none]) dX8_nights_17 (Nat.le_of_ble_eq_true rfl) rfl ?_
      refine e_iconst dX8_nights_18 ⟨by decide, by decide⟩ ?_
      refine e_istore_n (ls' := [some (vr 0), some (vi l1), some (vi 0), some (vi 0), none]) dX8_nights_19 (Nat.le_of_ble_eq_true rfl) rfl ?_
      exact e_mask [true, true, true, true, false] (q_X8_nights_L20        300 h13 l1 0 0 hf)
    · replace hf := ifp hf c6
      refine e_bipush dX8_nights_9 ⟨by decide, by decide, by decide⟩ ?_
      obtain rfl := Option.some.inj hf
      exact e_ireturn dX8_nights_11 rfl ⟨rfl, rfl⟩
  exact Cn_of rfl (fun _ => Nat.le_of_ble_eq_true rfl) ⟨rfl, rfl⟩ (e_pad 3 key)
abbrev m_X8_slotOf : MI := (yX8_slotOf, cX8_slotOf, 2, some (.object "StarRight$Slot"), { frames := 0, cells := 0, slots := 0, locals := 0 })
def p_X8_slotOf (h : Mem)  (l1 : Int) : Option (Option Nat) :=
  if l1 = 0 then (some (some 17)) else (if l1 = 1 then (some (some 23)) else (some none))
set_option maxRecDepth 20000 in
theorem q_X8_slotOf (h : Mem)   (l1 : Int) {X : Option Nat} (hf : p_X8_slotOf h  l1 = some X) : Cn m_X8_slotOf [vr 0, vi l1] h (fun r h' => r = some (.inr (.inr X)) ∧ h' = h) := by
  unfold p_X8_slotOf at hf
  have key : E m_X8_slotOf none (fun r h' => r = some (.inr (.inr X)) ∧ h' = h) 0 [some (vr 0), some (vi l1)] [] h := by
    refine e_iload_n dX8_slotOf_0 rfl ?_
    by_cases c1_0 : l1 = 0
    · replace hf := ifp hf c1_0
      refine e_lsw (off := 27) (tgt := 28) dX8_slotOf_1 (by decide) (by rw [c1_0]; decide) (by decide) ?_
      refine e_aload_n dX8_slotOf_28 rfl ?_
      refine e_getR dX8_slotOf_29 rfl fl_195 rfl rfl ?_
      obtain rfl := Option.some.inj hf
      exact e_areturn dX8_slotOf_32 rfl ⟨rfl, rfl⟩
    replace hf := ifn hf c1_0
    by_cases c1_1 : l1 = 1
    · replace hf := ifp hf c1_1
      refine e_lsw (off := 32) (tgt := 33) dX8_slotOf_1 (by decide) (by rw [c1_1]; decide) (by decide) ?_
      refine e_aload_n dX8_slotOf_33 rfl ?_
      refine e_getR dX8_slotOf_34 rfl fl_196 rfl rfl ?_
      obtain rfl := Option.some.inj hf
      exact e_areturn dX8_slotOf_37 rfl ⟨rfl, rfl⟩
    replace hf := ifn hf c1_1
    refine e_lsw (off := 37) (tgt := 38) dX8_slotOf_1 (by decide) (lsw2 c1_0 c1_1) (by decide) ?_
    refine e_null dX8_slotOf_38 ?_
    obtain rfl := Option.some.inj hf
    exact e_areturnN dX8_slotOf_39 rfl ⟨rfl, rfl⟩
  exact Cn_of rfl (fun _ => Nat.le_of_ble_eq_true rfl) ⟨rfl, rfl⟩ (e_pad 0 key)
theorem lk_668 : VLk "StarRight" 319 m_X8_slotOf 1 := ⟨tw_668, tw_670, twp_19, tw_1, tw_671, by decide +kernel⟩
abbrev m_X8_keep : MI := (yX8_keep, cX8_keep, 3, some .int, { frames := 2, cells := 0, slots := 0, locals := 39 })
def p_X8_keep (h : Mem)  (l1 : Int) : Option (Int × Mem) :=
  bd (p_X8_slotOf h l1) (fun o2 => if o2 = some 17 then (bd (p_X6_copyOf h 18 7) (fun h20 => some ((up h20 17 1 1) 7 6, (up h20 17 1 1)))) else (if o2 = some 23 then (bd (p_X6_copyOf h 24 7) (fun h20 => some ((up h20 23 1 1) 7 6, (up h20 23 1 1)))) else (gd (o2 = none) (some ((-1), h)))))
set_option maxRecDepth 20000 in
theorem q_X8_keep (h : Mem)   (l1 : Int) {X : Int × Mem} (hf : p_X8_keep h  l1 = some X) : Cn m_X8_keep [vr 0, vi l1] h (fun r h' => r = some (vi X.1) ∧ h' = X.2) := by
  unfold p_X8_keep at hf
  have key : E m_X8_keep none (fun r h' => r = some (vi X.1) ∧ h' = X.2) 0 [some (vr 0), some (vi l1), none] [] h := by
    refine e_aload_n dX8_keep_0 rfl ?_
    refine e_iload_n dX8_keep_1 rfl ?_
    obtain ⟨o2, e2, hf⟩ := bd_some hf
    refine e_callV1o dX8_keep_2 rfl lk_668 ⟨rfl, rfl, Nat.le_of_ble_eq_true rfl, Nat.le_of_ble_eq_true rfl⟩ rfl rfl (Nat.le_of_ble_eq_true rfl) (q_X8_slotOf h   l1 e2) ?_
    by_cases c2_0 : o2 = some 17
    · replace hf := ifp hf c2_0
      subst c2_0
      refine e_astore_n (ls' := [some (vr 0), some (vi l1), some (vr 17)]) dX8_keep_5 (Nat.le_of_ble_eq_true rfl) rfl ?_
      refine e_aload_n dX8_keep_6 rfl ?_
      refine e_ifnonnull (tgt := 12) dX8_keep_7 (by decide) ?_
      refine e_aload_n dX8_keep_12 rfl ?_
      refine e_getR dX8_keep_13 rfl fl_111 rfl rfl ?_
      refine e_aload_n dX8_keep_16 rfl ?_
      refine e_getR dX8_keep_17 rfl fl_193 rfl rfl ?_
      obtain ⟨h20, e20, hf⟩ := bd_some hf
      refine e_callV1v dX8_keep_20 rfl lk_511 ⟨rfl, rfl, Nat.le_of_ble_eq_true rfl, Nat.le_of_ble_eq_true rfl⟩ rfl rfl (Nat.le_of_ble_eq_true rfl) (q_X6_copyOf h 18 7 isT18 isT7  e20) ?_
      refine e_aload_n dX8_keep_23 rfl ?_
      refine e_iconst dX8_keep_24 ⟨by decide, by decide⟩ ?_
      refine e_putI (t := 2) (kz := 1) rfl dX8_keep_25 rfl fp_112 rfl rfl (Or.inr ⟨rfl, by decide⟩) ?_
      refine e_aload_n dX8_keep_28 rfl ?_
      refine e_getR dX8_keep_29 rfl fl_193 rfl rfl ?_
      refine e_getI (kz := 6) rfl dX8_keep_32 rfl fl_80 rfl rfl (Or.inl rfl) ?_
      obtain rfl := Option.some.inj hf
      exact e_ireturn dX8_keep_35 rfl ⟨rfl, rfl⟩
    replace hf := ifn hf c2_0
    by_cases c2_1 : o2 = some 23
    · replace hf := ifp hf c2_1
      subst c2_1
      refine e_astore_n (ls' := [some (vr 0), some (vi l1), some (vr 23)]) dX8_keep_5 (Nat.le_of_ble_eq_true rfl) rfl ?_
      refine e_aload_n dX8_keep_6 rfl ?_
      refine e_ifnonnull (tgt := 12) dX8_keep_7 (by decide) ?_
      refine e_aload_n dX8_keep_12 rfl ?_
      refine e_getR dX8_keep_13 rfl fl_111 rfl rfl ?_
      refine e_aload_n dX8_keep_16 rfl ?_
      refine e_getR dX8_keep_17 rfl fl_193 rfl rfl ?_
      obtain ⟨h20, e20, hf⟩ := bd_some hf
      refine e_callV1v dX8_keep_20 rfl lk_511 ⟨rfl, rfl, Nat.le_of_ble_eq_true rfl, Nat.le_of_ble_eq_true rfl⟩ rfl rfl (Nat.le_of_ble_eq_true rfl) (q_X6_copyOf h 24 7 isT24 isT7  e20) ?_
      refine e_aload_n dX8_keep_23 rfl ?_
      refine e_iconst dX8_keep_24 ⟨by decide, by decide⟩ ?_
      refine e_putI (t := 2) (kz := 1) rfl dX8_keep_25 rfl fp_112 rfl rfl (Or.inr ⟨rfl, by decide⟩) ?_
      refine e_aload_n dX8_keep_28 rfl ?_
      refine e_getR dX8_keep_29 rfl fl_193 rfl rfl ?_
      refine e_getI (kz := 6) rfl dX8_keep_32 rfl fl_80 rfl rfl (Or.inl rfl) ?_
      obtain rfl := Option.some.inj hf
      exact e_ireturn dX8_keep_35 rfl ⟨rfl, rfl⟩
    replace hf := ifn hf c2_1
    obtain ⟨g2, hf⟩ := gd_some hf
    subst g2
    refine e_astore_nN (ls' := [some (vr 0), some (vi l1), some (vn)]) dX8_keep_5 (Nat.le_of_ble_eq_true rfl) rfl ?_
    refine e_aload_nN dX8_keep_6 rfl ?_
    refine e_ifnonnullN dX8_keep_7 ?_
    refine e_iconst dX8_keep_10 ⟨by decide, by decide⟩ ?_
    obtain rfl := Option.some.inj hf
    exact e_ireturn dX8_keep_11 rfl ⟨rfl, rfl⟩
  exact Cn_of rfl (fun _ => Nat.le_of_ble_eq_true rfl) ⟨rfl, rfl⟩ (e_pad 1 key)
abbrev m_X8_again : MI := (yX8_again, cX8_again, 3, some .int, { frames := 2, cells := 0, slots := 0, locals := 39 })
def p_X8_again (h : Mem)  (l1 : Int) : Option (Int × Mem) :=
  bd (p_X8_slotOf h l1) (fun o2 => if o2 = some 17 then (if h 17 1 = 0 then (some ((-3), h)) else (bd (p_X6_copyOf h 7 18) (fun h30 => bd (p_X0_clear h30 ) (fun h37 => some (h37 7 6, h37))))) else (if o2 = some 23 then (if h 23 1 = 0 then (some ((-3), h)) else (bd (p_X6_copyOf h 7 24) (fun h30 => bd (p_X0_clear h30 ) (fun h37 => some (h37 7 6, h37))))) else (gd (o2 = none) (some ((-1), h)))))
set_option maxRecDepth 20000 in
theorem q_X8_again (h : Mem)   (l1 : Int) {X : Int × Mem} (hf : p_X8_again h  l1 = some X) : Cn m_X8_again [vr 0, vi l1] h (fun r h' => r = some (vi X.1) ∧ h' = X.2) := by
  unfold p_X8_again at hf
  have key : E m_X8_again none (fun r h' => r = some (vi X.1) ∧ h' = X.2) 0 [some (vr 0), some (vi l1), none] [] h := by
    refine e_aload_n dX8_again_0 rfl ?_
    refine e_iload_n dX8_again_1 rfl ?_
    obtain ⟨o2, e2, hf⟩ := bd_some hf
    refine e_callV1o dX8_again_2 rfl lk_668 ⟨rfl, rfl, Nat.le_of_ble_eq_true rfl, Nat.le_of_ble_eq_true rfl⟩ rfl rfl (Nat.le_of_ble_eq_true rfl) (q_X8_slotOf h   l1 e2) ?_
    by_cases c2_0 : o2 = some 17
    · replace hf := ifp hf c2_0
      subst c2_0
      refine e_astore_n (ls' := [some (vr 0), some (vi l1), some (vr 17)]) dX8_again_5 (Nat.le_of_ble_eq_true rfl) rfl ?_
      refine e_aload_n dX8_again_6 rfl ?_
      refine e_ifnonnull (tgt := 12) dX8_again_7 (by decide) ?_
      refine e_aload_n dX8_again_12 rfl ?_
      refine e_getI (kz := 1) rfl dX8_again_13 rfl fl_112 rfl rfl (Or.inr rfl) ?_
      refine e_if_ne (tgt := 22) dX8_again_16 (by decide) (fun c16 => ?_) (fun c16 => ?_)
      · replace hf := ifn hf c16
        refine e_aload_n dX8_again_22 rfl ?_
        refine e_getR dX8_again_23 rfl fl_193 rfl rfl ?_
        refine e_aload_n dX8_again_26 rfl ?_
        refine e_getR dX8_again_27 rfl fl_111 rfl rfl ?_
        obtain ⟨h30, e30, hf⟩ := bd_some hf
        refine e_callV1v dX8_again_30 rfl lk_511 ⟨rfl, rfl, Nat.le_of_ble_eq_true rfl, Nat.le_of_ble_eq_true rfl⟩ rfl rfl (Nat.le_of_ble_eq_true rfl) (q_X6_copyOf h 7 18 isT7 isT18  e30) ?_
        refine e_aload_n dX8_again_33 rfl ?_
        refine e_getR dX8_again_34 rfl fl_198 rfl rfl ?_
        obtain ⟨h37, e37, hf⟩ := bd_some hf
        refine e_callV0v dX8_again_37 rfl lk_292 ⟨rfl, rfl, Nat.le_of_ble_eq_true rfl, Nat.le_of_ble_eq_true rfl⟩ rfl rfl (Nat.le_of_ble_eq_true rfl) (q_X0_clear h30    e37) ?_
        refine e_aload_n dX8_again_40 rfl ?_
        refine e_getR dX8_again_41 rfl fl_193 rfl rfl ?_
        refine e_getI (kz := 6) rfl dX8_again_44 rfl fl_80 rfl rfl (Or.inl rfl) ?_
        obtain rfl := Option.some.inj hf
        exact e_ireturn dX8_again_47 rfl ⟨rfl, rfl⟩
      · replace hf := ifp hf c16
        refine e_bipush dX8_again_19 ⟨by decide, by decide, by decide⟩ ?_
        obtain rfl := Option.some.inj hf
        exact e_ireturn dX8_again_21 rfl ⟨rfl, rfl⟩
    replace hf := ifn hf c2_0
    by_cases c2_1 : o2 = some 23
    · replace hf := ifp hf c2_1
      subst c2_1
      refine e_astore_n (ls' := [some (vr 0), some (vi l1), some (vr 23)]) dX8_again_5 (Nat.le_of_ble_eq_true rfl) rfl ?_
      refine e_aload_n dX8_again_6 rfl ?_
      refine e_ifnonnull (tgt := 12) dX8_again_7 (by decide) ?_
      refine e_aload_n dX8_again_12 rfl ?_
      refine e_getI (kz := 1) rfl dX8_again_13 rfl fl_112 rfl rfl (Or.inr rfl) ?_
      refine e_if_ne (tgt := 22) dX8_again_16 (by decide) (fun c16 => ?_) (fun c16 => ?_)
      · replace hf := ifn hf c16
        refine e_aload_n dX8_again_22 rfl ?_
        refine e_getR dX8_again_23 rfl fl_193 rfl rfl ?_
        refine e_aload_n dX8_again_26 rfl ?_
        refine e_getR dX8_again_27 rfl fl_111 rfl rfl ?_
        obtain ⟨h30, e30, hf⟩ := bd_some hf
        refine e_callV1v dX8_again_30 rfl lk_511 ⟨rfl, rfl, Nat.le_of_ble_eq_true rfl, Nat.le_of_ble_eq_true rfl⟩ rfl rfl (Nat.le_of_ble_eq_true rfl) (q_X6_copyOf h 7 24 isT7 isT24  e30) ?_
        refine e_aload_n dX8_again_33 rfl ?_
        refine e_getR dX8_again_34 rfl fl_198 rfl rfl ?_
        obtain ⟨h37, e37, hf⟩ := bd_some hf
        refine e_callV0v dX8_again_37 rfl lk_292 ⟨rfl, rfl, Nat.le_of_ble_eq_true rfl, Nat.le_of_ble_eq_true rfl⟩ rfl rfl (Nat.le_of_ble_eq_true rfl) (q_X0_clear h30    e37) ?_
        refine e_aload_n dX8_again_40 rfl ?_
        refine e_getR dX8_again_41 rfl fl_193 rfl rfl ?_
        refine e_getI (kz := 6) rfl dX8_again_44 rfl fl_80 rfl rfl (Or.inl rfl) ?_
        obtain rfl := Option.some.inj hf
        exact e_ireturn dX8_again_47 rfl ⟨rfl, rfl⟩
      · replace hf := ifp hf c16
        refine e_bipush dX8_again_19 ⟨by decide, by decide, by decide⟩ ?_
        obtain rfl := Option.some.inj hf
        exact e_ireturn dX8_again_21 rfl ⟨rfl, rfl⟩
    replace hf := ifn hf c2_1
    obtain ⟨g2, hf⟩ := gd_some hf
    subst g2
    refine e_astore_nN (ls' := [some (vr 0), some (vi l1), some (vn)]) dX8_again_5 (Nat.le_of_ble_eq_true rfl) rfl ?_
    refine e_aload_nN dX8_again_6 rfl ?_
    refine e_ifnonnullN dX8_again_7 ?_
    refine e_iconst dX8_again_10 ⟨by decide, by decide⟩ ?_
    obtain rfl := Option.some.inj hf
    exact e_ireturn dX8_again_11 rfl ⟨rfl, rfl⟩
  exact Cn_of rfl (fun _ => Nat.le_of_ble_eq_true rfl) ⟨rfl, rfl⟩ (e_pad 1 key)
