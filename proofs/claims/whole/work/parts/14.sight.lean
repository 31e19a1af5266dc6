theorem lk_366 : VLk "StarRight$Sight" 34 m_X6_goesAhead 4 := ⟨tw_366, tw_367, tw_368, tw_4, tw_369, by decide +kernel⟩
abbrev m_X2_holderByLaw : MI := (yX2_holderByLaw, cX2_holderByLaw, 7, some .int, { frames := 3, cells := 0, slots := 0, locals := 68 })
def p_X2_holderByLaw_63 (K7 : Int → Int → Int → Int → Option (Int)) (h : Mem) (t : Nat)  (l2 l3 l4 l5 : Int) : Option (Int) :=
  K7 l2 l3 l4 (wr (l5 + 1))
set_option maxRecDepth 20000 in
theorem q_X2_holderByLaw_63 (K7 : Int → Int → Int → Int → Option (Int)) (h : Mem) (t : Nat) (ht : IsT t)   (l2 l3 l4 l5 : Int) {X : Int} (hK7 : ∀ (l2 l3 l4 l5 : Int), K7 l2 l3 l4 l5 = some X → E m_X2_holderByLaw none (fun r h' => r = some (vi X) ∧ h' = h) 7 [some (vr 29), some (vr t), some (vi l2), some (vi l3), some (vi l4), some (vi l5), none] [] h) (hf : p_X2_holderByLaw_63 K7 h t  l2 l3 l4 l5 = some X) : E m_X2_holderByLaw none (fun r h' => r = some (vi X) ∧ h' = h) 63 [some (vr 29), some (vr t), some (vi l2), some (vi l3), some (vi l4), some (vi l5), none] [] h := by
  unfold p_X2_holderByLaw_63 at hf
  refine e_iinc (ls' := [some (vr 29), some (vr t), some (vi l2), some (vi l3), some (vi l4), some (vi (wr (l5 + 1))), none]) dX2_holderByLaw_63 rfl (Nat.le_of_ble_eq_true rfl) rfl ?_
  refine e_goto (tgt := 7) dX2_holderByLaw_66 (by decide) ?_
  exact e_mask [true, true, true, true, true, true, false] (hK7 l2 l3 l4 (wr (l5 + 1)) hf)
def p_X2_holderByLaw_59 (K7 : Int → Int → Int → Int → Option (Int)) (h : Mem) (t : Nat)  (l2 l3 l5 : Int) : Option (Int) :=
  p_X2_holderByLaw_63 K7 h t  l2 l3 l5 l5
set_option maxRecDepth 20000 in
theorem q_X2_holderByLaw_59 (K7 : Int → Int → Int → Int → Option (Int)) (h : Mem) (t : Nat) (ht : IsT t)   (l2 l3 l5 : Int) {X : Int} (hK7 : ∀ (l2 l3 l4 l5 : Int), K7 l2 l3 l4 l5 = some X → E m_X2_holderByLaw none (fun r h' => r = some (vi X) ∧ h' = h) 7 [some (vr 29), some (vr t), some (vi l2), some (vi l3), some (vi l4), some (vi l5), none] [] h) (hf : p_X2_holderByLaw_59 K7 h t  l2 l3 l5 = some X) : E m_X2_holderByLaw none (fun r h' => r = some (vi X) ∧ h' = h) 59 [some (vr 29), some (vr t), some (vi l2), some (vi l3), none, some (vi l5), none] [] h := by
  unfold p_X2_holderByLaw_59 at hf
  refine e_iload dX2_holderByLaw_59 rfl ?_
  refine e_istore (ls' := [some (vr 29), some (vr t), some (vi l2), some (vi l3), some (vi l5), some (vi l5), none]) dX2_holderByLaw_61 (Nat.le_of_ble_eq_true rfl) rfl ?_
  exact e_mask [true, true, true, true, true, true, false] (q_X2_holderByLaw_63 K7 h t ht   l2 l3 l5 l5 hK7 hf)
def p_X2_holderByLaw_32 (K7 : Int → Int → Int → Int → Option (Int)) (h : Mem) (t : Nat)  (l2 l3 l4 l5 s0 : Int) : Option (Int) :=
  if s0 = 0 then (p_X2_holderByLaw_63 K7 h t  l2 l3 l4 l5) else (if l4 = (-9) then (p_X2_holderByLaw_59 K7 h t  l2 l3 l5) else (bd (p_X6_goesAhead h t l5 l4 l2 l3) (fun r53 => if r53 = 0 then (p_X2_holderByLaw_63 K7 h t  l2 l3 l4 l5) else (p_X2_holderByLaw_59 K7 h t  l2 l3 l5))))
set_option maxRecDepth 20000 in
theorem q_X2_holderByLaw_32 (K7 : Int → Int → Int → Int → Option (Int)) (h : Mem) (t : Nat) (ht : IsT t)   (l2 l3 l4 l5 s0 : Int) {X : Int} (hK7 : ∀ (l2 l3 l4 l5 : Int), K7 l2 l3 l4 l5 = some X → E m_X2_holderByLaw none (fun r h' => r = some (vi X) ∧ h' = h) 7 [some (vr 29), some (vr t), some (vi l2), some (vi l3), some (vi l4), some (vi l5), none] [] h) (hf : p_X2_holderByLaw_32 K7 h t  l2 l3 l4 l5 s0 = some X) : E m_X2_holderByLaw none (fun r h' => r = some (vi X) ∧ h' = h) 32 [some (vr 29), some (vr t), some (vi l2), some (vi l3), some (vi l4), some (vi l5), none] [vi s0] h := by
  unfold p_X2_holderByLaw_32 at hf
  refine e_istore (ls' := [some (vr 29), some (vr t), some (vi l2), some (vi l3), some (vi l4), some (vi l5), some (vi s0)]) dX2_holderByLaw_32 (Nat.le_of_ble_eq_true rfl) rfl ?_
  refine e_iload dX2_holderByLaw_34 rfl ?_
  refine e_if_eq (tgt := 63) dX2_holderByLaw_36 (by decide) (fun c36 => ?_) (fun c36 => ?_)
  · replace hf := ifp hf c36
    exact e_mask [true, true, true, true, true, true, false] (q_X2_holderByLaw_63 K7 h t ht   l2 l3 l4 l5 hK7 hf)
  · replace hf := ifn hf c36
    refine e_iload dX2_holderByLaw_39 rfl ?_
    refine e_bipush dX2_holderByLaw_41 ⟨by decide, by decide, by decide⟩ ?_
    refine e_icmp_eq (tgt := 59) dX2_holderByLaw_43 (by decide) (fun c43 => ?_) (fun c43 => ?_)
    · replace hf := ifp hf c43
      exact e_mask [true, true, true, true, false, true, false] (q_X2_holderByLaw_59 K7 h t ht   l2 l3 l5 hK7 hf)
    · replace hf := ifn hf c43
      refine e_aload_n dX2_holderByLaw_46 rfl ?_
      refine e_iload dX2_holderByLaw_47 rfl ?_
      refine e_iload dX2_holderByLaw_49 rfl ?_
      refine e_iload_n dX2_holderByLaw_51 rfl ?_
      refine e_iload_n dX2_holderByLaw_52 rfl ?_
      obtain ⟨r53, e53, hf⟩ := bd_some hf
      refine e_callV4i dX2_holderByLaw_53 rfl lk_366 ⟨rfl, rfl, Nat.le_of_ble_eq_true rfl, Nat.le_of_ble_eq_true rfl⟩ ht.1 rfl (Nat.le_of_ble_eq_true rfl) (q_X6_goesAhead h t ht l5 l4 l2 l3 e53) ?_
      refine e_if_eq (tgt := 63) dX2_holderByLaw_56 (by decide) (fun c56 => ?_) (fun c56 => ?_)
      · replace hf := ifp hf c56
        exact e_mask [true, true, true, true, true, true, false] (q_X2_holderByLaw_63 K7 h t ht   l2 l3 l4 l5 hK7 hf)
      · replace hf := ifn hf c56
        exact e_mask [true, true, true, true, false, true, false] (q_X2_holderByLaw_59 K7 h t ht   l2 l3 l5 hK7 hf)
def p_X2_holderByLaw_7 (K7 : Int → Int → Int → Int → Option (Int)) (h : Mem) (t : Nat)  (l2 l3 l4 l5 : Int) : Option (Int) :=
  if 5 ≤ l5 then (some l4) else (gd (0 ≤ l5 ∧ l5 < 5) (if band (bshr (h 30 l5) l3) 1 = 0 then (p_X2_holderByLaw_32 K7 h t  l2 l3 l4 l5 0) else (p_X2_holderByLaw_32 K7 h t  l2 l3 l4 l5 1)))
set_option maxRecDepth 20000 in
theorem q_X2_holderByLaw_7 (K7 : Int → Int → Int → Int → Option (Int)) (h : Mem) (t : Nat) (ht : IsT t)   (l2 l3 l4 l5 : Int) {X : Int} (hK7 : ∀ (l2 l3 l4 l5 : Int), K7 l2 l3 l4 l5 = some X → E m_X2_holderByLaw none (fun r h' => r = some (vi X) ∧ h' = h) 7 [some (vr 29), some (vr t), some (vi l2), some (vi l3), some (vi l4), some (vi l5), none] [] h) (hf : p_X2_holderByLaw_7 K7 h t  l2 l3 l4 l5 = some X) : E m_X2_holderByLaw none (fun r h' => r = some (vi X) ∧ h' = h) 7 [some (vr 29), some (vr t), some (vi l2), some (vi l3), some (vi l4), some (vi l5), none] [] h := by
  unfold p_X2_holderByLaw_7 at hf
  refine e_iload dX2_holderByLaw_7 rfl ?_
  refine e_iconst dX2_holderByLaw_9 ⟨by decide, by decide⟩ ?_
  refine e_icmp_ge (tgt := 69) dX2_holderByLaw_10 (by decide) (fun c10 => ?_) (fun c10 => ?_)
  · replace hf := ifp hf c10
    refine e_iload dX2_holderByLaw_69 rfl ?_
    obtain rfl := Option.some.inj hf
    exact e_ireturn dX2_holderByLaw_71 rfl ⟨rfl, rfl⟩
  · replace hf := ifn hf c10
    refine e_aload_n dX2_holderByLaw_13 rfl ?_
    refine e_getR dX2_holderByLaw_14 rfl fl_124 rfl rfl ?_
    refine e_iload dX2_holderByLaw_17 rfl ?_
    obtain ⟨g19, hf⟩ := gd_some hf
    refine e_iald dX2_holderByLaw_19 rfl g19 ?_
    refine e_iload_n dX2_holderByLaw_20 rfl ?_
    refine e_ishr dX2_holderByLaw_21 ?_
    refine e_iconst dX2_holderByLaw_22 ⟨by decide, by decide⟩ ?_
    refine e_iand dX2_holderByLaw_23 ?_
    refine e_if_eq (tgt := 31) dX2_holderByLaw_24 (by decide) (fun c24 => ?_) (fun c24 => ?_)
    · replace hf := ifp hf c24
      refine e_iconst dX2_holderByLaw_31 ⟨by decide, by decide⟩ ?_
      exact e_mask [true, true, true, true, true, true, false] (q_X2_holderByLaw_32 K7 h t ht   l2 l3 l4 l5 0 hK7 hf)
    · replace hf := ifn hf c24
      refine e_iconst dX2_holderByLaw_27 ⟨by decide, by decide⟩ ?_
      refine e_goto (tgt := 32) dX2_holderByLaw_28 (by decide) ?_
      exact e_mask [true, true, true, true, true, true, false] (q_X2_holderByLaw_32 K7 h t ht   l2 l3 l4 l5 1 hK7 hf)
def p_X2_holderByLaw_L7  (h : Mem) (t : Nat)  : Nat → Int → Int → Int → Int → Option (Int)
  | 0, _, _, _, _ => none
  | n + 1, l2, l3, l4, l5 => p_X2_holderByLaw_7 (fun (l2 l3 l4 l5 : Int) => p_X2_holderByLaw_L7  h t  n l2 l3 l4 l5) h t  l2 l3 l4 l5
theorem q_X2_holderByLaw_L7  (h : Mem) (t : Nat) (ht : IsT t)   {X : Int}  : ∀ (n : Nat) (l2 l3 l4 l5 : Int), p_X2_holderByLaw_L7  h t  n l2 l3 l4 l5 = some X → E m_X2_holderByLaw none (fun r h' => r = some (vi X) ∧ h' = h) 7 [some (vr 29), some (vr t), some (vi l2), some (vi l3), some (vi l4), some (vi l5), none] [] h := by
  intro n
  induction n with
  | zero => intro l2 l3 l4 l5 hf; have hf2 : (none : Option (Int)) = some X := hf; cases hf2
  | succ n ih => intro l2 l3 l4 l5 hf; exact q_X2_holderByLaw_7 (fun (l2 l3 l4 l5 : Int) => p_X2_holderByLaw_L7  h t  n l2 l3 l4 l5) h t ht   l2 l3 l4 l5 (fun l2 l3 l4 l5 hf => ih l2 l3 l4 l5 hf) hf
def p_X2_holderByLaw (h : Mem) (t : Nat) (l2 l3 : Int) : Option (Int) :=
  p_X2_holderByLaw_L7  h t  300  l2 l3 (-9) 0
set_option maxRecDepth 20000 in
theorem q_X2_holderByLaw (h : Mem) (t : Nat) (ht : IsT t) (l2 l3 : Int) {X : Int} (hf : p_X2_holderByLaw h t l2 l3 = some X) : Cn m_X2_holderByLaw [vr 29, vr t, vi l2, vi l3] h (fun r h' => r = some (vi X) ∧ h' = h) := by
  unfold p_X2_holderByLaw at hf
  have key : E m_X2_holderByLaw none (fun r h' => r = some (vi X) ∧ h' = h) 0 [some (vr 29), some (vr t), some (vi l2), some (vi l3), none, none, none] [] h := by
    refine e_bipush dX2_holderByLaw_0 ⟨by decide, by decide, by decide⟩ ?_
    refine e_istore (ls' := [some (vr 29), some (vr t), some (vi l2), some (vi l3), some (vi (-9)), none, none]) dX2_holderByLaw_2 (Nat.le_of_ble_eq_true rfl) rfl ?_
    refine e_iconst dX2_holderByLaw_4 ⟨by decide, by decide⟩ ?_
    refine e_istore (ls' := [some (vr 29), some (vr t), some (vi l2), some (vi l3), some (vi (-9)), some (vi 0), none]) dX2_holderByLaw_5 (Nat.le_of_ble_eq_true rfl) rfl ?_
    exact e_mask [true, true, true, true, true, true, false] (q_X2_holderByLaw_L7  h t ht    300  l2 l3 (-9) 0 hf)
  exact Cn_of rfl (fun _ => Nat.le_of_ble_eq_true rfl) ⟨rfl, rfl⟩ (e_pad 3 key)
theorem lk_357 : VLk "StarRight$Sight" 21 m_X6_cellsSeen 2 := ⟨tw_357, tw_346, tw_347, tw_4, tw_348, by decide +kernel⟩
theorem lk_358 : VLk "StarRight$Sight" 27 m_X6_smokeAround 2 := ⟨tw_358, tw_359, tw_360, tw_4, tw_361, by decide +kernel⟩
theorem lk_362 : VLk "StarRight$Sight" 30 m_X2_holderByLaw 3 := ⟨tw_362, tw_364, twp_8, tw_6, tw_365, by decide +kernel⟩
abbrev m_X2_survey : MI := (yX2_survey, cX2_survey, 6, none, { frames := 4, cells := 0, slots := 0, locals := 94 })
def p_X2_survey_80 (K80 : Mem → Int → Int → Option (Mem)) (h : Mem) (t : Nat)  (l3 l4 : Int) : Option (Mem) :=
  if 10 ≤ l4 then (some h) else (bd (p_X2_holderByLaw h t l3 l4) (fun r98 => gd (0 ≤ l4 ∧ l4 < 10) (K80 (up h 32 l4 r98) l3 (wr (l4 + 1)))))
set_option maxRecDepth 20000 in
theorem q_X2_survey_80 (K80 : Mem → Int → Int → Option (Mem)) (h : Mem) (t : Nat) (ht : IsT t)   (l3 l4 : Int) {X : Mem} (hK80 : ∀ (h : Mem) (l3 l4 : Int), K80 h l3 l4 = some X → E m_X2_survey none (fun r h' => r = none ∧ h' = X) 80 [some (vr 29), some (vr t), none, some (vi l3), some (vi l4), none] [] h) (hf : p_X2_survey_80 K80 h t  l3 l4 = some X) : E m_X2_survey none (fun r h' => r = none ∧ h' = X) 80 [some (vr 29), some (vr t), none, some (vi l3), some (vi l4), none] [] h := by
  unfold p_X2_survey_80 at hf
  refine e_iload dX2_survey_80 rfl ?_
  refine e_bipush dX2_survey_82 ⟨by decide, by decide, by decide⟩ ?_
  refine e_icmp_ge (tgt := 108) dX2_survey_84 (by decide) (fun c84 => ?_) (fun c84 => ?_)
  · replace hf := ifp hf c84
    obtain rfl := Option.some.inj hf
    exact e_return dX2_survey_108 rfl ⟨rfl, rfl⟩
  · replace hf := ifn hf c84
    refine e_aload_n dX2_survey_87 rfl ?_
    refine e_getR dX2_survey_88 rfl fl_126 rfl rfl ?_
    refine e_iload dX2_survey_91 rfl ?_
    refine e_aload_n dX2_survey_93 rfl ?_
    refine e_aload_n dX2_survey_94 rfl ?_
    refine e_iload_n dX2_survey_95 rfl ?_
    refine e_iload dX2_survey_96 rfl ?_
    obtain ⟨r98, e98, hf⟩ := bd_some hf
    refine e_callV3i dX2_survey_98 rfl lk_362 ⟨rfl, rfl, Nat.le_of_ble_eq_true rfl, Nat.le_of_ble_eq_true rfl⟩ rfl rfl (Nat.le_of_ble_eq_true rfl) (q_X2_holderByLaw h t ht l3 l4 e98) ?_
    obtain ⟨g101, hf⟩ := gd_some hf
    refine e_iast dX2_survey_101 rfl g101 ?_
    refine e_iinc (ls' := [some (vr 29), some (vr t), none, some (vi l3), some (vi (wr (l4 + 1))), none]) dX2_survey_102 rfl (Nat.le_of_ble_eq_true rfl) rfl ?_
    refine e_goto (tgt := 80) dX2_survey_105 (by decide) ?_
    exact e_mask [true, true, false, true, true, false] (hK80 (up h 32 l4 r98) l3 (wr (l4 + 1)) hf)
def p_X2_survey_L80   (t : Nat)  : Nat → Mem → Int → Int → Option (Mem)
  | 0, _, _, _ => none
  | n + 1, h, l3, l4 => p_X2_survey_80 (fun (h : Mem) (l3 l4 : Int) => p_X2_survey_L80   t  n h l3 l4) h t  l3 l4
theorem q_X2_survey_L80   (t : Nat) (ht : IsT t)   {X : Mem}  : ∀ (n : Nat) (h : Mem) (l3 l4 : Int), p_X2_survey_L80   t  n h l3 l4 = some X → E m_X2_survey none (fun r h' => r = none ∧ h' = X) 80 [some (vr 29), some (vr t), none, some (vi l3), some (vi l4), none] [] h := by
  intro n
  induction n with
  | zero => intro h l3 l4 hf; have hf2 : (none : Option (Mem)) = some X := hf; cases hf2
  | succ n ih => intro h l3 l4 hf; exact q_X2_survey_80 (fun (h : Mem) (l3 l4 : Int) => p_X2_survey_L80   t  n h l3 l4) h t ht   l3 l4 (fun h l3 l4 hf => ih h l3 l4 hf) hf
def p_X2_survey_77  (h : Mem) (t : Nat)  (l3 : Int) : Option (Mem) :=
  p_X2_survey_L80   t  300 h l3 0
set_option maxRecDepth 20000 in
theorem q_X2_survey_77  (h : Mem) (t : Nat) (ht : IsT t)   (l3 : Int) {X : Mem}  (hf : p_X2_survey_77  h t  l3 = some X) : E m_X2_survey none (fun r h' => r = none ∧ h' = X) 77 [some (vr 29), some (vr t), none, some (vi l3), none, none] [] h := by
  unfold p_X2_survey_77 at hf
  refine e_iconst dX2_survey_77 ⟨by decide, by decide⟩ ?_
  refine e_istore (ls' := [some (vr 29), some (vr t), none, some (vi l3), some (vi 0), none]) dX2_survey_78 (Nat.le_of_ble_eq_true rfl) rfl ?_
  exact e_mask [true, true, false, true, true, false] (q_X2_survey_L80   t ht    300 h l3 0 hf)
def p_X2_survey_70 (K3 : Mem → Int → Int → Int → Option (Mem)) (h : Mem) (t : Nat)  (l2 l3 l4 s0 s1 : Int) : Option (Mem) :=
  gd (0 ≤ s0 ∧ s0 < 5) (K3 (up h 31 s0 s1) l2 l3 (wr (l4 + 1)))
set_option maxRecDepth 20000 in
theorem q_X2_survey_70 (K3 : Mem → Int → Int → Int → Option (Mem)) (h : Mem) (t : Nat) (ht : IsT t)   (l2 l3 l4 s0 s1 : Int) {X : Mem} (hK3 : ∀ (h : Mem) (l2 l3 l4 : Int), K3 h l2 l3 l4 = some X → E m_X2_survey none (fun r h' => r = none ∧ h' = X) 3 [some (vr 29), some (vr t), some (vi l2), some (vi l3), some (vi l4), none] [] h) (hf : p_X2_survey_70 K3 h t  l2 l3 l4 s0 s1 = some X) : E m_X2_survey none (fun r h' => r = none ∧ h' = X) 70 [some (vr 29), some (vr t), some (vi l2), some (vi l3), some (vi l4), none] [vi s1, vi s0, vr 31] h := by
  unfold p_X2_survey_70 at hf
  obtain ⟨g70, hf⟩ := gd_some hf
  refine e_iast dX2_survey_70 rfl g70 ?_
  refine e_iinc (ls' := [some (vr 29), some (vr t), some (vi l2), some (vi l3), some (vi (wr (l4 + 1))), none]) dX2_survey_71 rfl (Nat.le_of_ble_eq_true rfl) rfl ?_
  refine e_goto (tgt := 3) dX2_survey_74 (by decide) ?_
  exact e_mask [true, true, true, true, true, false] (hK3 (up h 31 s0 s1) l2 l3 (wr (l4 + 1)) hf)
def p_X2_survey_47 (K3 : Mem → Int → Int → Int → Option (Mem)) (h : Mem) (t : Nat)  (l2 l3 l4 l5 s0 s1 : Int) : Option (Mem) :=
  gd (0 ≤ s0 ∧ s0 < 5) (if l5 = 0 then (p_X2_survey_70 K3 (up h 30 s0 s1) t  l2 l3 l4 l4 0) else (bd (p_X6_smokeAround (up h 30 s0 s1) t l4 l2) (fun r63 => p_X2_survey_70 K3 (up h 30 s0 s1) t  l2 l3 l4 l4 r63)))
set_option maxRecDepth 20000 in
theorem q_X2_survey_47 (K3 : Mem → Int → Int → Int → Option (Mem)) (h : Mem) (t : Nat) (ht : IsT t)   (l2 l3 l4 l5 s0 s1 : Int) {X : Mem} (hK3 : ∀ (h : Mem) (l2 l3 l4 : Int), K3 h l2 l3 l4 = some X → E m_X2_survey none (fun r h' => r = none ∧ h' = X) 3 [some (vr 29), some (vr t), some (vi l2), some (vi l3), some (vi l4), none] [] h) (hf : p_X2_survey_47 K3 h t  l2 l3 l4 l5 s0 s1 = some X) : E m_X2_survey none (fun r h' => r = none ∧ h' = X) 47 [some (vr 29), some (vr t), some (vi l2), some (vi l3), some (vi l4), some (vi l5)] [vi s1, vi s0, vr 30] h := by
  unfold p_X2_survey_47 at hf
  obtain ⟨g47, hf⟩ := gd_some hf
  refine e_iast dX2_survey_47 rfl g47 ?_
  refine e_aload_n dX2_survey_48 rfl ?_
  refine e_getR dX2_survey_49 rfl fl_125 rfl rfl ?_
  refine e_iload dX2_survey_52 rfl ?_
  refine e_iload dX2_survey_54 rfl ?_
  refine e_if_eq (tgt := 69) dX2_survey_56 (by decide) (fun c56 => ?_) (fun c56 => ?_)
  · replace hf := ifp hf c56
    refine e_iconst dX2_survey_69 ⟨by decide, by decide⟩ ?_
    exact e_mask [true, true, true, true, true, false] (q_X2_survey_70 K3 (up h 30 s0 s1) t ht   l2 l3 l4 l4 0 hK3 hf)
  · replace hf := ifn hf c56
    refine e_aload_n dX2_survey_59 rfl ?_
    refine e_iload dX2_survey_60 rfl ?_
    refine e_iload_n dX2_survey_62 rfl ?_
    obtain ⟨r63, e63, hf⟩ := bd_some hf
    refine e_callV2i dX2_survey_63 rfl lk_358 ⟨rfl, rfl, Nat.le_of_ble_eq_true rfl, Nat.le_of_ble_eq_true rfl⟩ ht.1 rfl (Nat.le_of_ble_eq_true rfl) (q_X6_smokeAround (up h 30 s0 s1) t ht l4 l2 e63) ?_
    refine e_goto (tgt := 70) dX2_survey_66 (by decide) ?_
    exact e_mask [true, true, true, true, true, false] (q_X2_survey_70 K3 (up h 30 s0 s1) t ht   l2 l3 l4 l4 r63 hK3 hf)
def p_X2_survey_23 (K3 : Mem → Int → Int → Int → Option (Mem)) (h : Mem) (t : Nat)  (l2 l3 l4 s0 : Int) : Option (Mem) :=
  if s0 = 0 then (p_X2_survey_47 K3 h t  l2 l3 l4 s0 l4 0) else (bd (p_X6_cellsSeen h t l4 l2) (fun r40 => p_X2_survey_47 K3 h t  l2 l3 l4 s0 l4 r40))
set_option maxRecDepth 20000 in
theorem q_X2_survey_23 (K3 : Mem → Int → Int → Int → Option (Mem)) (h : Mem) (t : Nat) (ht : IsT t)   (l2 l3 l4 s0 : Int) {X : Mem} (hK3 : ∀ (h : Mem) (l2 l3 l4 : Int), K3 h l2 l3 l4 = some X → E m_X2_survey none (fun r h' => r = none ∧ h' = X) 3 [some (vr 29), some (vr t), some (vi l2), some (vi l3), some (vi l4), none] [] h) (hf : p_X2_survey_23 K3 h t  l2 l3 l4 s0 = some X) : E m_X2_survey none (fun r h' => r = none ∧ h' = X) 23 [some (vr 29), some (vr t), some (vi l2), some (vi l3), some (vi l4), none] [vi s0] h := by
  unfold p_X2_survey_23 at hf
  refine e_istore (ls' := [some (vr 29), some (vr t), some (vi l2), some (vi l3), some (vi l4), some (vi s0)]) dX2_survey_23 (Nat.le_of_ble_eq_true rfl) rfl ?_
  refine e_aload_n dX2_survey_25 rfl ?_
  refine e_getR dX2_survey_26 rfl fl_124 rfl rfl ?_
  refine e_iload dX2_survey_29 rfl ?_
  refine e_iload dX2_survey_31 rfl ?_
  refine e_if_eq (tgt := 46) dX2_survey_33 (by decide) (fun c33 => ?_) (fun c33 => ?_)
  · replace hf := ifp hf c33
    refine e_iconst dX2_survey_46 ⟨by decide, by decide⟩ ?_
    exact e_mask [true, true, true, true, true, true] (q_X2_survey_47 K3 h t ht   l2 l3 l4 s0 l4 0 hK3 hf)
  · replace hf := ifn hf c33
    refine e_aload_n dX2_survey_36 rfl ?_
    refine e_iload dX2_survey_37 rfl ?_
    refine e_iload_n dX2_survey_39 rfl ?_
    obtain ⟨r40, e40, hf⟩ := bd_some hf
    refine e_callV2i dX2_survey_40 rfl lk_357 ⟨rfl, rfl, Nat.le_of_ble_eq_true rfl, Nat.le_of_ble_eq_true rfl⟩ ht.1 rfl (Nat.le_of_ble_eq_true rfl) (q_X6_cellsSeen h t ht l4 l2 e40) ?_
    refine e_goto (tgt := 47) dX2_survey_43 (by decide) ?_
    exact e_mask [true, true, true, true, true, true] (q_X2_survey_47 K3 h t ht   l2 l3 l4 s0 l4 r40 hK3 hf)
def p_X2_survey_3 (K3 : Mem → Int → Int → Int → Option (Mem)) (h : Mem) (t : Nat)  (l2 l3 l4 : Int) : Option (Mem) :=
  if 5 ≤ l4 then (p_X2_survey_77  h t  l3) else (if band (bshr l2 l4) 1 = 0 then (p_X2_survey_23 K3 h t  l2 l3 l4 0) else (p_X2_survey_23 K3 h t  l2 l3 l4 1))
set_option maxRecDepth 20000 in
theorem q_X2_survey_3 (K3 : Mem → Int → Int → Int → Option (Mem)) (h : Mem) (t : Nat) (ht : IsT t)   (l2 l3 l4 : Int) {X : Mem} (hK3 : ∀ (h : Mem) (l2 l3 l4 : Int), K3 h l2 l3 l4 = some X → E m_X2_survey none (fun r h' => r = none ∧ h' = X) 3 [some (vr 29), some (vr t), some (vi l2), some (vi l3), some (vi l4), none] [] h) (hf : p_X2_survey_3 K3 h t  l2 l3 l4 = some X) : E m_X2_survey none (fun r h' => r = none ∧ h' = X) 3 [some (vr 29), some (vr t), some (vi l2), some (vi l3), some (vi l4), none] [] h := by
  unfold p_X2_survey_3 at hf
  refine e_iload dX2_survey_3 rfl ?_
  refine e_iconst dX2_survey_5 ⟨by decide, by decide⟩ ?_
  refine e_icmp_ge (tgt := 77) dX2_survey_6 (by decide) (fun c6 => ?_) (fun c6 => ?_)
  · replace hf := ifp hf c6
    exact e_mask [true, true, false, true, false, false] (q_X2_survey_77  h t ht   l3  hf)
  · replace hf := ifn hf c6
    refine e_iload_n dX2_survey_9 rfl ?_
    refine e_iload dX2_survey_10 rfl ?_
    refine e_ishr dX2_survey_12 ?_
    refine e_iconst dX2_survey_13 ⟨by decide, by decide⟩ ?_
    refine e_iand dX2_survey_14 ?_
    refine e_if_eq (tgt := 22) dX2_survey_15 (by decide) (fun c15 => ?_) (fun c15 => ?_)
    · replace hf := ifp hf c15
      refine e_iconst dX2_survey_22 ⟨by decide, by decide⟩ ?_
      exact e_mask [true, true, true, true, true, false] (q_X2_survey_23 K3 h t ht   l2 l3 l4 0 hK3 hf)
    · replace hf := ifn hf c15
      refine e_iconst dX2_survey_18 ⟨by decide, by decide⟩ ?_
      refine e_goto (tgt := 23) dX2_survey_19 (by decide) ?_
      exact e_mask [true, true, true, true, true, false] (q_X2_survey_23 K3 h t ht   l2 l3 l4 1 hK3 hf)
def p_X2_survey_L3   (t : Nat)  : Nat → Mem → Int → Int → Int → Option (Mem)
  | 0, _, _, _, _ => none
  | n + 1, h, l2, l3, l4 => p_X2_survey_3 (fun (h : Mem) (l2 l3 l4 : Int) => p_X2_survey_L3   t  n h l2 l3 l4) h t  l2 l3 l4
theorem q_X2_survey_L3   (t : Nat) (ht : IsT t)   {X : Mem}  : ∀ (n : Nat) (h : Mem) (l2 l3 l4 : Int), p_X2_survey_L3   t  n h l2 l3 l4 = some X → E m_X2_survey none (fun r h' => r = none ∧ h' = X) 3 [some (vr 29), some (vr t), some (vi l2), some (vi l3), some (vi l4), none] [] h := by
  intro n
  induction n with
  | zero => intro h l2 l3 l4 hf; have hf2 : (none : Option (Mem)) = some X := hf; cases hf2
  | succ n ih => intro h l2 l3 l4 hf; exact q_X2_survey_3 (fun (h : Mem) (l2 l3 l4 : Int) => p_X2_survey_L3   t  n h l2 l3 l4) h t ht   l2 l3 l4 (fun h l2 l3 l4 hf => ih h l2 l3 l4 hf) hf
def p_X2_survey (h : Mem) (t : Nat) (l2 l3 : Int) : Option (Mem) :=
  p_X2_survey_L3   t  300 h l2 l3 0
set_option maxRecDepth 20000 in
theorem q_X2_survey (h : Mem) (t : Nat) (ht : IsT t) (l2 l3 : Int) {X : Mem} (hf : p_X2_survey h t l2 l3 = some X) : Cn m_X2_survey [vr 29, vr t, vi l2, vi l3] h (fun r h' => r = none ∧ h' = X) := by
  unfold p_X2_survey at hf
  have key : E m_X2_survey none (fun r h' => r = none ∧ h' = X) 0 [some (vr 29), some (vr t), some (vi l2), some (vi l3), none, none] [] h := by
    refine e_iconst dX2_survey_0 ⟨by decide, by decide⟩ ?_
    refine e_istore (ls' := [some (vr 29), some (vr t), some (vi l2), some (vi l3), some (vi 0), none]) dX2_survey_1 (Nat.le_of_ble_eq_true rfl) rfl ?_
    exact e_mask [true, true, true, true, true, false] (q_X2_survey_L3   t ht    300 h l2 l3 0 hf)
  exact Cn_of rfl (fun _ => Nat.le_of_ble_eq_true rfl) ⟨rfl, rfl⟩ (e_pad 2 key)
abbrev m_X2_holderOver : MI := (yX2_holderOver, cX2_holderOver, 2, some .int, { frames := 0, cells := 0, slots := 0, locals := 0 })
def p_X2_holderOver (h : Mem)  (l1 : Int) : Option (Int) :=
  if l1 < 0 then (some (-9)) else (if 10 ≤ l1 then (some (-9)) else (gd (0 ≤ l1 ∧ l1 < 10) (some (h 32 l1))))
set_option maxRecDepth 20000 in
theorem q_X2_holderOver (h : Mem)   (l1 : Int) {X : Int} (hf : p_X2_holderOver h  l1 = some X) : Cn m_X2_holderOver [vr 29, vi l1] h (fun r h' => r = some (vi X) ∧ h' = h) := by
  unfold p_X2_holderOver at hf
  have key : E m_X2_holderOver none (fun r h' => r = some (vi X) ∧ h' = h) 0 [some (vr 29), some (vi l1)] [] h := by
    refine e_iload_n dX2_holderOver_0 rfl ?_
    refine e_if_lt (tgt := 19) dX2_holderOver_1 (by decide) (fun c1 => ?_) (fun c1 => ?_)
    · replace hf := ifp hf c1
      refine e_bipush dX2_holderOver_19 ⟨by decide, by decide, by decide⟩ ?_
      obtain rfl := Option.some.inj hf
      exact e_ireturn dX2_holderOver_21 rfl ⟨rfl, rfl⟩
    · replace hf := ifn hf c1
      refine e_iload_n dX2_holderOver_4 rfl ?_
      refine e_bipush dX2_holderOver_5 ⟨by decide, by decide, by decide⟩ ?_
      refine e_icmp_ge (tgt := 19) dX2_holderOver_7 (by decide) (fun c7 => ?_) (fun c7 => ?_)
      · replace hf := ifp hf c7
        refine e_bipush dX2_holderOver_19 ⟨by decide, by decide, by decide⟩ ?_
        obtain rfl := Option.some.inj hf
        exact e_ireturn dX2_holderOver_21 rfl ⟨rfl, rfl⟩
      · replace hf := ifn hf c7
        refine e_aload_n dX2_holderOver_10 rfl ?_
        refine e_getR dX2_holderOver_11 rfl fl_126 rfl rfl ?_
        refine e_iload_n dX2_holderOver_14 rfl ?_
        obtain ⟨g15, hf⟩ := gd_some hf
        refine e_iald dX2_holderOver_15 rfl g15 ?_
        refine e_goto (tgt := 21) dX2_holderOver_16 (by decide) ?_
        obtain rfl := Option.some.inj hf
        exact e_ireturn dX2_holderOver_21 rfl ⟨rfl, rfl⟩
  exact Cn_of rfl (fun _ => Nat.le_of_ble_eq_true rfl) ⟨rfl, rfl⟩ (e_pad 0 key)
abbrev m_X2_payTo : MI := (yX2_payTo, cX2_payTo, 3, some .int, { frames := 1, cells := 0, slots := 0, locals := 17 })
def p_X2_payTo (h : Mem)  (l1 l2 : Int) : Option (Int) :=
  if l1 < 0 then (some 0) else (if 5 ≤ l1 then (some 0) else (gd (0 ≤ l1 ∧ l1 < 5) (some (bmax 0 (wr (l2 - (h 31 l1)))))))
set_option maxRecDepth 20000 in
theorem q_X2_payTo (h : Mem)   (l1 l2 : Int) {X : Int} (hf : p_X2_payTo h  l1 l2 = some X) : Cn m_X2_payTo [vr 29, vi l1, vi l2] h (fun r h' => r = some (vi X) ∧ h' = h) := by
  unfold p_X2_payTo at hf
  have key : E m_X2_payTo none (fun r h' => r = some (vi X) ∧ h' = h) 0 [some (vr 29), some (vi l1), some (vi l2)] [] h := by
    refine e_iload_n dX2_payTo_0 rfl ?_
    refine e_if_lt (tgt := 24) dX2_payTo_1 (by decide) (fun c1 => ?_) (fun c1 => ?_)
    · replace hf := ifp hf c1
      refine e_iconst dX2_payTo_24 ⟨by decide, by decide⟩ ?_
      obtain rfl := Option.some.inj hf
      exact e_ireturn dX2_payTo_25 rfl ⟨rfl, rfl⟩
    · replace hf := ifn hf c1
      refine e_iload_n dX2_payTo_4 rfl ?_
      refine e_iconst dX2_payTo_5 ⟨by decide, by decide⟩ ?_
      refine e_icmp_ge (tgt := 24) dX2_payTo_6 (by decide) (fun c6 => ?_) (fun c6 => ?_)
      · replace hf := ifp hf c6
        refine e_iconst dX2_payTo_24 ⟨by decide, by decide⟩ ?_
        obtain rfl := Option.some.inj hf
        exact e_ireturn dX2_payTo_25 rfl ⟨rfl, rfl⟩
      · replace hf := ifn hf c6
        refine e_iconst dX2_payTo_9 ⟨by decide, by decide⟩ ?_
        refine e_iload_n dX2_payTo_10 rfl ?_
        refine e_aload_n dX2_payTo_11 rfl ?_
        refine e_getR dX2_payTo_12 rfl fl_125 rfl rfl ?_
        refine e_iload_n dX2_payTo_15 rfl ?_
        obtain ⟨g16, hf⟩ := gd_some hf
        refine e_iald dX2_payTo_16 rfl g16 ?_
        refine e_isub dX2_payTo_17 ?_
        refine e_mmax dX2_payTo_18 rfl tw_408 ⟨tw_409, tw_11⟩ (Nat.le_of_ble_eq_true rfl) (Nat.le_of_ble_eq_true rfl) ?_
        refine e_goto (tgt := 25) dX2_payTo_21 (by decide) ?_
        obtain rfl := Option.some.inj hf
        exact e_ireturn dX2_payTo_25 rfl ⟨rfl, rfl⟩
  exact Cn_of rfl (fun _ => Nat.le_of_ble_eq_true rfl) ⟨rfl, rfl⟩ (e_pad 0 key)
theorem lk_398 : VLk "StarRight$Sight" 44 m_X4_cellAt 2 := ⟨tw_398, tw_375, tw_376, tw_3, tw_377, by decide +kernel⟩
theorem lk_399 : VLk "StarRight$Sight" 47 m_X2_holderOver 1 := ⟨tw_399, tw_386, tw_387, tw_6, tw_388, by decide +kernel⟩
theorem lk_400 : VLk "StarRight$Sight" 51 m_X4_worthOf 1 := ⟨tw_400, tw_401, tw_402, tw_3, tw_403, by decide +kernel⟩
theorem lk_404 : VLk "StarRight$Sight" 54 m_X2_payTo 2 := ⟨tw_404, tw_406, twp_10, tw_6, tw_407, by decide +kernel⟩
abbrev m_X2_payOf : MI := (yX2_payOf, cX2_payOf, 4, some .int, { frames := 2, cells := 0, slots := 0, locals := 44 })
def p_X2_payOf (h : Mem)  (l2 l3 : Int) : Option (Int) :=
  bd (p_X4_cellAt h l2 l3) (fun r5 => bd (p_X2_holderOver h r5) (fun r8 => bd (p_X4_worthOf h l2) (fun r13 => bd (p_X2_payTo h r8 r13) (fun r16 => some r16))))
set_option maxRecDepth 20000 in
theorem q_X2_payOf (h : Mem)   (l2 l3 : Int) {X : Int} (hf : p_X2_payOf h  l2 l3 = some X) : Cn m_X2_payOf [vr 29, vr 3, vi l2, vi l3] h (fun r h' => r = some (vi X) ∧ h' = h) := by
  unfold p_X2_payOf at hf
  have key : E m_X2_payOf none (fun r h' => r = some (vi X) ∧ h' = h) 0 [some (vr 29), some (vr 3), some (vi l2), some (vi l3)] [] h := by
    refine e_aload_n dX2_payOf_0 rfl ?_
    refine e_aload_n dX2_payOf_1 rfl ?_
    refine e_aload_n dX2_payOf_2 rfl ?_
    refine e_iload_n dX2_payOf_3 rfl ?_
    refine e_iload_n dX2_payOf_4 rfl ?_
    obtain ⟨r5, e5, hf⟩ := bd_some hf
    refine e_callV2i dX2_payOf_5 rfl lk_398 ⟨rfl, rfl, Nat.le_of_ble_eq_true rfl, Nat.le_of_ble_eq_true rfl⟩ rfl rfl (Nat.le_of_ble_eq_true rfl) (q_X4_cellAt h   l2 l3 e5) ?_
    obtain ⟨r8, e8, hf⟩ := bd_some hf
    refine e_callV1i dX2_payOf_8 rfl lk_399 ⟨rfl, rfl, Nat.le_of_ble_eq_true rfl, Nat.le_of_ble_eq_true rfl⟩ rfl rfl (Nat.le_of_ble_eq_true rfl) (q_X2_holderOver h   r5 e8) ?_
    refine e_aload_n dX2_payOf_11 rfl ?_
    refine e_iload_n dX2_payOf_12 rfl ?_
    obtain ⟨r13, e13, hf⟩ := bd_some hf
    refine e_callV1i dX2_payOf_13 rfl lk_400 ⟨rfl, rfl, Nat.le_of_ble_eq_true rfl, Nat.le_of_ble_eq_true rfl⟩ rfl rfl (Nat.le_of_ble_eq_true rfl) (q_X4_worthOf h   l2 e13) ?_
    obtain ⟨r16, e16, hf⟩ := bd_some hf
    refine e_callV2i dX2_payOf_16 rfl lk_404 ⟨rfl, rfl, Nat.le_of_ble_eq_true rfl, Nat.le_of_ble_eq_true rfl⟩ rfl rfl (Nat.le_of_ble_eq_true rfl) (q_X2_payTo h   r8 r13 e16) ?_
    obtain rfl := Option.some.inj hf
    exact e_ireturn dX2_payOf_19 rfl ⟨rfl, rfl⟩
  exact Cn_of rfl (fun _ => Nat.le_of_ble_eq_true rfl) ⟨rfl, rfl⟩ (e_pad 0 key)
abbrev m_X2_paidAt : MI := (yX2_paidAt, cX2_paidAt, 7, some .int, { frames := 2, cells := 0, slots := 0, locals := 44 })
def p_X2_paidAt_61 (K6 : Int → Int → Int → Int → Option (Int)) (h : Mem)   (l2 l3 l4 l5 : Int) : Option (Int) :=
  K6 l2 l3 l4 (wr (l5 + 1))
set_option maxRecDepth 20000 in
theorem q_X2_paidAt_61 (K6 : Int → Int → Int → Int → Option (Int)) (h : Mem)     (l2 l3 l4 l5 : Int) {X : Int} (hK6 : ∀ (l2 l3 l4 l5 : Int), K6 l2 l3 l4 l5 = some X → E m_X2_paidAt none (fun r h' => r = some (vi X) ∧ h' = h) 6 [some (vr 29), some (vr 3), some (vi l2), some (vi l3), some (vi l4), some (vi l5), none] [] h) (hf : p_X2_paidAt_61 K6 h   l2 l3 l4 l5 = some X) : E m_X2_paidAt none (fun r h' => r = some (vi X) ∧ h' = h) 61 [some (vr 29), some (vr 3), some (vi l2), some (vi l3), some (vi l4), some (vi l5), none] [] h := by
  unfold p_X2_paidAt_61 at hf
  refine e_iinc (ls' := [some (vr 29), some (vr 3), some (vi l2), some (vi l3), some (vi l4), some (vi (wr (l5 + 1))), none]) dX2_paidAt_61 rfl (Nat.le_of_ble_eq_true rfl) rfl ?_
  refine e_goto (tgt := 6) dX2_paidAt_64 (by decide) ?_
  exact e_mask [true, true, true, true, true, true, false] (hK6 l2 l3 l4 (wr (l5 + 1)) hf)
def p_X2_paidAt_6 (K6 : Int → Int → Int → Int → Option (Int)) (h : Mem)   (l2 l3 l4 l5 : Int) : Option (Int) :=
  if h 3 3 ≤ l5 then (some l4) else (bd (p_X4_cellAt h l5 l3) (fun r20 => bd (p_X2_holderOver h r20) (fun r23 => if r23 = (-9) then (p_X2_paidAt_61 K6 h   l2 l3 l4 l5) else (if band (bshr l2 r23) 1 = 0 then (p_X2_paidAt_61 K6 h   l2 l3 l4 l5) else (bd (p_X4_worthOf h l5) (fun r52 => bd (p_X2_payTo h r23 r52) (fun r55 => p_X2_paidAt_61 K6 h   l2 l3 (wr (l4 + r55)) l5)))))))
set_option maxRecDepth 20000 in
theorem q_X2_paidAt_6 (K6 : Int → Int → Int → Int → Option (Int)) (h : Mem)     (l2 l3 l4 l5 : Int) {X : Int} (hK6 : ∀ (l2 l3 l4 l5 : Int), K6 l2 l3 l4 l5 = some X → E m_X2_paidAt none (fun r h' => r = some (vi X) ∧ h' = h) 6 [some (vr 29), some (vr 3), some (vi l2), some (vi l3), some (vi l4), some (vi l5), none] [] h) (hf : p_X2_paidAt_6 K6 h   l2 l3 l4 l5 = some X) : E m_X2_paidAt none (fun r h' => r = some (vi X) ∧ h' = h) 6 [some (vr 29), some (vr 3), some (vi l2), some (vi l3), some (vi l4), some (vi l5), none] [] h := by
  unfold p_X2_paidAt_6 at hf
  refine e_iload dX2_paidAt_6 rfl ?_
  refine e_aload_n dX2_paidAt_8 rfl ?_
  refine e_getI (kz := 3) rfl dX2_paidAt_9 rfl fl_51 rfl rfl (Or.inl rfl) ?_
  refine e_icmp_ge (tgt := 67) dX2_paidAt_12 (by decide) (fun c12 => ?_) (fun c12 => ?_)
  · replace hf := ifp hf c12
    refine e_iload dX2_paidAt_67 rfl ?_
    obtain rfl := Option.some.inj hf
    exact e_ireturn dX2_paidAt_69 rfl ⟨rfl, rfl⟩
  · replace hf := ifn hf c12
    refine e_aload_n dX2_paidAt_15 rfl ?_
    refine e_aload_n dX2_paidAt_16 rfl ?_
    refine e_iload dX2_paidAt_17 rfl ?_
    refine e_iload_n dX2_paidAt_19 rfl ?_
    obtain ⟨r20, e20, hf⟩ := bd_some hf
    refine e_callV2i dX2_paidAt_20 rfl lk_398 ⟨rfl, rfl, Nat.le_of_ble_eq_true rfl, Nat.le_of_ble_eq_true rfl⟩ rfl rfl (Nat.le_of_ble_eq_true rfl) (q_X4_cellAt h   l5 l3 e20) ?_
    obtain ⟨r23, e23, hf⟩ := bd_some hf
    refine e_callV1i dX2_paidAt_23 rfl lk_399 ⟨rfl, rfl, Nat.le_of_ble_eq_true rfl, Nat.le_of_ble_eq_true rfl⟩ rfl rfl (Nat.le_of_ble_eq_true rfl) (q_X2_holderOver h   r20 e23) ?_
    refine e_istore (ls' := [some (vr 29), some (vr 3), some (vi l2), some (vi l3), some (vi l4), some (vi l5), some (vi r23)]) dX2_paidAt_26 (Nat.le_of_ble_eq_true rfl) rfl ?_
    refine e_iload dX2_paidAt_28 rfl ?_
    refine e_bipush dX2_paidAt_30 ⟨by decide, by decide, by decide⟩ ?_
    refine e_icmp_eq (tgt := 61) dX2_paidAt_32 (by decide) (fun c32 => ?_) (fun c32 => ?_)
    · replace hf := ifp hf c32
      exact e_mask [true, true, true, true, true, true, false] (q_X2_paidAt_61 K6 h     l2 l3 l4 l5 hK6 hf)
    · replace hf := ifn hf c32
      refine e_iload_n dX2_paidAt_35 rfl ?_
      refine e_iload dX2_paidAt_36 rfl ?_
      refine e_ishr dX2_paidAt_38 ?_
      refine e_iconst dX2_paidAt_39 ⟨by decide, by decide⟩ ?_
      refine e_iand dX2_paidAt_40 ?_
      refine e_if_eq (tgt := 61) dX2_paidAt_41 (by decide) (fun c41 => ?_) (fun c41 => ?_)
      · replace hf := ifp hf c41
        exact e_mask [true, true, true, true, true, true, false] (q_X2_paidAt_61 K6 h     l2 l3 l4 l5 hK6 hf)
      · replace hf := ifn hf c41
        refine e_iload dX2_paidAt_44 rfl ?_
        refine e_aload_n dX2_paidAt_46 rfl ?_
        refine e_iload dX2_paidAt_47 rfl ?_
        refine e_aload_n dX2_paidAt_49 rfl ?_
        refine e_iload dX2_paidAt_50 rfl ?_
        obtain ⟨r52, e52, hf⟩ := bd_some hf
        refine e_callV1i dX2_paidAt_52 rfl lk_400 ⟨rfl, rfl, Nat.le_of_ble_eq_true rfl, Nat.le_of_ble_eq_true rfl⟩ rfl rfl (Nat.le_of_ble_eq_true rfl) (q_X4_worthOf h   l5 e52) ?_
        obtain ⟨r55, e55, hf⟩ := bd_some hf
        refine e_callV2i dX2_paidAt_55 rfl lk_404 ⟨rfl, rfl, Nat.le_of_ble_eq_true rfl, Nat.le_of_ble_eq_true rfl⟩ rfl rfl (Nat.le_of_ble_eq_true rfl) (q_X2_payTo h   r23 r52 e55) ?_
        refine e_iadd dX2_paidAt_58 ?_
        refine e_istore (ls' := [some (vr 29), some (vr 3), some (vi l2), some (vi l3), some (vi (wr (l4 + r55))), some (vi l5), some (vi r23)]) dX2_paidAt_59 (Nat.le_of_ble_eq_true rfl) rfl ?_
        exact e_mask [true, true, true, true, true, true, false] (q_X2_paidAt_61 K6 h     l2 l3 (wr (l4 + r55)) l5 hK6 hf)
def p_X2_paidAt_L6  (h : Mem)   : Nat → Int → Int → Int → Int → Option (Int)
  | 0, _, _, _, _ => none
  | n + 1, l2, l3, l4, l5 => p_X2_paidAt_6 (fun (l2 l3 l4 l5 : Int) => p_X2_paidAt_L6  h   n l2 l3 l4 l5) h   l2 l3 l4 l5
theorem q_X2_paidAt_L6  (h : Mem)     {X : Int}  : ∀ (n : Nat) (l2 l3 l4 l5 : Int), p_X2_paidAt_L6  h   n l2 l3 l4 l5 = some X → E m_X2_paidAt none (fun r h' => r = some (vi X) ∧ h' = h) 6 [some (vr 29), some (vr 3), some (vi l2), some (vi l3), some (vi l4), some (vi l5), none] [] h := by
  intro n
  induction n with
  | zero => intro l2 l3 l4 l5 hf; have hf2 : (none : Option (Int)) = some X := hf; cases hf2
  | succ n ih => intro l2 l3 l4 l5 hf; exact q_X2_paidAt_6 (fun (l2 l3 l4 l5 : Int) => p_X2_paidAt_L6  h   n l2 l3 l4 l5) h     l2 l3 l4 l5 (fun l2 l3 l4 l5 hf => ih l2 l3 l4 l5 hf) hf
def p_X2_paidAt (h : Mem)  (l2 l3 : Int) : Option (Int) :=
  p_X2_paidAt_L6  h   300  l2 l3 0 0
set_option maxRecDepth 20000 in
theorem q_X2_paidAt (h : Mem)   (l2 l3 : Int) {X : Int} (hf : p_X2_paidAt h  l2 l3 = some X) : Cn m_X2_paidAt [vr 29, vr 3, vi l2, vi l3] h (fun r h' => r = some (vi X) ∧ h' = h) := by
  unfold p_X2_paidAt at hf
  have key : E m_X2_paidAt none (fun r h' => r = some (vi X) ∧ h' = h) 0 [some (vr 29), some (vr 3), some (vi l2), some (vi l3), none, none, none] [] h := by
    refine e_iconst dX2_paidAt_0 ⟨by decide, by decide⟩ ?_
    refine e_istore (ls' := [some (vr 29), some (vr 3), some (vi l2), some (vi l3), some (vi 0), none, none]) dX2_paidAt_1 (Nat.le_of_ble_eq_true rfl) rfl ?_
    refine e_iconst dX2_paidAt_3 ⟨by decide, by decide⟩ ?_
    refine e_istore (ls' := [some (vr 29), some (vr 3), some (vi l2), some (vi l3), some (vi 0), some (vi 0), none]) dX2_paidAt_4 (Nat.le_of_ble_eq_true rfl) rfl ?_
    exact e_mask [true, true, true, true, true, true, false] (q_X2_paidAt_L6  h      300  l2 l3 0 0 hf)
  exact Cn_of rfl (fun _ => Nat.le_of_ble_eq_true rfl) ⟨rfl, rfl⟩ (e_pad 3 key)
theorem lk_469 : VLk "StarRight$Sight" 69 m_X2_paidAt 3 := ⟨tw_469, tw_470, tw_471, tw_6, tw_472, by decide +kernel⟩
abbrev m_X2_takings : MI := (yX2_takings, cX2_takings, 7, some .int, { frames := 3, cells := 0, slots := 0, locals := 70 })
def p_X2_takings_6 (K6 : Int → Int → Int → Int → Option (Int)) (h : Mem) (t : Nat)  (l3 l4 l5 l6 : Int) : Option (Int) :=
  if l4 ≤ l6 then (some l5) else (if h t 7 = 0 then (bd (p_X2_paidAt h l3 (wr ((h t 6) + l6))) (fun r32 => K6 l3 l4 (wr (l5 + r32)) (wr (l6 + 1)))) else (some l5))
set_option maxRecDepth 20000 in
theorem q_X2_takings_6 (K6 : Int → Int → Int → Int → Option (Int)) (h : Mem) (t : Nat) (ht : IsT t)   (l3 l4 l5 l6 : Int) {X : Int} (hK6 : ∀ (l3 l4 l5 l6 : Int), K6 l3 l4 l5 l6 = some X → E m_X2_takings none (fun r h' => r = some (vi X) ∧ h' = h) 6 [some (vr 29), some (vr t), some (vr 3), some (vi l3), some (vi l4), some (vi l5), some (vi l6)] [] h) (hf : p_X2_takings_6 K6 h t  l3 l4 l5 l6 = some X) : E m_X2_takings none (fun r h' => r = some (vi X) ∧ h' = h) 6 [some (vr 29), some (vr t), some (vr 3), some (vi l3), some (vi l4), some (vi l5), some (vi l6)] [] h := by
  unfold p_X2_takings_6 at hf
  refine e_iload dX2_takings_6 rfl ?_
  refine e_iload dX2_takings_8 rfl ?_
  refine e_icmp_ge (tgt := 44) dX2_takings_10 (by decide) (fun c10 => ?_) (fun c10 => ?_)
  · replace hf := ifp hf c10
    refine e_iload dX2_takings_44 rfl ?_
    obtain rfl := Option.some.inj hf
    exact e_ireturn dX2_takings_46 rfl ⟨rfl, rfl⟩
  · replace hf := ifn hf c10
    refine e_aload_n dX2_takings_13 rfl ?_
    refine e_getI (kz := 7) rfl dX2_takings_14 rfl fl_84 ht.1 rfl (Or.inr rfl) ?_
    refine e_if_ne (tgt := 44) dX2_takings_17 (by decide) (fun c17 => ?_) (fun c17 => ?_)
    · replace hf := ifn hf c17
      refine e_iload dX2_takings_44 rfl ?_
      obtain rfl := Option.some.inj hf
      exact e_ireturn dX2_takings_46 rfl ⟨rfl, rfl⟩
    · replace hf := ifp hf c17
      refine e_iload dX2_takings_20 rfl ?_
      refine e_aload_n dX2_takings_22 rfl ?_
      refine e_aload_n dX2_takings_23 rfl ?_
      refine e_iload_n dX2_takings_24 rfl ?_
      refine e_aload_n dX2_takings_25 rfl ?_
      refine e_getI (kz := 6) rfl dX2_takings_26 rfl fl_81 ht.1 rfl (Or.inl rfl) ?_
      refine e_iload dX2_takings_29 rfl ?_
      refine e_iadd dX2_takings_31 ?_
      obtain ⟨r32, e32, hf⟩ := bd_some hf
      refine e_callV3i dX2_takings_32 rfl lk_469 ⟨rfl, rfl, Nat.le_of_ble_eq_true rfl, Nat.le_of_ble_eq_true rfl⟩ rfl rfl (Nat.le_of_ble_eq_true rfl) (q_X2_paidAt h   l3 (wr ((h t 6) + l6)) e32) ?_
      refine e_iadd dX2_takings_35 ?_
      refine e_istore (ls' := [some (vr 29), some (vr t), some (vr 3), some (vi l3), some (vi l4), some (vi (wr (l5 + r32))), some (vi l6)]) dX2_takings_36 (Nat.le_of_ble_eq_true rfl) rfl ?_
      refine e_iinc (ls' := [some (vr 29), some (vr t), some (vr 3), some (vi l3), some (vi l4), some (vi (wr (l5 + r32))), some (vi (wr (l6 + 1)))]) dX2_takings_38 rfl (Nat.le_of_ble_eq_true rfl) rfl ?_
      refine e_goto (tgt := 6) dX2_takings_41 (by decide) ?_
      exact e_mask [true, true, true, true, true, true, true] (hK6 l3 l4 (wr (l5 + r32)) (wr (l6 + 1)) hf)
def p_X2_takings_L6  (h : Mem) (t : Nat)  : Nat → Int → Int → Int → Int → Option (Int)
  | 0, _, _, _, _ => none
  | n + 1, l3, l4, l5, l6 => p_X2_takings_6 (fun (l3 l4 l5 l6 : Int) => p_X2_takings_L6  h t  n l3 l4 l5 l6) h t  l3 l4 l5 l6
theorem q_X2_takings_L6  (h : Mem) (t : Nat) (ht : IsT t)   {X : Int}  : ∀ (n : Nat) (l3 l4 l5 l6 : Int), p_X2_takings_L6  h t  n l3 l4 l5 l6 = some X → E m_X2_takings none (fun r h' => r = some (vi X) ∧ h' = h) 6 [some (vr 29), some (vr t), some (vr 3), some (vi l3), some (vi l4), some (vi l5), some (vi l6)] [] h := by
  intro n
  induction n with
  | zero => intro l3 l4 l5 l6 hf; have hf2 : (none : Option (Int)) = some X := hf; cases hf2
  | succ n ih => intro l3 l4 l5 l6 hf; exact q_X2_takings_6 (fun (l3 l4 l5 l6 : Int) => p_X2_takings_L6  h t  n l3 l4 l5 l6) h t ht   l3 l4 l5 l6 (fun l3 l4 l5 l6 hf => ih l3 l4 l5 l6 hf) hf
def p_X2_takings (h : Mem) (t : Nat) (l3 l4 : Int) : Option (Int) :=
  p_X2_takings_L6  h t  300  l3 l4 0 0
set_option maxRecDepth 20000 in
theorem q_X2_takings (h : Mem) (t : Nat) (ht : IsT t) (l3 l4 : Int) {X : Int} (hf : p_X2_takings h t l3 l4 = some X) : Cn m_X2_takings [vr 29, vr t, vr 3, vi l3, vi l4] h (fun r h' => r = some (vi X) ∧ h' = h) := by
  unfold p_X2_takings at hf
  have key : E m_X2_takings none (fun r h' => r = some (vi X) ∧ h' = h) 0 [some (vr 29), some (vr t), some (vr 3), some (vi l3), some (vi l4), none, none] [] h := by
    refine e_iconst dX2_takings_0 ⟨by decide, by decide⟩ ?_
    refine e_istore (ls' := [some (vr 29), some (vr t), some (vr 3), some (vi l3), some (vi l4), some (vi 0), none]) dX2_takings_1 (Nat.le_of_ble_eq_true rfl) rfl ?_
    refine e_iconst dX2_takings_3 ⟨by decide, by decide⟩ ?_
    refine e_istore (ls' := [some (vr 29), some (vr t), some (vr 3), some (vi l3), some (vi l4), some (vi 0), some (vi 0)]) dX2_takings_4 (Nat.le_of_ble_eq_true rfl) rfl ?_
    exact e_mask [true, true, true, true, true, true, true] (q_X2_takings_L6  h t ht    300  l3 l4 0 0 hf)
  exact Cn_of rfl (fun _ => Nat.le_of_ble_eq_true rfl) ⟨rfl, rfl⟩ (e_pad 2 key)
abbrev m_X2_cellsSeenBy : MI := (yX2_cellsSeenBy, cX2_cellsSeenBy, 4, some .int, { frames := 0, cells := 0, slots := 0, locals := 0 })
def p_X2_cellsSeenBy_26 (K4 : Int → Int → Int → Option (Int)) (h : Mem)   (l1 l2 l3 : Int) : Option (Int) :=
  K4 l1 l2 (wr (l3 + 1))
set_option maxRecDepth 20000 in
theorem q_X2_cellsSeenBy_26 (K4 : Int → Int → Int → Option (Int)) (h : Mem)     (l1 l2 l3 : Int) {X : Int} (hK4 : ∀ (l1 l2 l3 : Int), K4 l1 l2 l3 = some X → E m_X2_cellsSeenBy none (fun r h' => r = some (vi X) ∧ h' = h) 4 [some (vr 29), some (vi l1), some (vi l2), some (vi l3)] [] h) (hf : p_X2_cellsSeenBy_26 K4 h   l1 l2 l3 = some X) : E m_X2_cellsSeenBy none (fun r h' => r = some (vi X) ∧ h' = h) 26 [some (vr 29), some (vi l1), some (vi l2), some (vi l3)] [] h := by
  unfold p_X2_cellsSeenBy_26 at hf
  refine e_iinc (ls' := [some (vr 29), some (vi l1), some (vi l2), some (vi (wr (l3 + 1)))]) dX2_cellsSeenBy_26 rfl (Nat.le_of_ble_eq_true rfl) rfl ?_
  refine e_goto (tgt := 4) dX2_cellsSeenBy_29 (by decide) ?_
  exact e_mask [true, true, true, true] (hK4 l1 l2 (wr (l3 + 1)) hf)
def p_X2_cellsSeenBy_4 (K4 : Int → Int → Int → Option (Int)) (h : Mem)   (l1 l2 l3 : Int) : Option (Int) :=
  if 5 ≤ l3 then (some l2) else (if band (bshr l1 l3) 1 = 0 then (p_X2_cellsSeenBy_26 K4 h   l1 l2 l3) else (gd (0 ≤ l3 ∧ l3 < 5) (p_X2_cellsSeenBy_26 K4 h   l1 (bor l2 (h 30 l3)) l3)))
set_option maxRecDepth 20000 in
theorem q_X2_cellsSeenBy_4 (K4 : Int → Int → Int → Option (Int)) (h : Mem)     (l1 l2 l3 : Int) {X : Int} (hK4 : ∀ (l1 l2 l3 : Int), K4 l1 l2 l3 = some X → E m_X2_cellsSeenBy none (fun r h' => r = some (vi X) ∧ h' = h) 4 [some (vr 29), some (vi l1), some (vi l2), some (vi l3)] [] h) (hf : p_X2_cellsSeenBy_4 K4 h   l1 l2 l3 = some X) : E m_X2_cellsSeenBy none (fun r h' => r = some (vi X) ∧ h' = h) 4 [some (vr 29), some (vi l1), some (vi l2), some (vi l3)] [] h := by
  unfold p_X2_cellsSeenBy_4 at hf
  refine e_iload_n dX2_cellsSeenBy_4 rfl ?_
  refine e_iconst dX2_cellsSeenBy_5 ⟨by decide, by decide⟩ ?_
  refine e_icmp_ge (tgt := 32) dX2_cellsSeenBy_6 (by decide) (fun c6 => ?_) (fun c6 => ?_)
  · replace hf := ifp hf c6
    refine e_iload_n dX2_cellsSeenBy_32 rfl ?_
    obtain rfl := Option.some.inj hf
    exact e_ireturn dX2_cellsSeenBy_33 rfl ⟨rfl, rfl⟩
  · replace hf := ifn hf c6
    refine e_iload_n dX2_cellsSeenBy_9 rfl ?_
    refine e_iload_n dX2_cellsSeenBy_10 rfl ?_
    refine e_ishr dX2_cellsSeenBy_11 ?_
    refine e_iconst dX2_cellsSeenBy_12 ⟨by decide, by decide⟩ ?_
    refine e_iand dX2_cellsSeenBy_13 ?_
    refine e_if_eq (tgt := 26) dX2_cellsSeenBy_14 (by decide) (fun c14 => ?_) (fun c14 => ?_)
    · replace hf := ifp hf c14
      exact e_mask [true, true, true, true] (q_X2_cellsSeenBy_26 K4 h     l1 l2 l3 hK4 hf)
    · replace hf := ifn hf c14
      refine e_iload_n dX2_cellsSeenBy_17 rfl ?_
      refine e_aload_n dX2_cellsSeenBy_18 rfl ?_
      refine e_getR dX2_cellsSeenBy_19 rfl fl_124 rfl rfl ?_
      refine e_iload_n dX2_cellsSeenBy_22 rfl ?_
      obtain ⟨g23, hf⟩ := gd_some hf
      refine e_iald dX2_cellsSeenBy_23 rfl g23 ?_
      refine e_ior dX2_cellsSeenBy_24 ?_
      refine e_istore_n (ls' := [some (vr 29), some (vi l1), some (vi (bor l2 (h 30 l3))), some (vi l3)]) dX2_cellsSeenBy_25 (Nat.le_of_ble_eq_true rfl) rfl ?_
      exact e_mask [true, true, true, true] (q_X2_cellsSeenBy_26 K4 h     l1 (bor l2 (h 30 l3)) l3 hK4 hf)
def p_X2_cellsSeenBy_L4  (h : Mem)   : Nat → Int → Int → Int → Option (Int)
  | 0, _, _, _ => none
  | n + 1, l1, l2, l3 => p_X2_cellsSeenBy_4 (fun (l1 l2 l3 : Int) => p_X2_cellsSeenBy_L4  h   n l1 l2 l3) h   l1 l2 l3
theorem q_X2_cellsSeenBy_L4  (h : Mem)     {X : Int}  : ∀ (n : Nat) (l1 l2 l3 : Int), p_X2_cellsSeenBy_L4  h   n l1 l2 l3 = some X → E m_X2_cellsSeenBy none (fun r h' => r = some (vi X) ∧ h' = h) 4 [some (vr 29), some (vi l1), some (vi l2), some (vi l3)] [] h := by
  intro n
  induction n with
  | zero => intro l1 l2 l3 hf; have hf2 : (none : Option (Int)) = some X := hf; cases hf2
  | succ n ih => intro l1 l2 l3 hf; exact q_X2_cellsSeenBy_4 (fun (l1 l2 l3 : Int) => p_X2_cellsSeenBy_L4  h   n l1 l2 l3) h     l1 l2 l3 (fun l1 l2 l3 hf => ih l1 l2 l3 hf) hf
def p_X2_cellsSeenBy (h : Mem)  (l1 : Int) : Option (Int) :=
  p_X2_cellsSeenBy_L4  h   300  l1 0 0
set_option maxRecDepth 20000 in
theorem q_X2_cellsSeenBy (h : Mem)   (l1 : Int) {X : Int} (hf : p_X2_cellsSeenBy h  l1 = some X) : Cn m_X2_cellsSeenBy [vr 29, vi l1] h (fun r h' => r = some (vi X) ∧ h' = h) := by
  unfold p_X2_cellsSeenBy at hf
  have key : E m_X2_cellsSeenBy none (fun r h' => r = some (vi X) ∧ h' = h) 0 [some (vr 29), some (vi l1), none, none] [] h := by
    refine e_iconst dX2_cellsSeenBy_0 ⟨by decide, by decide⟩ ?_
    refine e_istore_n (ls' := [some (vr 29), some (vi l1), some (vi 0), none]) dX2_cellsSeenBy_1 (Nat.le_of_ble_eq_true rfl) rfl ?_
    refine e_iconst dX2_cellsSeenBy_2 ⟨by decide, by decide⟩ ?_
    refine e_istore_n (ls' := [some (vr 29), some (vi l1), some (vi 0), some (vi 0)]) dX2_cellsSeenBy_3 (Nat.le_of_ble_eq_true rfl) rfl ?_
    exact e_mask [true, true, true, true] (q_X2_cellsSeenBy_L4  h      300  l1 0 0 hf)
  exact Cn_of rfl (fun _ => Nat.le_of_ble_eq_true rfl) ⟨rfl, rfl⟩ (e_pad 2 key)
abbrev m_X2_holders : MI := (yX2_holders, cX2_holders, 8, some .int, { frames := 2, cells := 0, slots := 0, locals := 44 })
def p_X2_holders_66 (K6 : Int → Int → Int → Int → Option (Int)) (h : Mem)   (l2 l3 l4 l5 : Int) : Option (Int) :=
  K6 l2 l3 l4 (wr (l5 + 1))
set_option maxRecDepth 20000 in
theorem q_X2_holders_66 (K6 : Int → Int → Int → Int → Option (Int)) (h : Mem)     (l2 l3 l4 l5 : Int) {X : Int} (hK6 : ∀ (l2 l3 l4 l5 : Int), K6 l2 l3 l4 l5 = some X → E m_X2_holders none (fun r h' => r = some (vi X) ∧ h' = h) 6 [some (vr 29), some (vr 3), some (vi l2), some (vi l3), some (vi l4), some (vi l5), none, none] [] h) (hf : p_X2_holders_66 K6 h   l2 l3 l4 l5 = some X) : E m_X2_holders none (fun r h' => r = some (vi X) ∧ h' = h) 66 [some (vr 29), some (vr 3), some (vi l2), some (vi l3), some (vi l4), some (vi l5), none, none] [] h := by
  unfold p_X2_holders_66 at hf
  refine e_iinc (ls' := [some (vr 29), some (vr 3), some (vi l2), some (vi l3), some (vi l4), some (vi (wr (l5 + 1))), none, none]) dX2_holders_66 rfl (Nat.le_of_ble_eq_true rfl) rfl ?_
  refine e_goto (tgt := 6) dX2_holders_69 (by decide) ?_
  exact e_mask [true, true, true, true, true, true, false, false] (hK6 l2 l3 l4 (wr (l5 + 1)) hf)
def p_X2_holders_57 (K6 : Int → Int → Int → Int → Option (Int)) (K18 : Int → Int → Int → Int → Int → Option (Int)) (h : Mem)   (l2 l3 l5 l6 s0 s1 : Int) : Option (Int) :=
  K18 l2 l3 (bor s0 s1) l5 (wr (l6 + 1))
set_option maxRecDepth 20000 in
theorem q_X2_holders_57 (K6 : Int → Int → Int → Int → Option (Int)) (K18 : Int → Int → Int → Int → Int → Option (Int)) (h : Mem)     (l2 l3 l5 l6 s0 s1 : Int) {X : Int} (hK6 : ∀ (l2 l3 l4 l5 : Int), K6 l2 l3 l4 l5 = some X → E m_X2_holders none (fun r h' => r = some (vi X) ∧ h' = h) 6 [some (vr 29), some (vr 3), some (vi l2), some (vi l3), some (vi l4), some (vi l5), none, none] [] h) (hK18 : ∀ (l2 l3 l4 l5 l6 : Int), K18 l2 l3 l4 l5 l6 = some X → E m_X2_holders none (fun r h' => r = some (vi X) ∧ h' = h) 18 [some (vr 29), some (vr 3), some (vi l2), some (vi l3), some (vi l4), some (vi l5), some (vi l6), none] [] h) (hf : p_X2_holders_57 K6 K18 h   l2 l3 l5 l6 s0 s1 = some X) : E m_X2_holders none (fun r h' => r = some (vi X) ∧ h' = h) 57 [some (vr 29), some (vr 3), some (vi l2), some (vi l3), none, some (vi l5), some (vi l6), none] [vi s1, vi s0] h := by
  unfold p_X2_holders_57 at hf
  refine e_ior dX2_holders_57 ?_
  refine e_istore (ls' := [some (vr 29), some (vr 3), some (vi l2), some (vi l3), some (vi (bor s0 s1)), some (vi l5), some (vi l6), none]) dX2_holders_58 (Nat.le_of_ble_eq_true rfl) rfl ?_
  refine e_iinc (ls' := [some (vr 29), some (vr 3), some (vi l2), some (vi l3), some (vi (bor s0 s1)), some (vi l5), some (vi (wr (l6 + 1))), none]) dX2_holders_60 rfl (Nat.le_of_ble_eq_true rfl) rfl ?_
  refine e_goto (tgt := 18) dX2_holders_63 (by decide) ?_
  exact e_mask [true, true, true, true, true, true, true, false] (hK18 l2 l3 (bor s0 s1) l5 (wr (l6 + 1)) hf)
def p_X2_holders_18 (K6 : Int → Int → Int → Int → Option (Int)) (K18 : Int → Int → Int → Int → Int → Option (Int)) (h : Mem)   (l2 l3 l4 l5 l6 : Int) : Option (Int) :=
  if l3 ≤ l6 then (p_X2_holders_66 K6 h   l2 l3 l4 l5) else (bd (p_X4_cellAt h l5 (wr (l2 + l6))) (fun r32 => bd (p_X2_holderOver h r32) (fun r35 => if r35 = (-9) then (p_X2_holders_57 K6 K18 h   l2 l3 l5 l6 l4 0) else (p_X2_holders_57 K6 K18 h   l2 l3 l5 l6 l4 (bshl 1 r35)))))
set_option maxRecDepth 20000 in
theorem q_X2_holders_18 (K6 : Int → Int → Int → Int → Option (Int)) (K18 : Int → Int → Int → Int → Int → Option (Int)) (h : Mem)     (l2 l3 l4 l5 l6 : Int) {X : Int} (hK6 : ∀ (l2 l3 l4 l5 : Int), K6 l2 l3 l4 l5 = some X → E m_X2_holders none (fun r h' => r = some (vi X) ∧ h' = h) 6 [some (vr 29), some (vr 3), some (vi l2), some (vi l3), some (vi l4), some (vi l5), none, none] [] h) (hK18 : ∀ (l2 l3 l4 l5 l6 : Int), K18 l2 l3 l4 l5 l6 = some X → E m_X2_holders none (fun r h' => r = some (vi X) ∧ h' = h) 18 [some (vr 29), some (vr 3), some (vi l2), some (vi l3), some (vi l4), some (vi l5), some (vi l6), none] [] h) (hf : p_X2_holders_18 K6 K18 h   l2 l3 l4 l5 l6 = some X) : E m_X2_holders none (fun r h' => r = some (vi X) ∧ h' = h) 18 [some (vr 29), some (vr 3), some (vi l2), some (vi l3), some (vi l4), some (vi l5), some (vi l6), none] [] h := by
  unfold p_X2_holders_18 at hf
  refine e_iload dX2_holders_18 rfl ?_
  refine e_iload_n dX2_holders_20 rfl ?_
  refine e_icmp_ge (tgt := 66) dX2_holders_21 (by decide) (fun c21 => ?_) (fun c21 => ?_)
  · replace hf := ifp hf c21
    exact e_mask [true, true, true, true, true, true, false, false] (q_X2_holders_66 K6 h     l2 l3 l4 l5 hK6 hf)
  · replace hf := ifn hf c21
    refine e_aload_n dX2_holders_24 rfl ?_
    refine e_aload_n dX2_holders_25 rfl ?_
    refine e_iload dX2_holders_26 rfl ?_
    refine e_iload_n dX2_holders_28 rfl ?_
    refine e_iload dX2_holders_29 rfl ?_
    refine e_iadd dX2_holders_31 ?_
    obtain ⟨r32, e32, hf⟩ := bd_some hf
    refine e_callV2i dX2_holders_32 rfl lk_398 ⟨rfl, rfl, Nat.le_of_ble_eq_true rfl, Nat.le_of_ble_eq_true rfl⟩ rfl rfl (Nat.le_of_ble_eq_true rfl) (q_X4_cellAt h   l5 (wr (l2 + l6)) e32) ?_
    obtain ⟨r35, e35, hf⟩ := bd_some hf
    refine e_callV1i dX2_holders_35 rfl lk_399 ⟨rfl, rfl, Nat.le_of_ble_eq_true rfl, Nat.le_of_ble_eq_true rfl⟩ rfl rfl (Nat.le_of_ble_eq_true rfl) (q_X2_holderOver h   r32 e35) ?_
    refine e_istore (ls' := [some (vr 29), some (vr 3), some (vi l2), some (vi l3), some (vi l4), some (vi l5), some (vi l6), some (vi r35)]) dX2_holders_38 (Nat.le_of_ble_eq_true rfl) rfl ?_
    refine e_iload dX2_holders_40 rfl ?_
    refine e_iload dX2_holders_42 rfl ?_
    refine e_bipush dX2_holders_44 ⟨by decide, by decide, by decide⟩ ?_
    refine e_icmp_ne (tgt := 53) dX2_holders_46 (by decide) (fun c46 => ?_) (fun c46 => ?_)
    · replace hf := ifn hf c46
      refine e_iconst dX2_holders_53 ⟨by decide, by decide⟩ ?_
      refine e_iload dX2_holders_54 rfl ?_
      refine e_ishl dX2_holders_56 ?_
      exact e_mask [true, true, true, true, false, true, true, false] (q_X2_holders_57 K6 K18 h     l2 l3 l5 l6 l4 (bshl 1 r35) hK6 hK18 hf)
    · replace hf := ifp hf c46
      refine e_iconst dX2_holders_49 ⟨by decide, by decide⟩ ?_
      refine e_goto (tgt := 57) dX2_holders_50 (by decide) ?_
      exact e_mask [true, true, true, true, false, true, true, false] (q_X2_holders_57 K6 K18 h     l2 l3 l5 l6 l4 0 hK6 hK18 hf)
def p_X2_holders_L18 (K6 : Int → Int → Int → Int → Option (Int)) (h : Mem)   : Nat → Int → Int → Int → Int → Int → Option (Int)
  | 0, _, _, _, _, _ => none
  | n + 1, l2, l3, l4, l5, l6 => p_X2_holders_18 K6 (fun (l2 l3 l4 l5 l6 : Int) => p_X2_holders_L18 K6 h   n l2 l3 l4 l5 l6) h   l2 l3 l4 l5 l6
theorem q_X2_holders_L18 (K6 : Int → Int → Int → Int → Option (Int)) (h : Mem)     {X : Int} (hK6 : ∀ (l2 l3 l4 l5 : Int), K6 l2 l3 l4 l5 = some X → E m_X2_holders none (fun r h' => r = some (vi X) ∧ h' = h) 6 [some (vr 29), some (vr 3), some (vi l2), some (vi l3), some (vi l4), some (vi l5), none, none] [] h) : ∀ (n : Nat) (l2 l3 l4 l5 l6 : Int), p_X2_holders_L18 K6 h   n l2 l3 l4 l5 l6 = some X → E m_X2_holders none (fun r h' => r = some (vi X) ∧ h' = h) 18 [some (vr 29), some (vr 3), some (vi l2), some (vi l3), some (vi l4), some (vi l5), some (vi l6), none] [] h := by
  intro n
  induction n with
  | zero => intro l2 l3 l4 l5 l6 hf; have hf2 : (none : Option (Int)) = some X := hf; cases hf2
  | succ n ih => intro l2 l3 l4 l5 l6 hf; exact q_X2_holders_18 K6 (fun (l2 l3 l4 l5 l6 : Int) => p_X2_holders_L18 K6 h   n l2 l3 l4 l5 l6) h     l2 l3 l4 l5 l6 hK6 (fun l2 l3 l4 l5 l6 hf => ih l2 l3 l4 l5 l6 hf) hf
def p_X2_holders_6 (K6 : Int → Int → Int → Int → Option (Int)) (h : Mem)   (l2 l3 l4 l5 : Int) : Option (Int) :=
  if h 3 3 ≤ l5 then (some l4) else (p_X2_holders_L18 K6 h   300  l2 l3 l4 l5 0)
set_option maxRecDepth 20000 in
theorem q_X2_holders_6 (K6 : Int → Int → Int → Int → Option (Int)) (h : Mem)     (l2 l3 l4 l5 : Int) {X : Int} (hK6 : ∀ (l2 l3 l4 l5 : Int), K6 l2 l3 l4 l5 = some X → E m_X2_holders none (fun r h' => r = some (vi X) ∧ h' = h) 6 [some (vr 29), some (vr 3), some (vi l2), some (vi l3), some (vi l4), some (vi l5), none, none] [] h) (hf : p_X2_holders_6 K6 h   l2 l3 l4 l5 = some X) : E m_X2_holders none (fun r h' => r = some (vi X) ∧ h' = h) 6 [some (vr 29), some (vr 3), some (vi l2), some (vi l3), some (vi l4), some (vi l5), none, none] [] h := by
  unfold p_X2_holders_6 at hf
  refine e_iload dX2_holders_6 rfl ?_
  refine e_aload_n dX2_holders_8 rfl ?_
  refine e_getI (kz := 3) rfl dX2_holders_9 rfl fl_51 rfl rfl (Or.inl rfl) ?_
  refine e_icmp_ge (tgt := 72) dX2_holders_12 (by decide) (fun c12 => ?_) (fun c12 => ?_)
  · replace hf := ifp hf c12
    refine e_iload dX2_holders_72 rfl ?_
    obtain rfl := Option.some.inj hf
    exact e_ireturn dX2_holders_74 rfl ⟨rfl, rfl⟩
  · replace hf := ifn hf c12
    refine e_iconst dX2_holders_15 ⟨by decide, by decide⟩ ?_
    refine e_istore (ls' := [some (vr 29), some (vr 3), some (vi l2), some (vi l3), some (vi l4), some (vi l5), some (vi 0), none]) dX2_holders_16 (Nat.le_of_ble_eq_true rfl) rfl ?_
    exact e_mask [true, true, true, true, true, true, true, false] (q_X2_holders_L18 K6 h     hK6 300  l2 l3 l4 l5 0 hf)
def p_X2_holders_L6  (h : Mem)   : Nat → Int → Int → Int → Int → Option (Int)
  | 0, _, _, _, _ => none
  | n + 1, l2, l3, l4, l5 => p_X2_holders_6 (fun (l2 l3 l4 l5 : Int) => p_X2_holders_L6  h   n l2 l3 l4 l5) h   l2 l3 l4 l5
theorem q_X2_holders_L6  (h : Mem)     {X : Int}  : ∀ (n : Nat) (l2 l3 l4 l5 : Int), p_X2_holders_L6  h   n l2 l3 l4 l5 = some X → E m_X2_holders none (fun r h' => r = some (vi X) ∧ h' = h) 6 [some (vr 29), some (vr 3), some (vi l2), some (vi l3), some (vi l4), some (vi l5), none, none] [] h := by
  intro n
  induction n with
  | zero => intro l2 l3 l4 l5 hf; have hf2 : (none : Option (Int)) = some X := hf; cases hf2
  | succ n ih => intro l2 l3 l4 l5 hf; exact q_X2_holders_6 (fun (l2 l3 l4 l5 : Int) => p_X2_holders_L6  h   n l2 l3 l4 l5) h     l2 l3 l4 l5 (fun l2 l3 l4 l5 hf => ih l2 l3 l4 l5 hf) hf
def p_X2_holders (h : Mem)  (l2 l3 : Int) : Option (Int) :=
  p_X2_holders_L6  h   300  l2 l3 0 0
set_option maxRecDepth 20000 in
theorem q_X2_holders (h : Mem)   (l2 l3 : Int) {X : Int} (hf : p_X2_holders h  l2 l3 = some X) : Cn m_X2_holders [vr 29, vr 3, vi l2, vi l3] h (fun r h' => r = some (vi X) ∧ h' = h) := by
  unfold p_X2_holders at hf
  have key : E m_X2_holders none (fun r h' => r = some (vi X) ∧ h' = h) 0 [some (vr 29), some (vr 3), some (vi l2), some (vi l3), none, none, none, none] [] h := by
    refine e_iconst dX2_holders_0 ⟨by decide, by decide⟩ ?_
    refine e_istore (ls' := [some (vr 29), some (vr 3), some (vi l2), some (vi l3), some (vi 0), none, none, none]) dX2_holders_1 (Nat.le_of_ble_eq_true rfl) rfl ?_
    refine e_iconst dX2_holders_3 ⟨by decide, by decide⟩ ?_
    refine e_istore (ls' := [some (vr 29), some (vr 3), some (vi l2), some (vi l3), some (vi 0), some (vi 0), none, none]) dX2_holders_4 (Nat.le_of_ble_eq_true rfl) rfl ?_
    exact e_mask [true, true, true, true, true, true, false, false] (q_X2_holders_L6  h      300  l2 l3 0 0 hf)
  exact Cn_of rfl (fun _ => Nat.le_of_ble_eq_true rfl) ⟨rfl, rfl⟩ (e_pad 4 key)
