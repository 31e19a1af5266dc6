abbrev m_X6_clear : MI := (yX6_clear, cX6_clear, 2, none, { frames := 0, cells := 0, slots := 0, locals := 0 })
def p_X6_clear_22 (K22 : Mem → Int → Option (Mem)) (h : Mem) (t : Nat)  (l1 : Int) : Option (Mem) :=
  if 4 ≤ l1 then (some h) else (gd (0 ≤ l1 ∧ l1 < 4) (K22 (up h (t + 4) l1 0) (wr (l1 + 1))))
set_option maxRecDepth 20000 in
theorem q_X6_clear_22 (K22 : Mem → Int → Option (Mem)) (h : Mem) (t : Nat) (ht : IsT t)   (l1 : Int) {X : Mem} (hK22 : ∀ (h : Mem) (l1 : Int), K22 h l1 = some X → E m_X6_clear none (fun r h' => r = none ∧ h' = X) 22 [some (vr t), some (vi l1)] [] h) (hf : p_X6_clear_22 K22 h t  l1 = some X) : E m_X6_clear none (fun r h' => r = none ∧ h' = X) 22 [some (vr t), some (vi l1)] [] h := by
  unfold p_X6_clear_22 at hf
  refine e_iload_n dX6_clear_22 rfl ?_
  refine e_iconst dX6_clear_23 ⟨by decide, by decide⟩ ?_
  refine e_icmp_ge (tgt := 40) dX6_clear_24 (by decide) (fun c24 => ?_) (fun c24 => ?_)
  · replace hf := ifp hf c24
    obtain rfl := Option.some.inj hf
    exact e_return dX6_clear_40 rfl ⟨rfl, rfl⟩
  · replace hf := ifn hf c24
    refine e_aload_n dX6_clear_27 rfl ?_
    refine e_getR dX6_clear_28 rfl fl_73 ht.1 rfl ?_
    refine e_iload_n dX6_clear_31 rfl ?_
    refine e_iconst dX6_clear_32 ⟨by decide, by decide⟩ ?_
    obtain ⟨g33, hf⟩ := gd_some hf
    refine e_iast dX6_clear_33 ht.2.2.2.2 g33 ?_
    refine e_iinc (ls' := [some (vr t), some (vi (wr (l1 + 1)))]) dX6_clear_34 rfl (Nat.le_of_ble_eq_true rfl) rfl ?_
    refine e_goto (tgt := 22) dX6_clear_37 (by decide) ?_
    exact e_mask [true, true] (hK22 (up h (t + 4) l1 0) (wr (l1 + 1)) hf)
def p_X6_clear_L22   (t : Nat)  : Nat → Mem → Int → Option (Mem)
  | 0, _, _ => none
  | n + 1, h, l1 => p_X6_clear_22 (fun (h : Mem) (l1 : Int) => p_X6_clear_L22   t  n h l1) h t  l1
theorem q_X6_clear_L22   (t : Nat) (ht : IsT t)   {X : Mem}  : ∀ (n : Nat) (h : Mem) (l1 : Int), p_X6_clear_L22   t  n h l1 = some X → E m_X6_clear none (fun r h' => r = none ∧ h' = X) 22 [some (vr t), some (vi l1)] [] h := by
  intro n
  induction n with
  | zero => intro h l1 hf; have hf2 : (none : Option (Mem)) = some X := hf; cases hf2
  | succ n ih => intro h l1 hf; exact q_X6_clear_22 (fun (h : Mem) (l1 : Int) => p_X6_clear_L22   t  n h l1) h t ht   l1 (fun h l1 hf => ih h l1 hf) hf
def p_X6_clear (h : Mem) (t : Nat)  : Option (Mem) :=
  p_X6_clear_L22   t  300 (up (up (up (up h t 4 0) t 5 0) t 6 0) t 7 0) 0
set_option maxRecDepth 20000 in
theorem q_X6_clear (h : Mem) (t : Nat) (ht : IsT t)  {X : Mem} (hf : p_X6_clear h t  = some X) : Cn m_X6_clear [vr t] h (fun r h' => r = none ∧ h' = X) := by
  unfold p_X6_clear at hf
  have key : E m_X6_clear none (fun r h' => r = none ∧ h' = X) 0 [some (vr t), none] [] h := by
    refine e_aload_n dX6_clear_0 rfl ?_
    refine e_iconst dX6_clear_1 ⟨by decide, by decide⟩ ?_
    refine e_putI (t := 0) (kz := 4) rfl dX6_clear_2 rfl fp_75 ht.1 rfl (Or.inl rfl) ?_
    refine e_aload_n dX6_clear_5 rfl ?_
    refine e_iconst dX6_clear_6 ⟨by decide, by decide⟩ ?_
    refine e_putI (t := 0) (kz := 5) rfl dX6_clear_7 rfl fp_77 ht.1 rfl (Or.inl rfl) ?_
    refine e_aload_n dX6_clear_10 rfl ?_
    refine e_iconst dX6_clear_11 ⟨by decide, by decide⟩ ?_
    refine e_putI (t := 0) (kz := 6) rfl dX6_clear_12 rfl fp_79 ht.1 rfl (Or.inl rfl) ?_
    refine e_aload_n dX6_clear_15 rfl ?_
    refine e_iconst dX6_clear_16 ⟨by decide, by decide⟩ ?_
    refine e_putI (t := 2) (kz := 7) rfl dX6_clear_17 rfl fp_82 ht.1 rfl (Or.inr ⟨rfl, by decide⟩) ?_
    refine e_iconst dX6_clear_20 ⟨by decide, by decide⟩ ?_
    refine e_istore_n (ls' := [some (vr t), some (vi 0)]) dX6_clear_21 (Nat.le_of_ble_eq_true rfl) rfl ?_
    exact e_mask [true, true] (q_X6_clear_L22   t ht    300 (up (up (up (up h t 4 0) t 5 0) t 6 0) t 7 0) 0 hf)
  exact Cn_of rfl (fun _ => Nat.le_of_ble_eq_true rfl) ⟨rfl, rfl⟩ (e_pad 1 key)
abbrev m_X6_addRoof : MI := (yX6_addRoof, cX6_addRoof, 5, none, { frames := 0, cells := 0, slots := 0, locals := 0 })
def p_X6_addRoof_39  (h : Mem) (t : Nat)  (l3 : Int) : Option (Mem) :=
  some (up (up h t 5 (bor (h t 5) (bshl l3 (h t 4)))) t 4 (wr (((up h t 5 (bor (h t 5) (bshl l3 (h t 4)))) t 4) + 1)))
set_option maxRecDepth 20000 in
theorem q_X6_addRoof_39  (h : Mem) (t : Nat) (ht : IsT t)   (l3 : Int) {X : Mem}  (hf : p_X6_addRoof_39  h t  l3 = some X) : E m_X6_addRoof none (fun r h' => r = none ∧ h' = X) 39 [some (vr t), none, none, some (vi l3), none] [] h := by
  unfold p_X6_addRoof_39 at hf
  refine e_aload_n dX6_addRoof_39 rfl ?_
  refine e_dup dX6_addRoof_40 (fun _ => rfl) ?_
  refine e_getI (kz := 5) rfl dX6_addRoof_41 rfl fl_77 ht.1 rfl (Or.inl rfl) ?_
  refine e_iload_n dX6_addRoof_44 rfl ?_
  refine e_aload_n dX6_addRoof_45 rfl ?_
  refine e_getI (kz := 4) rfl dX6_addRoof_46 rfl fl_75 ht.1 rfl (Or.inl rfl) ?_
  refine e_ishl dX6_addRoof_49 ?_
  refine e_ior dX6_addRoof_50 ?_
  refine e_putI (t := 0) (kz := 5) rfl dX6_addRoof_51 rfl fp_77 ht.1 rfl (Or.inl rfl) ?_
  refine e_aload_n dX6_addRoof_54 rfl ?_
  refine e_dup dX6_addRoof_55 (fun _ => rfl) ?_
  refine e_getI (kz := 4) rfl dX6_addRoof_56 rfl fl_75 ht.1 rfl (Or.inl rfl) ?_
  refine e_iconst dX6_addRoof_59 ⟨by decide, by decide⟩ ?_
  refine e_iadd dX6_addRoof_60 ?_
  refine e_putI (t := 0) (kz := 4) rfl dX6_addRoof_61 rfl fp_75 ht.1 rfl (Or.inl rfl) ?_
  obtain rfl := Option.some.inj hf
  exact e_return dX6_addRoof_64 rfl ⟨rfl, rfl⟩
def p_X6_addRoof (h : Mem) (t : Nat) (l1 l2 l3 l4 : Int) : Option (Mem) :=
  if 5 ≤ h t 4 then (some h) else (gd (0 ≤ h t 4 ∧ h t 4 < 5) (gd (0 ≤ (up h (t + 1) (h t 4) l1) t 4 ∧ (up h (t + 1) (h t 4) l1) t 4 < 5) (gd (0 ≤ (up (up h (t + 1) (h t 4) l1) (t + 2) ((up h (t + 1) (h t 4) l1) t 4) l2) t 4 ∧ (up (up h (t + 1) (h t 4) l1) (t + 2) ((up h (t + 1) (h t 4) l1) t 4) l2) t 4 < 5) (p_X6_addRoof_39  (up (up (up h (t + 1) (h t 4) l1) (t + 2) ((up h (t + 1) (h t 4) l1) t 4) l2) (t + 3) ((up (up h (t + 1) (h t 4) l1) (t + 2) ((up h (t + 1) (h t 4) l1) t 4) l2) t 4) l4) t  l3))))
set_option maxRecDepth 20000 in
theorem q_X6_addRoof (h : Mem) (t : Nat) (ht : IsT t) (l1 l2 l3 l4 : Int) {X : Mem} (hf : p_X6_addRoof h t l1 l2 l3 l4 = some X) : Cn m_X6_addRoof [vr t, vi l1, vi l2, vi l3, vi l4] h (fun r h' => r = none ∧ h' = X) := by
  unfold p_X6_addRoof at hf
  have key : E m_X6_addRoof none (fun r h' => r = none ∧ h' = X) 0 [some (vr t), some (vi l1), some (vi l2), some (vi l3), some (vi l4)] [] h := by
    refine e_aload_n dX6_addRoof_0 rfl ?_
    refine e_getI (kz := 4) rfl dX6_addRoof_1 rfl fl_75 ht.1 rfl (Or.inl rfl) ?_
    refine e_iconst dX6_addRoof_4 ⟨by decide, by decide⟩ ?_
    refine e_icmp_ge (tgt := 64) dX6_addRoof_5 (by decide) (fun c5 => ?_) (fun c5 => ?_)
    · replace hf := ifp hf c5
      obtain rfl := Option.some.inj hf
      exact e_return dX6_addRoof_64 rfl ⟨rfl, rfl⟩
    · replace hf := ifn hf c5
      refine e_aload_n dX6_addRoof_8 rfl ?_
      refine e_getR dX6_addRoof_9 rfl fl_67 ht.1 rfl ?_
      refine e_aload_n dX6_addRoof_12 rfl ?_
      refine e_getI (kz := 4) rfl dX6_addRoof_13 rfl fl_75 ht.1 rfl (Or.inl rfl) ?_
      refine e_iload_n dX6_addRoof_16 rfl ?_
      obtain ⟨g17, hf⟩ := gd_some hf
      refine e_iast dX6_addRoof_17 ht.2.1 g17 ?_
      refine e_aload_n dX6_addRoof_18 rfl ?_
      refine e_getR dX6_addRoof_19 rfl fl_69 ht.1 rfl ?_
      refine e_aload_n dX6_addRoof_22 rfl ?_
      refine e_getI (kz := 4) rfl dX6_addRoof_23 rfl fl_75 ht.1 rfl (Or.inl rfl) ?_
      refine e_iload_n dX6_addRoof_26 rfl ?_
      obtain ⟨g27, hf⟩ := gd_some hf
      refine e_iast dX6_addRoof_27 ht.2.2.1 g27 ?_
      refine e_aload_n dX6_addRoof_28 rfl ?_
      refine e_getR dX6_addRoof_29 rfl fl_71 ht.1 rfl ?_
      refine e_aload_n dX6_addRoof_32 rfl ?_
      refine e_getI (kz := 4) rfl dX6_addRoof_33 rfl fl_75 ht.1 rfl (Or.inl rfl) ?_
      refine e_iload dX6_addRoof_36 rfl ?_
      obtain ⟨g38, hf⟩ := gd_some hf
      refine e_iast dX6_addRoof_38 ht.2.2.2.1 g38 ?_
      exact e_mask [true, false, false, true, false] (q_X6_addRoof_39  (up (up (up h (t + 1) (h t 4) l1) (t + 2) ((up h (t + 1) (h t 4) l1) t 4) l2) (t + 3) ((up (up h (t + 1) (h t 4) l1) (t + 2) ((up h (t + 1) (h t 4) l1) t 4) l2) t 4) l4) t ht   l3  hf)
  exact Cn_of rfl (fun _ => Nat.le_of_ble_eq_true rfl) ⟨rfl, rfl⟩ (e_pad 0 key)
abbrev m_X6_everyRoof : MI := (yX6_everyRoof, cX6_everyRoof, 1, some .int, { frames := 0, cells := 0, slots := 0, locals := 0 })
def p_X6_everyRoof (h : Mem) (t : Nat)  : Option (Int) :=
  some (wr ((bshl 1 (h t 4)) - 1))
set_option maxRecDepth 20000 in
theorem q_X6_everyRoof (h : Mem) (t : Nat) (ht : IsT t)  {X : Int} (hf : p_X6_everyRoof h t  = some X) : Cn m_X6_everyRoof [vr t] h (fun r h' => r = some (vi X) ∧ h' = h) := by
  unfold p_X6_everyRoof at hf
  have key : E m_X6_everyRoof none (fun r h' => r = some (vi X) ∧ h' = h) 0 [some (vr t)] [] h := by
    refine e_iconst dX6_everyRoof_0 ⟨by decide, by decide⟩ ?_
    refine e_aload_n dX6_everyRoof_1 rfl ?_
    refine e_getI (kz := 4) rfl dX6_everyRoof_2 rfl fl_75 ht.1 rfl (Or.inl rfl) ?_
    refine e_ishl dX6_everyRoof_5 ?_
    refine e_iconst dX6_everyRoof_6 ⟨by decide, by decide⟩ ?_
    refine e_isub dX6_everyRoof_7 ?_
    obtain rfl := Option.some.inj hf
    exact e_ireturn dX6_everyRoof_8 rfl ⟨rfl, rfl⟩
  exact Cn_of rfl (fun _ => Nat.le_of_ble_eq_true rfl) ⟨rfl, rfl⟩ (e_pad 0 key)
abbrev m_X6_hasRoof : MI := (yX6_hasRoof, cX6_hasRoof, 2, some .boolean, { frames := 0, cells := 0, slots := 0, locals := 0 })
def p_X6_hasRoof (h : Mem) (t : Nat) (l1 : Int) : Option (Int) :=
  if l1 < 0 then (some 0) else (if h t 4 ≤ l1 then (some 0) else (if 5 ≤ l1 then (some 0) else (some 1)))
set_option maxRecDepth 20000 in
theorem q_X6_hasRoof (h : Mem) (t : Nat) (ht : IsT t) (l1 : Int) {X : Int} (hf : p_X6_hasRoof h t l1 = some X) : Cn m_X6_hasRoof [vr t, vi l1] h (fun r h' => r = some (vi X) ∧ h' = h) := by
  unfold p_X6_hasRoof at hf
  have key : E m_X6_hasRoof none (fun r h' => r = some (vi X) ∧ h' = h) 0 [some (vr t), some (vi l1)] [] h := by
    refine e_iload_n dX6_hasRoof_0 rfl ?_
    refine e_if_lt (tgt := 21) dX6_hasRoof_1 (by decide) (fun c1 => ?_) (fun c1 => ?_)
    · replace hf := ifp hf c1
      refine e_iconst dX6_hasRoof_21 ⟨by decide, by decide⟩ ?_
      obtain rfl := Option.some.inj hf
      exact e_zreturn dX6_hasRoof_22 rfl (by decide) ⟨rfl, rfl⟩
    · replace hf := ifn hf c1
      refine e_iload_n dX6_hasRoof_4 rfl ?_
      refine e_aload_n dX6_hasRoof_5 rfl ?_
      refine e_getI (kz := 4) rfl dX6_hasRoof_6 rfl fl_75 ht.1 rfl (Or.inl rfl) ?_
      refine e_icmp_ge (tgt := 21) dX6_hasRoof_9 (by decide) (fun c9 => ?_) (fun c9 => ?_)
      · replace hf := ifp hf c9
        refine e_iconst dX6_hasRoof_21 ⟨by decide, by decide⟩ ?_
        obtain rfl := Option.some.inj hf
        exact e_zreturn dX6_hasRoof_22 rfl (by decide) ⟨rfl, rfl⟩
      · replace hf := ifn hf c9
        refine e_iload_n dX6_hasRoof_12 rfl ?_
        refine e_iconst dX6_hasRoof_13 ⟨by decide, by decide⟩ ?_
        refine e_icmp_ge (tgt := 21) dX6_hasRoof_14 (by decide) (fun c14 => ?_) (fun c14 => ?_)
        · replace hf := ifp hf c14
          refine e_iconst dX6_hasRoof_21 ⟨by decide, by decide⟩ ?_
          obtain rfl := Option.some.inj hf
          exact e_zreturn dX6_hasRoof_22 rfl (by decide) ⟨rfl, rfl⟩
        · replace hf := ifn hf c14
          refine e_iconst dX6_hasRoof_17 ⟨by decide, by decide⟩ ?_
          refine e_goto (tgt := 22) dX6_hasRoof_18 (by decide) ?_
          obtain rfl := Option.some.inj hf
          exact e_zreturn dX6_hasRoof_22 rfl (by decide) ⟨rfl, rfl⟩
  exact Cn_of rfl (fun _ => Nat.le_of_ble_eq_true rfl) ⟨rfl, rfl⟩ (e_pad 0 key)
theorem lk_328 : VLk "StarRight$Town" 44 m_X6_hasRoof 1 := ⟨tw_328, tw_329, tw_330, tw_4, tw_331, by decide +kernel⟩
abbrev m_X6_distance : MI := (yX6_distance, cX6_distance, 3, some .int, { frames := 1, cells := 0, slots := 0, locals := 21 })
def p_X6_distance (h : Mem) (t : Nat) (l1 l2 : Int) : Option (Int) :=
  bd (p_X6_hasRoof h t l1) (fun r2 => if r2 = 0 then (some 10) else (gd (0 ≤ l1 ∧ l1 < 5) (some (babs (wr ((h (t + 1) l1) - l2))))))
set_option maxRecDepth 20000 in
theorem q_X6_distance (h : Mem) (t : Nat) (ht : IsT t) (l1 l2 : Int) {X : Int} (hf : p_X6_distance h t l1 l2 = some X) : Cn m_X6_distance [vr t, vi l1, vi l2] h (fun r h' => r = some (vi X) ∧ h' = h) := by
  unfold p_X6_distance at hf
  have key : E m_X6_distance none (fun r h' => r = some (vi X) ∧ h' = h) 0 [some (vr t), some (vi l1), some (vi l2)] [] h := by
    refine e_aload_n dX6_distance_0 rfl ?_
    refine e_iload_n dX6_distance_1 rfl ?_
    obtain ⟨r2, e2, hf⟩ := bd_some hf
    refine e_callV1i dX6_distance_2 rfl lk_328 ⟨rfl, rfl, Nat.le_of_ble_eq_true rfl, Nat.le_of_ble_eq_true rfl⟩ ht.1 rfl (Nat.le_of_ble_eq_true rfl) (q_X6_hasRoof h t ht l1 e2) ?_
    refine e_if_eq (tgt := 22) dX6_distance_5 (by decide) (fun c5 => ?_) (fun c5 => ?_)
    · replace hf := ifp hf c5
      refine e_bipush dX6_distance_22 ⟨by decide, by decide, by decide⟩ ?_
      obtain rfl := Option.some.inj hf
      exact e_ireturn dX6_distance_24 rfl ⟨rfl, rfl⟩
    · replace hf := ifn hf c5
      refine e_aload_n dX6_distance_8 rfl ?_
      refine e_getR dX6_distance_9 rfl fl_67 ht.1 rfl ?_
      refine e_iload_n dX6_distance_12 rfl ?_
      obtain ⟨g13, hf⟩ := gd_some hf
      refine e_iald dX6_distance_13 ht.2.1 g13 ?_
      refine e_iload_n dX6_distance_14 rfl ?_
      refine e_isub dX6_distance_15 ?_
      refine e_mabs dX6_distance_16 rfl tw_336 ⟨tw_337, tw_11⟩ (Nat.le_of_ble_eq_true rfl) (Nat.le_of_ble_eq_true rfl) ?_
      refine e_goto (tgt := 24) dX6_distance_19 (by decide) ?_
      obtain rfl := Option.some.inj hf
      exact e_ireturn dX6_distance_24 rfl ⟨rfl, rfl⟩
  exact Cn_of rfl (fun _ => Nat.le_of_ble_eq_true rfl) ⟨rfl, rfl⟩ (e_pad 0 key)
theorem lk_332 : VLk "StarRight$Town" 62 m_X6_distance 2 := ⟨tw_332, tw_334, twp_6, tw_4, tw_335, by decide +kernel⟩
abbrev m_X6_isShaded : MI := (yX6_isShaded, cX6_isShaded, 5, some .boolean, { frames := 2, cells := 0, slots := 0, locals := 43 })
def p_X6_isShaded_71 (K12 : Int → Int → Int → Option (Int)) (h : Mem) (t : Nat)  (l1 l2 l3 : Int) : Option (Int) :=
  K12 l1 l2 (wr (l3 + 1))
set_option maxRecDepth 20000 in
theorem q_X6_isShaded_71 (K12 : Int → Int → Int → Option (Int)) (h : Mem) (t : Nat) (ht : IsT t)   (l1 l2 l3 : Int) {X : Int} (hK12 : ∀ (l1 l2 l3 : Int), K12 l1 l2 l3 = some X → E m_X6_isShaded none (fun r h' => r = some (vi X) ∧ h' = h) 12 [some (vr t), some (vi l1), some (vi l2), some (vi l3), none] [] h) (hf : p_X6_isShaded_71 K12 h t  l1 l2 l3 = some X) : E m_X6_isShaded none (fun r h' => r = some (vi X) ∧ h' = h) 71 [some (vr t), some (vi l1), some (vi l2), some (vi l3), none] [] h := by
  unfold p_X6_isShaded_71 at hf
  refine e_iinc (ls' := [some (vr t), some (vi l1), some (vi l2), some (vi (wr (l3 + 1))), none]) dX6_isShaded_71 rfl (Nat.le_of_ble_eq_true rfl) rfl ?_
  refine e_goto (tgt := 12) dX6_isShaded_74 (by decide) ?_
  exact e_mask [true, true, true, true, false] (hK12 l1 l2 (wr (l3 + 1)) hf)
def p_X6_isShaded_45 (K12 : Int → Int → Int → Option (Int)) (h : Mem) (t : Nat)  (l1 l2 l3 s0 : Int) : Option (Int) :=
  if s0 = 0 then (p_X6_isShaded_71 K12 h t  l1 l2 l3) else (gd (0 ≤ l3 ∧ l3 < 5) (gd (0 ≤ l1 ∧ l1 < 5) (if h (t + 2) l3 ≤ wr ((h (t + 2) l1) + 3) then (p_X6_isShaded_71 K12 h t  l1 l2 l3) else (some 1))))
set_option maxRecDepth 20000 in
theorem q_X6_isShaded_45 (K12 : Int → Int → Int → Option (Int)) (h : Mem) (t : Nat) (ht : IsT t)   (l1 l2 l3 s0 : Int) {X : Int} (hK12 : ∀ (l1 l2 l3 : Int), K12 l1 l2 l3 = some X → E m_X6_isShaded none (fun r h' => r = some (vi X) ∧ h' = h) 12 [some (vr t), some (vi l1), some (vi l2), some (vi l3), none] [] h) (hf : p_X6_isShaded_45 K12 h t  l1 l2 l3 s0 = some X) : E m_X6_isShaded none (fun r h' => r = some (vi X) ∧ h' = h) 45 [some (vr t), some (vi l1), some (vi l2), some (vi l3), none] [vi s0] h := by
  unfold p_X6_isShaded_45 at hf
  refine e_istore (ls' := [some (vr t), some (vi l1), some (vi l2), some (vi l3), some (vi s0)]) dX6_isShaded_45 (Nat.le_of_ble_eq_true rfl) rfl ?_
  refine e_iload dX6_isShaded_47 rfl ?_
  refine e_if_eq (tgt := 71) dX6_isShaded_49 (by decide) (fun c49 => ?_) (fun c49 => ?_)
  · replace hf := ifp hf c49
    exact e_mask [true, true, true, true, false] (q_X6_isShaded_71 K12 h t ht   l1 l2 l3 hK12 hf)
  · replace hf := ifn hf c49
    refine e_aload_n dX6_isShaded_52 rfl ?_
    refine e_getR dX6_isShaded_53 rfl fl_69 ht.1 rfl ?_
    refine e_iload_n dX6_isShaded_56 rfl ?_
    obtain ⟨g57, hf⟩ := gd_some hf
    refine e_iald dX6_isShaded_57 ht.2.2.1 g57 ?_
    refine e_aload_n dX6_isShaded_58 rfl ?_
    refine e_getR dX6_isShaded_59 rfl fl_69 ht.1 rfl ?_
    refine e_iload_n dX6_isShaded_62 rfl ?_
    obtain ⟨g63, hf⟩ := gd_some hf
    refine e_iald dX6_isShaded_63 ht.2.2.1 g63 ?_
    refine e_iconst dX6_isShaded_64 ⟨by decide, by decide⟩ ?_
    refine e_iadd dX6_isShaded_65 ?_
    refine e_icmp_le (tgt := 71) dX6_isShaded_66 (by decide) (fun c66 => ?_) (fun c66 => ?_)
    · replace hf := ifp hf c66
      exact e_mask [true, true, true, true, false] (q_X6_isShaded_71 K12 h t ht   l1 l2 l3 hK12 hf)
    · replace hf := ifn hf c66
      refine e_iconst dX6_isShaded_69 ⟨by decide, by decide⟩ ?_
      obtain rfl := Option.some.inj hf
      exact e_zreturn dX6_isShaded_70 rfl (by decide) ⟨rfl, rfl⟩
def p_X6_isShaded_44 (K12 : Int → Int → Int → Option (Int)) (h : Mem) (t : Nat)  (l1 l2 l3 : Int) : Option (Int) :=
  p_X6_isShaded_45 K12 h t  l1 l2 l3 0
set_option maxRecDepth 20000 in
theorem q_X6_isShaded_44 (K12 : Int → Int → Int → Option (Int)) (h : Mem) (t : Nat) (ht : IsT t)   (l1 l2 l3 : Int) {X : Int} (hK12 : ∀ (l1 l2 l3 : Int), K12 l1 l2 l3 = some X → E m_X6_isShaded none (fun r h' => r = some (vi X) ∧ h' = h) 12 [some (vr t), some (vi l1), some (vi l2), some (vi l3), none] [] h) (hf : p_X6_isShaded_44 K12 h t  l1 l2 l3 = some X) : E m_X6_isShaded none (fun r h' => r = some (vi X) ∧ h' = h) 44 [some (vr t), some (vi l1), some (vi l2), some (vi l3), none] [] h := by
  unfold p_X6_isShaded_44 at hf
  refine e_iconst dX6_isShaded_44 ⟨by decide, by decide⟩ ?_
  exact e_mask [true, true, true, true, false] (q_X6_isShaded_45 K12 h t ht   l1 l2 l3 0 hK12 hf)
def p_X6_isShaded_12 (K12 : Int → Int → Int → Option (Int)) (h : Mem) (t : Nat)  (l1 l2 l3 : Int) : Option (Int) :=
  if 5 ≤ l3 then (some 0) else (if band (bshr l2 l3) 1 = 0 then (p_X6_isShaded_44 K12 h t  l1 l2 l3) else (gd (0 ≤ l1 ∧ l1 < 5) (bd (p_X6_distance h t l3 (h (t + 1) l1)) (fun r33 => if r33 = 1 then (p_X6_isShaded_45 K12 h t  l1 l2 l3 1) else (p_X6_isShaded_44 K12 h t  l1 l2 l3)))))
set_option maxRecDepth 20000 in
theorem q_X6_isShaded_12 (K12 : Int → Int → Int → Option (Int)) (h : Mem) (t : Nat) (ht : IsT t)   (l1 l2 l3 : Int) {X : Int} (hK12 : ∀ (l1 l2 l3 : Int), K12 l1 l2 l3 = some X → E m_X6_isShaded none (fun r h' => r = some (vi X) ∧ h' = h) 12 [some (vr t), some (vi l1), some (vi l2), some (vi l3), none] [] h) (hf : p_X6_isShaded_12 K12 h t  l1 l2 l3 = some X) : E m_X6_isShaded none (fun r h' => r = some (vi X) ∧ h' = h) 12 [some (vr t), some (vi l1), some (vi l2), some (vi l3), none] [] h := by
  unfold p_X6_isShaded_12 at hf
  refine e_iload_n dX6_isShaded_12 rfl ?_
  refine e_iconst dX6_isShaded_13 ⟨by decide, by decide⟩ ?_
  refine e_icmp_ge (tgt := 77) dX6_isShaded_14 (by decide) (fun c14 => ?_) (fun c14 => ?_)
  · replace hf := ifp hf c14
    refine e_iconst dX6_isShaded_77 ⟨by decide, by decide⟩ ?_
    obtain rfl := Option.some.inj hf
    exact e_zreturn dX6_isShaded_78 rfl (by decide) ⟨rfl, rfl⟩
  · replace hf := ifn hf c14
    refine e_iload_n dX6_isShaded_17 rfl ?_
    refine e_iload_n dX6_isShaded_18 rfl ?_
    refine e_ishr dX6_isShaded_19 ?_
    refine e_iconst dX6_isShaded_20 ⟨by decide, by decide⟩ ?_
    refine e_iand dX6_isShaded_21 ?_
    refine e_if_eq (tgt := 44) dX6_isShaded_22 (by decide) (fun c22 => ?_) (fun c22 => ?_)
    · replace hf := ifp hf c22
      exact e_mask [true, true, true, true, false] (q_X6_isShaded_44 K12 h t ht   l1 l2 l3 hK12 hf)
    · replace hf := ifn hf c22
      refine e_aload_n dX6_isShaded_25 rfl ?_
      refine e_iload_n dX6_isShaded_26 rfl ?_
      refine e_aload_n dX6_isShaded_27 rfl ?_
      refine e_getR dX6_isShaded_28 rfl fl_67 ht.1 rfl ?_
      refine e_iload_n dX6_isShaded_31 rfl ?_
      obtain ⟨g32, hf⟩ := gd_some hf
      refine e_iald dX6_isShaded_32 ht.2.1 g32 ?_
      obtain ⟨r33, e33, hf⟩ := bd_some hf
      refine e_callV2i dX6_isShaded_33 rfl lk_332 ⟨rfl, rfl, Nat.le_of_ble_eq_true rfl, Nat.le_of_ble_eq_true rfl⟩ ht.1 rfl (Nat.le_of_ble_eq_true rfl) (q_X6_distance h t ht l3 (h (t + 1) l1) e33) ?_
      refine e_iconst dX6_isShaded_36 ⟨by decide, by decide⟩ ?_
      refine e_icmp_ne (tgt := 44) dX6_isShaded_37 (by decide) (fun c37 => ?_) (fun c37 => ?_)
      · replace hf := ifn hf c37
        exact e_mask [true, true, true, true, false] (q_X6_isShaded_44 K12 h t ht   l1 l2 l3 hK12 hf)
      · replace hf := ifp hf c37
        refine e_iconst dX6_isShaded_40 ⟨by decide, by decide⟩ ?_
        refine e_goto (tgt := 45) dX6_isShaded_41 (by decide) ?_
        exact e_mask [true, true, true, true, false] (q_X6_isShaded_45 K12 h t ht   l1 l2 l3 1 hK12 hf)
def p_X6_isShaded_L12  (h : Mem) (t : Nat)  : Nat → Int → Int → Int → Option (Int)
  | 0, _, _, _ => none
  | n + 1, l1, l2, l3 => p_X6_isShaded_12 (fun (l1 l2 l3 : Int) => p_X6_isShaded_L12  h t  n l1 l2 l3) h t  l1 l2 l3
theorem q_X6_isShaded_L12  (h : Mem) (t : Nat) (ht : IsT t)   {X : Int}  : ∀ (n : Nat) (l1 l2 l3 : Int), p_X6_isShaded_L12  h t  n l1 l2 l3 = some X → E m_X6_isShaded none (fun r h' => r = some (vi X) ∧ h' = h) 12 [some (vr t), some (vi l1), some (vi l2), some (vi l3), none] [] h := by
  intro n
  induction n with
  | zero => intro l1 l2 l3 hf; have hf2 : (none : Option (Int)) = some X := hf; cases hf2
  | succ n ih => intro l1 l2 l3 hf; exact q_X6_isShaded_12 (fun (l1 l2 l3 : Int) => p_X6_isShaded_L12  h t  n l1 l2 l3) h t ht   l1 l2 l3 (fun l1 l2 l3 hf => ih l1 l2 l3 hf) hf
def p_X6_isShaded (h : Mem) (t : Nat) (l1 l2 : Int) : Option (Int) :=
  bd (p_X6_hasRoof h t l1) (fun r2 => if r2 = 0 then (some 0) else (p_X6_isShaded_L12  h t  300  l1 l2 0))
set_option maxRecDepth 20000 in
theorem q_X6_isShaded (h : Mem) (t : Nat) (ht : IsT t) (l1 l2 : Int) {X : Int} (hf : p_X6_isShaded h t l1 l2 = some X) : Cn m_X6_isShaded [vr t, vi l1, vi l2] h (fun r h' => r = some (vi X) ∧ h' = h) := by
  unfold p_X6_isShaded at hf
  have key : E m_X6_isShaded none (fun r h' => r = some (vi X) ∧ h' = h) 0 [some (vr t), some (vi l1), some (vi l2), none, none] [] h := by
    refine e_aload_n dX6_isShaded_0 rfl ?_
    refine e_iload_n dX6_isShaded_1 rfl ?_
    obtain ⟨r2, e2, hf⟩ := bd_some hf
    refine e_callV1i dX6_isShaded_2 rfl lk_328 ⟨rfl, rfl, Nat.le_of_ble_eq_true rfl, Nat.le_of_ble_eq_true rfl⟩ ht.1 rfl (Nat.le_of_ble_eq_true rfl) (q_X6_hasRoof h t ht l1 e2) ?_
    refine e_if_ne (tgt := 10) dX6_isShaded_5 (by decide) (fun c5 => ?_) (fun c5 => ?_)
    · replace hf := ifn hf c5
      refine e_iconst dX6_isShaded_10 ⟨by decide, by decide⟩ ?_
      refine e_istore_n (ls' := [some (vr t), some (vi l1), some (vi l2), some (vi 0), none]) dX6_isShaded_11 (Nat.le_of_ble_eq_true rfl) rfl ?_
      exact e_mask [true, true, true, true, false] (q_X6_isShaded_L12  h t ht    300  l1 l2 0 hf)
    · replace hf := ifp hf c5
      refine e_iconst dX6_isShaded_8 ⟨by decide, by decide⟩ ?_
      obtain rfl := Option.some.inj hf
      exact e_zreturn dX6_isShaded_9 rfl (by decide) ⟨rfl, rfl⟩
  exact Cn_of rfl (fun _ => Nat.le_of_ble_eq_true rfl) ⟨rfl, rfl⟩ (e_pad 2 key)
theorem lk_320 : VLk "StarRight$Town" 48 m_X6_everyRoof 0 := ⟨tw_320, tw_321, tw_322, tw_4, tw_323, by decide +kernel⟩
theorem lk_324 : VLk "StarRight$Town" 52 m_X6_isShaded 2 := ⟨tw_324, tw_326, twp_5, tw_4, tw_327, by decide +kernel⟩
abbrev m_X6_shadedRoofs : MI := (yX6_shadedRoofs, cX6_shadedRoofs, 3, some .int, { frames := 3, cells := 0, slots := 0, locals := 67 })
def p_X6_shadedRoofs_27 (K4 : Int → Int → Option (Int)) (h : Mem) (t : Nat)  (l1 l2 : Int) : Option (Int) :=
  K4 l1 (wr (l2 + 1))
set_option maxRecDepth 20000 in
theorem q_X6_shadedRoofs_27 (K4 : Int → Int → Option (Int)) (h : Mem) (t : Nat) (ht : IsT t)   (l1 l2 : Int) {X : Int} (hK4 : ∀ (l1 l2 : Int), K4 l1 l2 = some X → E m_X6_shadedRoofs none (fun r h' => r = some (vi X) ∧ h' = h) 4 [some (vr t), some (vi l1), some (vi l2)] [] h) (hf : p_X6_shadedRoofs_27 K4 h t  l1 l2 = some X) : E m_X6_shadedRoofs none (fun r h' => r = some (vi X) ∧ h' = h) 27 [some (vr t), some (vi l1), some (vi l2)] [] h := by
  unfold p_X6_shadedRoofs_27 at hf
  refine e_iinc (ls' := [some (vr t), some (vi l1), some (vi (wr (l2 + 1)))]) dX6_shadedRoofs_27 rfl (Nat.le_of_ble_eq_true rfl) rfl ?_
  refine e_goto (tgt := 4) dX6_shadedRoofs_30 (by decide) ?_
  exact e_mask [true, true, true] (hK4 l1 (wr (l2 + 1)) hf)
def p_X6_shadedRoofs_4 (K4 : Int → Int → Option (Int)) (h : Mem) (t : Nat)  (l1 l2 : Int) : Option (Int) :=
  if 5 ≤ l2 then (some l1) else (bd (p_X6_everyRoof h t) (fun r12 => bd (p_X6_isShaded h t l2 r12) (fun r15 => if r15 = 0 then (p_X6_shadedRoofs_27 K4 h t  l1 l2) else (p_X6_shadedRoofs_27 K4 h t  (bor l1 (bshl 1 l2)) l2))))
set_option maxRecDepth 20000 in
theorem q_X6_shadedRoofs_4 (K4 : Int → Int → Option (Int)) (h : Mem) (t : Nat) (ht : IsT t)   (l1 l2 : Int) {X : Int} (hK4 : ∀ (l1 l2 : Int), K4 l1 l2 = some X → E m_X6_shadedRoofs none (fun r h' => r = some (vi X) ∧ h' = h) 4 [some (vr t), some (vi l1), some (vi l2)] [] h) (hf : p_X6_shadedRoofs_4 K4 h t  l1 l2 = some X) : E m_X6_shadedRoofs none (fun r h' => r = some (vi X) ∧ h' = h) 4 [some (vr t), some (vi l1), some (vi l2)] [] h := by
  unfold p_X6_shadedRoofs_4 at hf
  refine e_iload_n dX6_shadedRoofs_4 rfl ?_
  refine e_iconst dX6_shadedRoofs_5 ⟨by decide, by decide⟩ ?_
  refine e_icmp_ge (tgt := 33) dX6_shadedRoofs_6 (by decide) (fun c6 => ?_) (fun c6 => ?_)
  · replace hf := ifp hf c6
    refine e_iload_n dX6_shadedRoofs_33 rfl ?_
    obtain rfl := Option.some.inj hf
    exact e_ireturn dX6_shadedRoofs_34 rfl ⟨rfl, rfl⟩
  · replace hf := ifn hf c6
    refine e_aload_n dX6_shadedRoofs_9 rfl ?_
    refine e_iload_n dX6_shadedRoofs_10 rfl ?_
    refine e_aload_n dX6_shadedRoofs_11 rfl ?_
    obtain ⟨r12, e12, hf⟩ := bd_some hf
    refine e_callV0i dX6_shadedRoofs_12 rfl lk_320 ⟨rfl, rfl, Nat.le_of_ble_eq_true rfl, Nat.le_of_ble_eq_true rfl⟩ ht.1 rfl (Nat.le_of_ble_eq_true rfl) (q_X6_everyRoof h t ht  e12) ?_
    obtain ⟨r15, e15, hf⟩ := bd_some hf
    refine e_callV2i dX6_shadedRoofs_15 rfl lk_324 ⟨rfl, rfl, Nat.le_of_ble_eq_true rfl, Nat.le_of_ble_eq_true rfl⟩ ht.1 rfl (Nat.le_of_ble_eq_true rfl) (q_X6_isShaded h t ht l2 r12 e15) ?_
    refine e_if_eq (tgt := 27) dX6_shadedRoofs_18 (by decide) (fun c18 => ?_) (fun c18 => ?_)
    · replace hf := ifp hf c18
      exact e_mask [true, true, true] (q_X6_shadedRoofs_27 K4 h t ht   l1 l2 hK4 hf)
    · replace hf := ifn hf c18
      refine e_iload_n dX6_shadedRoofs_21 rfl ?_
      refine e_iconst dX6_shadedRoofs_22 ⟨by decide, by decide⟩ ?_
      refine e_iload_n dX6_shadedRoofs_23 rfl ?_
      refine e_ishl dX6_shadedRoofs_24 ?_
      refine e_ior dX6_shadedRoofs_25 ?_
      refine e_istore_n (ls' := [some (vr t), some (vi (bor l1 (bshl 1 l2))), some (vi l2)]) dX6_shadedRoofs_26 (Nat.le_of_ble_eq_true rfl) rfl ?_
      exact e_mask [true, true, true] (q_X6_shadedRoofs_27 K4 h t ht   (bor l1 (bshl 1 l2)) l2 hK4 hf)
def p_X6_shadedRoofs_L4  (h : Mem) (t : Nat)  : Nat → Int → Int → Option (Int)
  | 0, _, _ => none
  | n + 1, l1, l2 => p_X6_shadedRoofs_4 (fun (l1 l2 : Int) => p_X6_shadedRoofs_L4  h t  n l1 l2) h t  l1 l2
theorem q_X6_shadedRoofs_L4  (h : Mem) (t : Nat) (ht : IsT t)   {X : Int}  : ∀ (n : Nat) (l1 l2 : Int), p_X6_shadedRoofs_L4  h t  n l1 l2 = some X → E m_X6_shadedRoofs none (fun r h' => r = some (vi X) ∧ h' = h) 4 [some (vr t), some (vi l1), some (vi l2)] [] h := by
  intro n
  induction n with
  | zero => intro l1 l2 hf; have hf2 : (none : Option (Int)) = some X := hf; cases hf2
  | succ n ih => intro l1 l2 hf; exact q_X6_shadedRoofs_4 (fun (l1 l2 : Int) => p_X6_shadedRoofs_L4  h t  n l1 l2) h t ht   l1 l2 (fun l1 l2 hf => ih l1 l2 hf) hf
def p_X6_shadedRoofs (h : Mem) (t : Nat)  : Option (Int) :=
  p_X6_shadedRoofs_L4  h t  300  0 0
set_option maxRecDepth 20000 in
theorem q_X6_shadedRoofs (h : Mem) (t : Nat) (ht : IsT t)  {X : Int} (hf : p_X6_shadedRoofs h t  = some X) : Cn m_X6_shadedRoofs [vr t] h (fun r h' => r = some (vi X) ∧ h' = h) := by
  unfold p_X6_shadedRoofs at hf
  have key : E m_X6_shadedRoofs none (fun r h' => r = some (vi X) ∧ h' = h) 0 [some (vr t), none, none] [] h := by
    refine e_iconst dX6_shadedRoofs_0 ⟨by decide, by decide⟩ ?_
    refine e_istore_n (ls' := [some (vr t), some (vi 0), none]) dX6_shadedRoofs_1 (Nat.le_of_ble_eq_true rfl) rfl ?_
    refine e_iconst dX6_shadedRoofs_2 ⟨by decide, by decide⟩ ?_
    refine e_istore_n (ls' := [some (vr t), some (vi 0), some (vi 0)]) dX6_shadedRoofs_3 (Nat.le_of_ble_eq_true rfl) rfl ?_
    exact e_mask [true, true, true] (q_X6_shadedRoofs_L4  h t ht    300  0 0 hf)
  exact Cn_of rfl (fun _ => Nat.le_of_ble_eq_true rfl) ⟨rfl, rfl⟩ (e_pad 2 key)
abbrev m_X6_cellsSeen : MI := (yX6_cellsSeen, cX6_cellsSeen, 6, some .int, { frames := 3, cells := 0, slots := 0, locals := 67 })
def p_X6_cellsSeen_61 (K34 : Int → Int → Int → Int → Option (Int)) (h : Mem) (t : Nat)  (l1 l3 l4 l5 : Int) : Option (Int) :=
  K34 l1 l3 l4 (wr (l5 + 1))
set_option maxRecDepth 20000 in
theorem q_X6_cellsSeen_61 (K34 : Int → Int → Int → Int → Option (Int)) (h : Mem) (t : Nat) (ht : IsT t)   (l1 l3 l4 l5 : Int) {X : Int} (hK34 : ∀ (l1 l3 l4 l5 : Int), K34 l1 l3 l4 l5 = some X → E m_X6_cellsSeen none (fun r h' => r = some (vi X) ∧ h' = h) 34 [some (vr t), some (vi l1), none, some (vi l3), some (vi l4), some (vi l5)] [] h) (hf : p_X6_cellsSeen_61 K34 h t  l1 l3 l4 l5 = some X) : E m_X6_cellsSeen none (fun r h' => r = some (vi X) ∧ h' = h) 61 [some (vr t), some (vi l1), none, some (vi l3), some (vi l4), some (vi l5)] [] h := by
  unfold p_X6_cellsSeen_61 at hf
  refine e_iinc (ls' := [some (vr t), some (vi l1), none, some (vi l3), some (vi l4), some (vi (wr (l5 + 1)))]) dX6_cellsSeen_61 rfl (Nat.le_of_ble_eq_true rfl) rfl ?_
  refine e_goto (tgt := 34) dX6_cellsSeen_64 (by decide) ?_
  exact e_mask [true, true, false, true, true, true] (hK34 l1 l3 l4 (wr (l5 + 1)) hf)
def p_X6_cellsSeen_34 (K34 : Int → Int → Int → Int → Option (Int)) (h : Mem) (t : Nat)  (l1 l3 l4 l5 : Int) : Option (Int) :=
  if 10 ≤ l5 then (some l4) else (bd (p_X6_distance h t l1 l5) (fun r45 => if l3 < r45 then (p_X6_cellsSeen_61 K34 h t  l1 l3 l4 l5) else (p_X6_cellsSeen_61 K34 h t  l1 l3 (bor l4 (bshl 1 l5)) l5)))
set_option maxRecDepth 20000 in
theorem q_X6_cellsSeen_34 (K34 : Int → Int → Int → Int → Option (Int)) (h : Mem) (t : Nat) (ht : IsT t)   (l1 l3 l4 l5 : Int) {X : Int} (hK34 : ∀ (l1 l3 l4 l5 : Int), K34 l1 l3 l4 l5 = some X → E m_X6_cellsSeen none (fun r h' => r = some (vi X) ∧ h' = h) 34 [some (vr t), some (vi l1), none, some (vi l3), some (vi l4), some (vi l5)] [] h) (hf : p_X6_cellsSeen_34 K34 h t  l1 l3 l4 l5 = some X) : E m_X6_cellsSeen none (fun r h' => r = some (vi X) ∧ h' = h) 34 [some (vr t), some (vi l1), none, some (vi l3), some (vi l4), some (vi l5)] [] h := by
  unfold p_X6_cellsSeen_34 at hf
  refine e_iload dX6_cellsSeen_34 rfl ?_
  refine e_bipush dX6_cellsSeen_36 ⟨by decide, by decide, by decide⟩ ?_
  refine e_icmp_ge (tgt := 67) dX6_cellsSeen_38 (by decide) (fun c38 => ?_) (fun c38 => ?_)
  · replace hf := ifp hf c38
    refine e_iload dX6_cellsSeen_67 rfl ?_
    obtain rfl := Option.some.inj hf
    exact e_ireturn dX6_cellsSeen_69 rfl ⟨rfl, rfl⟩
  · replace hf := ifn hf c38
    refine e_aload_n dX6_cellsSeen_41 rfl ?_
    refine e_iload_n dX6_cellsSeen_42 rfl ?_
    refine e_iload dX6_cellsSeen_43 rfl ?_
    obtain ⟨r45, e45, hf⟩ := bd_some hf
    refine e_callV2i dX6_cellsSeen_45 rfl lk_332 ⟨rfl, rfl, Nat.le_of_ble_eq_true rfl, Nat.le_of_ble_eq_true rfl⟩ ht.1 rfl (Nat.le_of_ble_eq_true rfl) (q_X6_distance h t ht l1 l5 e45) ?_
    refine e_iload_n dX6_cellsSeen_48 rfl ?_
    refine e_icmp_gt (tgt := 61) dX6_cellsSeen_49 (by decide) (fun c49 => ?_) (fun c49 => ?_)
    · replace hf := ifp hf c49
      exact e_mask [true, true, false, true, true, true] (q_X6_cellsSeen_61 K34 h t ht   l1 l3 l4 l5 hK34 hf)
    · replace hf := ifn hf c49
      refine e_iload dX6_cellsSeen_52 rfl ?_
      refine e_iconst dX6_cellsSeen_54 ⟨by decide, by decide⟩ ?_
      refine e_iload dX6_cellsSeen_55 rfl ?_
      refine e_ishl dX6_cellsSeen_57 ?_
      refine e_ior dX6_cellsSeen_58 ?_
      refine e_istore (ls' := [some (vr t), some (vi l1), none, some (vi l3), some (vi (bor l4 (bshl 1 l5))), some (vi l5)]) dX6_cellsSeen_59 (Nat.le_of_ble_eq_true rfl) rfl ?_
      exact e_mask [true, true, false, true, true, true] (q_X6_cellsSeen_61 K34 h t ht   l1 l3 (bor l4 (bshl 1 l5)) l5 hK34 hf)
def p_X6_cellsSeen_L34  (h : Mem) (t : Nat)  : Nat → Int → Int → Int → Int → Option (Int)
  | 0, _, _, _, _ => none
  | n + 1, l1, l3, l4, l5 => p_X6_cellsSeen_34 (fun (l1 l3 l4 l5 : Int) => p_X6_cellsSeen_L34  h t  n l1 l3 l4 l5) h t  l1 l3 l4 l5
theorem q_X6_cellsSeen_L34  (h : Mem) (t : Nat) (ht : IsT t)   {X : Int}  : ∀ (n : Nat) (l1 l3 l4 l5 : Int), p_X6_cellsSeen_L34  h t  n l1 l3 l4 l5 = some X → E m_X6_cellsSeen none (fun r h' => r = some (vi X) ∧ h' = h) 34 [some (vr t), some (vi l1), none, some (vi l3), some (vi l4), some (vi l5)] [] h := by
  intro n
  induction n with
  | zero => intro l1 l3 l4 l5 hf; have hf2 : (none : Option (Int)) = some X := hf; cases hf2
  | succ n ih => intro l1 l3 l4 l5 hf; exact q_X6_cellsSeen_34 (fun (l1 l3 l4 l5 : Int) => p_X6_cellsSeen_L34  h t  n l1 l3 l4 l5) h t ht   l1 l3 l4 l5 (fun l1 l3 l4 l5 hf => ih l1 l3 l4 l5 hf) hf
def p_X6_cellsSeen (h : Mem) (t : Nat) (l1 l2 : Int) : Option (Int) :=
  bd (p_X6_hasRoof h t l1) (fun r2 => if r2 = 0 then (some 0) else (bd (p_X6_isShaded h t l1 l2) (fun r11 => if r11 = 0 then (gd (0 ≤ l1 ∧ l1 < 5) (p_X6_cellsSeen_L34  h t  300  l1 (qdiv (h (t + 2) l1) 4) 0 0)) else (some 0))))
set_option maxRecDepth 20000 in
theorem q_X6_cellsSeen (h : Mem) (t : Nat) (ht : IsT t) (l1 l2 : Int) {X : Int} (hf : p_X6_cellsSeen h t l1 l2 = some X) : Cn m_X6_cellsSeen [vr t, vi l1, vi l2] h (fun r h' => r = some (vi X) ∧ h' = h) := by
  unfold p_X6_cellsSeen at hf
  have key : E m_X6_cellsSeen none (fun r h' => r = some (vi X) ∧ h' = h) 0 [some (vr t), some (vi l1), some (vi l2), none, none, none] [] h := by
    refine e_aload_n dX6_cellsSeen_0 rfl ?_
    refine e_iload_n dX6_cellsSeen_1 rfl ?_
    obtain ⟨r2, e2, hf⟩ := bd_some hf
    refine e_callV1i dX6_cellsSeen_2 rfl lk_328 ⟨rfl, rfl, Nat.le_of_ble_eq_true rfl, Nat.le_of_ble_eq_true rfl⟩ ht.1 rfl (Nat.le_of_ble_eq_true rfl) (q_X6_hasRoof h t ht l1 e2) ?_
    refine e_if_eq (tgt := 17) dX6_cellsSeen_5 (by decide) (fun c5 => ?_) (fun c5 => ?_)
    · replace hf := ifp hf c5
      refine e_iconst dX6_cellsSeen_17 ⟨by decide, by decide⟩ ?_
      obtain rfl := Option.some.inj hf
      exact e_ireturn dX6_cellsSeen_18 rfl ⟨rfl, rfl⟩
    · replace hf := ifn hf c5
      refine e_aload_n dX6_cellsSeen_8 rfl ?_
      refine e_iload_n dX6_cellsSeen_9 rfl ?_
      refine e_iload_n dX6_cellsSeen_10 rfl ?_
      obtain ⟨r11, e11, hf⟩ := bd_some hf
      refine e_callV2i dX6_cellsSeen_11 rfl lk_324 ⟨rfl, rfl, Nat.le_of_ble_eq_true rfl, Nat.le_of_ble_eq_true rfl⟩ ht.1 rfl (Nat.le_of_ble_eq_true rfl) (q_X6_isShaded h t ht l1 l2 e11) ?_
      refine e_if_eq (tgt := 19) dX6_cellsSeen_14 (by decide) (fun c14 => ?_) (fun c14 => ?_)
      · replace hf := ifp hf c14
        refine e_aload_n dX6_cellsSeen_19 rfl ?_
        refine e_getR dX6_cellsSeen_20 rfl fl_69 ht.1 rfl ?_
        refine e_iload_n dX6_cellsSeen_23 rfl ?_
        obtain ⟨g24, hf⟩ := gd_some hf
        refine e_iald dX6_cellsSeen_24 ht.2.2.1 g24 ?_
        refine e_iconst dX6_cellsSeen_25 ⟨by decide, by decide⟩ ?_
        refine e_idiv dX6_cellsSeen_26 (by decide) ?_
        refine e_istore_n (ls' := [some (vr t), some (vi l1), some (vi l2), some (vi (qdiv (h (t + 2) l1) 4)), none, none]) dX6_cellsSeen_27 (Nat.le_of_ble_eq_true rfl) rfl ?_
        refine e_iconst dX6_cellsSeen_28 ⟨by decide, by decide⟩ ?_
        refine e_istore (ls' := [some (vr t), some (vi l1), some (vi l2), some (vi (qdiv (h (t + 2) l1) 4)), some (vi 0), none]) dX6_cellsSeen_29 (Nat.le_of_ble_eq_true rfl) rfl ?_
        refine e_iconst dX6_cellsSeen_31 ⟨by decide, by decide⟩ ?_
        refine e_istore (ls' := [some (vr t), some (vi l1), some (vi l2), some (vi (qdiv (h (t + 2) l1) 4)), some (vi 0), some (vi 0)]) dX6_cellsSeen_32 (Nat.le_of_ble_eq_true rfl) rfl ?_
        exact e_mask [true, true, false, true, true, true] (q_X6_cellsSeen_L34  h t ht    300  l1 (qdiv (h (t + 2) l1) 4) 0 0 hf)
      · replace hf := ifn hf c14
        refine e_iconst dX6_cellsSeen_17 ⟨by decide, by decide⟩ ?_
        obtain rfl := Option.some.inj hf
        exact e_ireturn dX6_cellsSeen_18 rfl ⟨rfl, rfl⟩
  exact Cn_of rfl (fun _ => Nat.le_of_ble_eq_true rfl) ⟨rfl, rfl⟩ (e_pad 3 key)
abbrev m_X6_smokeAround : MI := (yX6_smokeAround, cX6_smokeAround, 6, some .int, { frames := 2, cells := 0, slots := 0, locals := 43 })
def p_X6_smokeAround_64 (K5 : Int → Int → Int → Int → Option (Int)) (h : Mem) (t : Nat)  (l1 l2 l3 l4 : Int) : Option (Int) :=
  K5 l1 l2 l3 (wr (l4 + 1))
set_option maxRecDepth 20000 in
theorem q_X6_smokeAround_64 (K5 : Int → Int → Int → Int → Option (Int)) (h : Mem) (t : Nat) (ht : IsT t)   (l1 l2 l3 l4 : Int) {X : Int} (hK5 : ∀ (l1 l2 l3 l4 : Int), K5 l1 l2 l3 l4 = some X → E m_X6_smokeAround none (fun r h' => r = some (vi X) ∧ h' = h) 5 [some (vr t), some (vi l1), some (vi l2), some (vi l3), some (vi l4), none] [] h) (hf : p_X6_smokeAround_64 K5 h t  l1 l2 l3 l4 = some X) : E m_X6_smokeAround none (fun r h' => r = some (vi X) ∧ h' = h) 64 [some (vr t), some (vi l1), some (vi l2), some (vi l3), some (vi l4), none] [] h := by
  unfold p_X6_smokeAround_64 at hf
  refine e_iinc (ls' := [some (vr t), some (vi l1), some (vi l2), some (vi l3), some (vi (wr (l4 + 1))), none]) dX6_smokeAround_64 rfl (Nat.le_of_ble_eq_true rfl) rfl ?_
  refine e_goto (tgt := 5) dX6_smokeAround_67 (by decide) ?_
  exact e_mask [true, true, true, true, true, false] (hK5 l1 l2 l3 (wr (l4 + 1)) hf)
def p_X6_smokeAround_38 (K5 : Int → Int → Int → Int → Option (Int)) (h : Mem) (t : Nat)  (l1 l2 l3 l4 s0 : Int) : Option (Int) :=
  if s0 = 0 then (p_X6_smokeAround_64 K5 h t  l1 l2 l3 l4) else (gd (0 ≤ l1 ∧ l1 < 5) (bd (p_X6_distance h t l4 (h (t + 1) l1)) (fun r54 => if 1 < r54 then (p_X6_smokeAround_64 K5 h t  l1 l2 l3 l4) else (p_X6_smokeAround_64 K5 h t  l1 l2 (wr (l3 + 1)) l4))))
set_option maxRecDepth 20000 in
theorem q_X6_smokeAround_38 (K5 : Int → Int → Int → Int → Option (Int)) (h : Mem) (t : Nat) (ht : IsT t)   (l1 l2 l3 l4 s0 : Int) {X : Int} (hK5 : ∀ (l1 l2 l3 l4 : Int), K5 l1 l2 l3 l4 = some X → E m_X6_smokeAround none (fun r h' => r = some (vi X) ∧ h' = h) 5 [some (vr t), some (vi l1), some (vi l2), some (vi l3), some (vi l4), none] [] h) (hf : p_X6_smokeAround_38 K5 h t  l1 l2 l3 l4 s0 = some X) : E m_X6_smokeAround none (fun r h' => r = some (vi X) ∧ h' = h) 38 [some (vr t), some (vi l1), some (vi l2), some (vi l3), some (vi l4), none] [vi s0] h := by
  unfold p_X6_smokeAround_38 at hf
  refine e_istore (ls' := [some (vr t), some (vi l1), some (vi l2), some (vi l3), some (vi l4), some (vi s0)]) dX6_smokeAround_38 (Nat.le_of_ble_eq_true rfl) rfl ?_
  refine e_iload dX6_smokeAround_40 rfl ?_
  refine e_if_eq (tgt := 64) dX6_smokeAround_42 (by decide) (fun c42 => ?_) (fun c42 => ?_)
  · replace hf := ifp hf c42
    exact e_mask [true, true, true, true, true, false] (q_X6_smokeAround_64 K5 h t ht   l1 l2 l3 l4 hK5 hf)
  · replace hf := ifn hf c42
    refine e_aload_n dX6_smokeAround_45 rfl ?_
    refine e_iload dX6_smokeAround_46 rfl ?_
    refine e_aload_n dX6_smokeAround_48 rfl ?_
    refine e_getR dX6_smokeAround_49 rfl fl_67 ht.1 rfl ?_
    refine e_iload_n dX6_smokeAround_52 rfl ?_
    obtain ⟨g53, hf⟩ := gd_some hf
    refine e_iald dX6_smokeAround_53 ht.2.1 g53 ?_
    obtain ⟨r54, e54, hf⟩ := bd_some hf
    refine e_callV2i dX6_smokeAround_54 rfl lk_332 ⟨rfl, rfl, Nat.le_of_ble_eq_true rfl, Nat.le_of_ble_eq_true rfl⟩ ht.1 rfl (Nat.le_of_ble_eq_true rfl) (q_X6_distance h t ht l4 (h (t + 1) l1) e54) ?_
    refine e_iconst dX6_smokeAround_57 ⟨by decide, by decide⟩ ?_
    refine e_icmp_gt (tgt := 64) dX6_smokeAround_58 (by decide) (fun c58 => ?_) (fun c58 => ?_)
    · replace hf := ifp hf c58
      exact e_mask [true, true, true, true, true, false] (q_X6_smokeAround_64 K5 h t ht   l1 l2 l3 l4 hK5 hf)
    · replace hf := ifn hf c58
      refine e_iinc (ls' := [some (vr t), some (vi l1), some (vi l2), some (vi (wr (l3 + 1))), some (vi l4), some (vi s0)]) dX6_smokeAround_61 rfl (Nat.le_of_ble_eq_true rfl) rfl ?_
      exact e_mask [true, true, true, true, true, false] (q_X6_smokeAround_64 K5 h t ht   l1 l2 (wr (l3 + 1)) l4 hK5 hf)
def p_X6_smokeAround_5 (K5 : Int → Int → Int → Int → Option (Int)) (h : Mem) (t : Nat)  (l1 l2 l3 l4 : Int) : Option (Int) :=
  if 5 ≤ l4 then (some l3) else (bd (p_X6_hasRoof h t l1) (fun r13 => if r13 = 0 then (some l3) else (if band (band l2 (h t 5)) (bshl 1 l4) = 0 then (p_X6_smokeAround_38 K5 h t  l1 l2 l3 l4 0) else (p_X6_smokeAround_38 K5 h t  l1 l2 l3 l4 1))))
set_option maxRecDepth 20000 in
theorem q_X6_smokeAround_5 (K5 : Int → Int → Int → Int → Option (Int)) (h : Mem) (t : Nat) (ht : IsT t)   (l1 l2 l3 l4 : Int) {X : Int} (hK5 : ∀ (l1 l2 l3 l4 : Int), K5 l1 l2 l3 l4 = some X → E m_X6_smokeAround none (fun r h' => r = some (vi X) ∧ h' = h) 5 [some (vr t), some (vi l1), some (vi l2), some (vi l3), some (vi l4), none] [] h) (hf : p_X6_smokeAround_5 K5 h t  l1 l2 l3 l4 = some X) : E m_X6_smokeAround none (fun r h' => r = some (vi X) ∧ h' = h) 5 [some (vr t), some (vi l1), some (vi l2), some (vi l3), some (vi l4), none] [] h := by
  unfold p_X6_smokeAround_5 at hf
  refine e_iload dX6_smokeAround_5 rfl ?_
  refine e_iconst dX6_smokeAround_7 ⟨by decide, by decide⟩ ?_
  refine e_icmp_ge (tgt := 70) dX6_smokeAround_8 (by decide) (fun c8 => ?_) (fun c8 => ?_)
  · replace hf := ifp hf c8
    refine e_iload_n dX6_smokeAround_70 rfl ?_
    obtain rfl := Option.some.inj hf
    exact e_ireturn dX6_smokeAround_71 rfl ⟨rfl, rfl⟩
  · replace hf := ifn hf c8
    refine e_aload_n dX6_smokeAround_11 rfl ?_
    refine e_iload_n dX6_smokeAround_12 rfl ?_
    obtain ⟨r13, e13, hf⟩ := bd_some hf
    refine e_callV1i dX6_smokeAround_13 rfl lk_328 ⟨rfl, rfl, Nat.le_of_ble_eq_true rfl, Nat.le_of_ble_eq_true rfl⟩ ht.1 rfl (Nat.le_of_ble_eq_true rfl) (q_X6_hasRoof h t ht l1 e13) ?_
    refine e_if_eq (tgt := 70) dX6_smokeAround_16 (by decide) (fun c16 => ?_) (fun c16 => ?_)
    · replace hf := ifp hf c16
      refine e_iload_n dX6_smokeAround_70 rfl ?_
      obtain rfl := Option.some.inj hf
      exact e_ireturn dX6_smokeAround_71 rfl ⟨rfl, rfl⟩
    · replace hf := ifn hf c16
      refine e_iload_n dX6_smokeAround_19 rfl ?_
      refine e_aload_n dX6_smokeAround_20 rfl ?_
      refine e_getI (kz := 5) rfl dX6_smokeAround_21 rfl fl_77 ht.1 rfl (Or.inl rfl) ?_
      refine e_iand dX6_smokeAround_24 ?_
      refine e_iconst dX6_smokeAround_25 ⟨by decide, by decide⟩ ?_
      refine e_iload dX6_smokeAround_26 rfl ?_
      refine e_ishl dX6_smokeAround_28 ?_
      refine e_iand dX6_smokeAround_29 ?_
      refine e_if_eq (tgt := 37) dX6_smokeAround_30 (by decide) (fun c30 => ?_) (fun c30 => ?_)
      · replace hf := ifp hf c30
        refine e_iconst dX6_smokeAround_37 ⟨by decide, by decide⟩ ?_
        exact e_mask [true, true, true, true, true, false] (q_X6_smokeAround_38 K5 h t ht   l1 l2 l3 l4 0 hK5 hf)
      · replace hf := ifn hf c30
        refine e_iconst dX6_smokeAround_33 ⟨by decide, by decide⟩ ?_
        refine e_goto (tgt := 38) dX6_smokeAround_34 (by decide) ?_
        exact e_mask [true, true, true, true, true, false] (q_X6_smokeAround_38 K5 h t ht   l1 l2 l3 l4 1 hK5 hf)
def p_X6_smokeAround_L5  (h : Mem) (t : Nat)  : Nat → Int → Int → Int → Int → Option (Int)
  | 0, _, _, _, _ => none
  | n + 1, l1, l2, l3, l4 => p_X6_smokeAround_5 (fun (l1 l2 l3 l4 : Int) => p_X6_smokeAround_L5  h t  n l1 l2 l3 l4) h t  l1 l2 l3 l4
theorem q_X6_smokeAround_L5  (h : Mem) (t : Nat) (ht : IsT t)   {X : Int}  : ∀ (n : Nat) (l1 l2 l3 l4 : Int), p_X6_smokeAround_L5  h t  n l1 l2 l3 l4 = some X → E m_X6_smokeAround none (fun r h' => r = some (vi X) ∧ h' = h) 5 [some (vr t), some (vi l1), some (vi l2), some (vi l3), some (vi l4), none] [] h := by
  intro n
  induction n with
  | zero => intro l1 l2 l3 l4 hf; have hf2 : (none : Option (Int)) = some X := hf; cases hf2
  | succ n ih => intro l1 l2 l3 l4 hf; exact q_X6_smokeAround_5 (fun (l1 l2 l3 l4 : Int) => p_X6_smokeAround_L5  h t  n l1 l2 l3 l4) h t ht   l1 l2 l3 l4 (fun l1 l2 l3 l4 hf => ih l1 l2 l3 l4 hf) hf
def p_X6_smokeAround (h : Mem) (t : Nat) (l1 l2 : Int) : Option (Int) :=
  p_X6_smokeAround_L5  h t  300  l1 l2 0 0
set_option maxRecDepth 20000 in
theorem q_X6_smokeAround (h : Mem) (t : Nat) (ht : IsT t) (l1 l2 : Int) {X : Int} (hf : p_X6_smokeAround h t l1 l2 = some X) : Cn m_X6_smokeAround [vr t, vi l1, vi l2] h (fun r h' => r = some (vi X) ∧ h' = h) := by
  unfold p_X6_smokeAround at hf
  have key : E m_X6_smokeAround none (fun r h' => r = some (vi X) ∧ h' = h) 0 [some (vr t), some (vi l1), some (vi l2), none, none, none] [] h := by
    refine e_iconst dX6_smokeAround_0 ⟨by decide, by decide⟩ ?_
    refine e_istore_n (ls' := [some (vr t), some (vi l1), some (vi l2), some (vi 0), none, none]) dX6_smokeAround_1 (Nat.le_of_ble_eq_true rfl) rfl ?_
    refine e_iconst dX6_smokeAround_2 ⟨by decide, by decide⟩ ?_
    refine e_istore (ls' := [some (vr t), some (vi l1), some (vi l2), some (vi 0), some (vi 0), none]) dX6_smokeAround_3 (Nat.le_of_ble_eq_true rfl) rfl ?_
    exact e_mask [true, true, true, true, true, false] (q_X6_smokeAround_L5  h t ht    300  l1 l2 0 0 hf)
  exact Cn_of rfl (fun _ => Nat.le_of_ble_eq_true rfl) ⟨rfl, rfl⟩ (e_pad 3 key)
abbrev m_X6_goesAhead : MI := (yX6_goesAhead, cX6_goesAhead, 6, some .boolean, { frames := 2, cells := 0, slots := 0, locals := 43 })
def p_X6_goesAhead_65  (h : Mem) (t : Nat)  (l1 l2 l5 : Int) : Option (Int) :=
  if l5 = 0 then (gd (0 ≤ l1 ∧ l1 < 5) (gd (0 ≤ l2 ∧ l2 < 5) (if h (t + 2) l2 ≤ h (t + 2) l1 then (some 0) else (some 1)))) else (if l5 ≤ 0 then (some 0) else (some 1))
set_option maxRecDepth 20000 in
theorem q_X6_goesAhead_65  (h : Mem) (t : Nat) (ht : IsT t)   (l1 l2 l5 : Int) {X : Int}  (hf : p_X6_goesAhead_65  h t  l1 l2 l5 = some X) : E m_X6_goesAhead none (fun r h' => r = some (vi X) ∧ h' = h) 65 [some (vr t), some (vi l1), some (vi l2), none, none, some (vi l5)] [] h := by
  unfold p_X6_goesAhead_65 at hf
  refine e_iload dX6_goesAhead_65 rfl ?_
  refine e_if_eq (tgt := 83) dX6_goesAhead_67 (by decide) (fun c67 => ?_) (fun c67 => ?_)
  · replace hf := ifp hf c67
    refine e_aload_n dX6_goesAhead_83 rfl ?_
    refine e_getR dX6_goesAhead_84 rfl fl_69 ht.1 rfl ?_
    refine e_iload_n dX6_goesAhead_87 rfl ?_
    obtain ⟨g88, hf⟩ := gd_some hf
    refine e_iald dX6_goesAhead_88 ht.2.2.1 g88 ?_
    refine e_aload_n dX6_goesAhead_89 rfl ?_
    refine e_getR dX6_goesAhead_90 rfl fl_69 ht.1 rfl ?_
    refine e_iload_n dX6_goesAhead_93 rfl ?_
    obtain ⟨g94, hf⟩ := gd_some hf
    refine e_iald dX6_goesAhead_94 ht.2.2.1 g94 ?_
    refine e_icmp_ge (tgt := 102) dX6_goesAhead_95 (by decide) (fun c95 => ?_) (fun c95 => ?_)
    · replace hf := ifp hf c95
      refine e_iconst dX6_goesAhead_102 ⟨by decide, by decide⟩ ?_
      obtain rfl := Option.some.inj hf
      exact e_zreturn dX6_goesAhead_103 rfl (by decide) ⟨rfl, rfl⟩
    · replace hf := ifn hf c95
      refine e_iconst dX6_goesAhead_98 ⟨by decide, by decide⟩ ?_
      refine e_goto (tgt := 103) dX6_goesAhead_99 (by decide) ?_
      obtain rfl := Option.some.inj hf
      exact e_zreturn dX6_goesAhead_103 rfl (by decide) ⟨rfl, rfl⟩
  · replace hf := ifn hf c67
    refine e_iload dX6_goesAhead_70 rfl ?_
    refine e_if_le (tgt := 79) dX6_goesAhead_72 (by decide) (fun c72 => ?_) (fun c72 => ?_)
    · replace hf := ifp hf c72
      refine e_iconst dX6_goesAhead_79 ⟨by decide, by decide⟩ ?_
      refine e_goto (tgt := 103) dX6_goesAhead_80 (by decide) ?_
      obtain rfl := Option.some.inj hf
      exact e_zreturn dX6_goesAhead_103 rfl (by decide) ⟨rfl, rfl⟩
    · replace hf := ifn hf c72
      refine e_iconst dX6_goesAhead_75 ⟨by decide, by decide⟩ ?_
      refine e_goto (tgt := 103) dX6_goesAhead_76 (by decide) ?_
      obtain rfl := Option.some.inj hf
      exact e_zreturn dX6_goesAhead_103 rfl (by decide) ⟨rfl, rfl⟩
def p_X6_goesAhead (h : Mem) (t : Nat) (l1 l2 l3 l4 : Int) : Option (Int) :=
  bd (p_X6_hasRoof h t l1) (fun r2 => if r2 = 0 then (some 0) else (bd (p_X6_hasRoof h t l2) (fun r10 => if r10 = 0 then (some 0) else (if l3 = 0 then (bd (p_X6_distance h t l2 l4) (fun r29 => bd (p_X6_distance h t l1 l4) (fun r36 => p_X6_goesAhead_65  h t  l1 l2 (wr (r29 - r36))))) else (if l3 = 1 then (gd (0 ≤ l1 ∧ l1 < 5) (gd (0 ≤ l2 ∧ l2 < 5) (p_X6_goesAhead_65  h t  l1 l2 (wr ((h (t + 2) l1) - (h (t + 2) l2)))))) else (p_X6_goesAhead_65  h t  l1 l2 0))))))
set_option maxRecDepth 20000 in
theorem q_X6_goesAhead (h : Mem) (t : Nat) (ht : IsT t) (l1 l2 l3 l4 : Int) {X : Int} (hf : p_X6_goesAhead h t l1 l2 l3 l4 = some X) : Cn m_X6_goesAhead [vr t, vi l1, vi l2, vi l3, vi l4] h (fun r h' => r = some (vi X) ∧ h' = h) := by
  unfold p_X6_goesAhead at hf
  have key : E m_X6_goesAhead none (fun r h' => r = some (vi X) ∧ h' = h) 0 [some (vr t), some (vi l1), some (vi l2), some (vi l3), some (vi l4), none] [] h := by
    refine e_aload_n dX6_goesAhead_0 rfl ?_
    refine e_iload_n dX6_goesAhead_1 rfl ?_
    obtain ⟨r2, e2, hf⟩ := bd_some hf
    refine e_callV1i dX6_goesAhead_2 rfl lk_328 ⟨rfl, rfl, Nat.le_of_ble_eq_true rfl, Nat.le_of_ble_eq_true rfl⟩ ht.1 rfl (Nat.le_of_ble_eq_true rfl) (q_X6_hasRoof h t ht l1 e2) ?_
    refine e_if_eq (tgt := 16) dX6_goesAhead_5 (by decide) (fun c5 => ?_) (fun c5 => ?_)
    · replace hf := ifp hf c5
      refine e_iconst dX6_goesAhead_16 ⟨by decide, by decide⟩ ?_
      obtain rfl := Option.some.inj hf
      exact e_zreturn dX6_goesAhead_17 rfl (by decide) ⟨rfl, rfl⟩
    · replace hf := ifn hf c5
      refine e_aload_n dX6_goesAhead_8 rfl ?_
      refine e_iload_n dX6_goesAhead_9 rfl ?_
      obtain ⟨r10, e10, hf⟩ := bd_some hf
      refine e_callV1i dX6_goesAhead_10 rfl lk_328 ⟨rfl, rfl, Nat.le_of_ble_eq_true rfl, Nat.le_of_ble_eq_true rfl⟩ ht.1 rfl (Nat.le_of_ble_eq_true rfl) (q_X6_hasRoof h t ht l2 e10) ?_
      refine e_if_ne (tgt := 18) dX6_goesAhead_13 (by decide) (fun c13 => ?_) (fun c13 => ?_)
      · replace hf := ifn hf c13
        refine e_iconst dX6_goesAhead_18 ⟨by decide, by decide⟩ ?_
        refine e_istore (ls' := [some (vr t), some (vi l1), some (vi l2), some (vi l3), some (vi l4), some (vi 0)]) dX6_goesAhead_19 (Nat.le_of_ble_eq_true rfl) rfl ?_
        refine e_iload_n dX6_goesAhead_21 rfl ?_
        refine e_if_ne (tgt := 45) dX6_goesAhead_22 (by decide) (fun c22 => ?_) (fun c22 => ?_)
        · replace hf := ifn hf c22
          refine e_iload_n dX6_goesAhead_45 rfl ?_
          refine e_iconst dX6_goesAhead_46 ⟨by decide, by decide⟩ ?_
          refine e_icmp_ne (tgt := 65) dX6_goesAhead_47 (by decide) (fun c47 => ?_) (fun c47 => ?_)
          · replace hf := ifn hf c47
            exact e_mask [true, true, true, false, false, true] (q_X6_goesAhead_65  h t ht   l1 l2 0  hf)
          · replace hf := ifp hf c47
            refine e_aload_n dX6_goesAhead_50 rfl ?_
            refine e_getR dX6_goesAhead_51 rfl fl_69 ht.1 rfl ?_
            refine e_iload_n dX6_goesAhead_54 rfl ?_
            obtain ⟨g55, hf⟩ := gd_some hf
            refine e_iald dX6_goesAhead_55 ht.2.2.1 g55 ?_
            refine e_aload_n dX6_goesAhead_56 rfl ?_
            refine e_getR dX6_goesAhead_57 rfl fl_69 ht.1 rfl ?_
            refine e_iload_n dX6_goesAhead_60 rfl ?_
            obtain ⟨g61, hf⟩ := gd_some hf
            refine e_iald dX6_goesAhead_61 ht.2.2.1 g61 ?_
            refine e_isub dX6_goesAhead_62 ?_
            refine e_istore (ls' := [some (vr t), some (vi l1), some (vi l2), some (vi l3), some (vi l4), some (vi (wr ((h (t + 2) l1) - (h (t + 2) l2))))]) dX6_goesAhead_63 (Nat.le_of_ble_eq_true rfl) rfl ?_
            exact e_mask [true, true, true, false, false, true] (q_X6_goesAhead_65  h t ht   l1 l2 (wr ((h (t + 2) l1) - (h (t + 2) l2)))  hf)
        · replace hf := ifp hf c22
          refine e_aload_n dX6_goesAhead_25 rfl ?_
          refine e_iload_n dX6_goesAhead_26 rfl ?_
          refine e_iload dX6_goesAhead_27 rfl ?_
          obtain ⟨r29, e29, hf⟩ := bd_some hf
          refine e_callV2i dX6_goesAhead_29 rfl lk_332 ⟨rfl, rfl, Nat.le_of_ble_eq_true rfl, Nat.le_of_ble_eq_true rfl⟩ ht.1 rfl (Nat.le_of_ble_eq_true rfl) (q_X6_distance h t ht l2 l4 e29) ?_
          refine e_aload_n dX6_goesAhead_32 rfl ?_
          refine e_iload_n dX6_goesAhead_33 rfl ?_
          refine e_iload dX6_goesAhead_34 rfl ?_
          obtain ⟨r36, e36, hf⟩ := bd_some hf
          refine e_callV2i dX6_goesAhead_36 rfl lk_332 ⟨rfl, rfl, Nat.le_of_ble_eq_true rfl, Nat.le_of_ble_eq_true rfl⟩ ht.1 rfl (Nat.le_of_ble_eq_true rfl) (q_X6_distance h t ht l1 l4 e36) ?_
          refine e_isub dX6_goesAhead_39 ?_
          refine e_istore (ls' := [some (vr t), some (vi l1), some (vi l2), some (vi l3), some (vi l4), some (vi (wr (r29 - r36)))]) dX6_goesAhead_40 (Nat.le_of_ble_eq_true rfl) rfl ?_
          refine e_goto (tgt := 65) dX6_goesAhead_42 (by decide) ?_
          exact e_mask [true, true, true, false, false, true] (q_X6_goesAhead_65  h t ht   l1 l2 (wr (r29 - r36))  hf)
      · replace hf := ifp hf c13
        refine e_iconst dX6_goesAhead_16 ⟨by decide, by decide⟩ ?_
        obtain rfl := Option.some.inj hf
        exact e_zreturn dX6_goesAhead_17 rfl (by decide) ⟨rfl, rfl⟩
  exact Cn_of rfl (fun _ => Nat.le_of_ble_eq_true rfl) ⟨rfl, rfl⟩ (e_pad 1 key)
abbrev m_X6_setHeight : MI := (yX6_setHeight, cX6_setHeight, 3, none, { frames := 1, cells := 0, slots := 0, locals := 21 })
def p_X6_setHeight (h : Mem) (t : Nat) (l1 l2 : Int) : Option (Mem) :=
  bd (p_X6_hasRoof h t l1) (fun r2 => if r2 = 0 then (some h) else (gd (0 ≤ l1 ∧ l1 < 5) (some (up h (t + 2) l1 l2))))
set_option maxRecDepth 20000 in
theorem q_X6_setHeight (h : Mem) (t : Nat) (ht : IsT t) (l1 l2 : Int) {X : Mem} (hf : p_X6_setHeight h t l1 l2 = some X) : Cn m_X6_setHeight [vr t, vi l1, vi l2] h (fun r h' => r = none ∧ h' = X) := by
  unfold p_X6_setHeight at hf
  have key : E m_X6_setHeight none (fun r h' => r = none ∧ h' = X) 0 [some (vr t), some (vi l1), some (vi l2)] [] h := by
    refine e_aload_n dX6_setHeight_0 rfl ?_
    refine e_iload_n dX6_setHeight_1 rfl ?_
    obtain ⟨r2, e2, hf⟩ := bd_some hf
    refine e_callV1i dX6_setHeight_2 rfl lk_328 ⟨rfl, rfl, Nat.le_of_ble_eq_true rfl, Nat.le_of_ble_eq_true rfl⟩ ht.1 rfl (Nat.le_of_ble_eq_true rfl) (q_X6_hasRoof h t ht l1 e2) ?_
    refine e_if_eq (tgt := 15) dX6_setHeight_5 (by decide) (fun c5 => ?_) (fun c5 => ?_)
    · replace hf := ifp hf c5
      obtain rfl := Option.some.inj hf
      exact e_return dX6_setHeight_15 rfl ⟨rfl, rfl⟩
    · replace hf := ifn hf c5
      refine e_aload_n dX6_setHeight_8 rfl ?_
      refine e_getR dX6_setHeight_9 rfl fl_69 ht.1 rfl ?_
      refine e_iload_n dX6_setHeight_12 rfl ?_
      refine e_iload_n dX6_setHeight_13 rfl ?_
      obtain ⟨g14, hf⟩ := gd_some hf
      refine e_iast dX6_setHeight_14 ht.2.2.1 g14 ?_
      obtain rfl := Option.some.inj hf
      exact e_return dX6_setHeight_15 rfl ⟨rfl, rfl⟩
  exact Cn_of rfl (fun _ => Nat.le_of_ble_eq_true rfl) ⟨rfl, rfl⟩ (e_pad 0 key)
abbrev m_X6_setOwner : MI := (yX6_setOwner, cX6_setOwner, 3, none, { frames := 1, cells := 0, slots := 0, locals := 21 })
def p_X6_setOwner (h : Mem) (t : Nat) (l1 l2 : Int) : Option (Mem) :=
  bd (p_X6_hasRoof h t l1) (fun r2 => if r2 = 0 then (some h) else (gd (0 ≤ l1 ∧ l1 < 5) (some (up h (t + 3) l1 l2))))
set_option maxRecDepth 20000 in
theorem q_X6_setOwner (h : Mem) (t : Nat) (ht : IsT t) (l1 l2 : Int) {X : Mem} (hf : p_X6_setOwner h t l1 l2 = some X) : Cn m_X6_setOwner [vr t, vi l1, vi l2] h (fun r h' => r = none ∧ h' = X) := by
  unfold p_X6_setOwner at hf
  have key : E m_X6_setOwner none (fun r h' => r = none ∧ h' = X) 0 [some (vr t), some (vi l1), some (vi l2)] [] h := by
    refine e_aload_n dX6_setOwner_0 rfl ?_
    refine e_iload_n dX6_setOwner_1 rfl ?_
    obtain ⟨r2, e2, hf⟩ := bd_some hf
    refine e_callV1i dX6_setOwner_2 rfl lk_328 ⟨rfl, rfl, Nat.le_of_ble_eq_true rfl, Nat.le_of_ble_eq_true rfl⟩ ht.1 rfl (Nat.le_of_ble_eq_true rfl) (q_X6_hasRoof h t ht l1 e2) ?_
    refine e_if_eq (tgt := 15) dX6_setOwner_5 (by decide) (fun c5 => ?_) (fun c5 => ?_)
    · replace hf := ifp hf c5
      obtain rfl := Option.some.inj hf
      exact e_return dX6_setOwner_15 rfl ⟨rfl, rfl⟩
    · replace hf := ifn hf c5
      refine e_aload_n dX6_setOwner_8 rfl ?_
      refine e_getR dX6_setOwner_9 rfl fl_71 ht.1 rfl ?_
      refine e_iload_n dX6_setOwner_12 rfl ?_
      refine e_iload_n dX6_setOwner_13 rfl ?_
      obtain ⟨g14, hf⟩ := gd_some hf
      refine e_iast dX6_setOwner_14 ht.2.2.2.1 g14 ?_
      obtain rfl := Option.some.inj hf
      exact e_return dX6_setOwner_15 rfl ⟨rfl, rfl⟩
  exact Cn_of rfl (fun _ => Nat.le_of_ble_eq_true rfl) ⟨rfl, rfl⟩ (e_pad 0 key)
abbrev m_X6_roofsOf : MI := (yX6_roofsOf, cX6_roofsOf, 4, some .int, { frames := 1, cells := 0, slots := 0, locals := 21 })
def p_X6_roofsOf_33 (K4 : Int → Int → Int → Option (Int)) (h : Mem) (t : Nat)  (l1 l2 l3 : Int) : Option (Int) :=
  K4 l1 l2 (wr (l3 + 1))
set_option maxRecDepth 20000 in
theorem q_X6_roofsOf_33 (K4 : Int → Int → Int → Option (Int)) (h : Mem) (t : Nat) (ht : IsT t)   (l1 l2 l3 : Int) {X : Int} (hK4 : ∀ (l1 l2 l3 : Int), K4 l1 l2 l3 = some X → E m_X6_roofsOf none (fun r h' => r = some (vi X) ∧ h' = h) 4 [some (vr t), some (vi l1), some (vi l2), some (vi l3)] [] h) (hf : p_X6_roofsOf_33 K4 h t  l1 l2 l3 = some X) : E m_X6_roofsOf none (fun r h' => r = some (vi X) ∧ h' = h) 33 [some (vr t), some (vi l1), some (vi l2), some (vi l3)] [] h := by
  unfold p_X6_roofsOf_33 at hf
  refine e_iinc (ls' := [some (vr t), some (vi l1), some (vi l2), some (vi (wr (l3 + 1)))]) dX6_roofsOf_33 rfl (Nat.le_of_ble_eq_true rfl) rfl ?_
  refine e_goto (tgt := 4) dX6_roofsOf_36 (by decide) ?_
  exact e_mask [true, true, true, true] (hK4 l1 l2 (wr (l3 + 1)) hf)
def p_X6_roofsOf_4 (K4 : Int → Int → Int → Option (Int)) (h : Mem) (t : Nat)  (l1 l2 l3 : Int) : Option (Int) :=
  if 5 ≤ l3 then (some l2) else (bd (p_X6_hasRoof h t l3) (fun r11 => if r11 = 0 then (p_X6_roofsOf_33 K4 h t  l1 l2 l3) else (gd (0 ≤ l3 ∧ l3 < 5) (if h (t + 3) l3 = l1 then (p_X6_roofsOf_33 K4 h t  l1 (bor l2 (bshl 1 l3)) l3) else (p_X6_roofsOf_33 K4 h t  l1 l2 l3)))))
set_option maxRecDepth 20000 in
theorem q_X6_roofsOf_4 (K4 : Int → Int → Int → Option (Int)) (h : Mem) (t : Nat) (ht : IsT t)   (l1 l2 l3 : Int) {X : Int} (hK4 : ∀ (l1 l2 l3 : Int), K4 l1 l2 l3 = some X → E m_X6_roofsOf none (fun r h' => r = some (vi X) ∧ h' = h) 4 [some (vr t), some (vi l1), some (vi l2), some (vi l3)] [] h) (hf : p_X6_roofsOf_4 K4 h t  l1 l2 l3 = some X) : E m_X6_roofsOf none (fun r h' => r = some (vi X) ∧ h' = h) 4 [some (vr t), some (vi l1), some (vi l2), some (vi l3)] [] h := by
  unfold p_X6_roofsOf_4 at hf
  refine e_iload_n dX6_roofsOf_4 rfl ?_
  refine e_iconst dX6_roofsOf_5 ⟨by decide, by decide⟩ ?_
  refine e_icmp_ge (tgt := 39) dX6_roofsOf_6 (by decide) (fun c6 => ?_) (fun c6 => ?_)
  · replace hf := ifp hf c6
    refine e_iload_n dX6_roofsOf_39 rfl ?_
    obtain rfl := Option.some.inj hf
    exact e_ireturn dX6_roofsOf_40 rfl ⟨rfl, rfl⟩
  · replace hf := ifn hf c6
    refine e_aload_n dX6_roofsOf_9 rfl ?_
    refine e_iload_n dX6_roofsOf_10 rfl ?_
    obtain ⟨r11, e11, hf⟩ := bd_some hf
    refine e_callV1i dX6_roofsOf_11 rfl lk_328 ⟨rfl, rfl, Nat.le_of_ble_eq_true rfl, Nat.le_of_ble_eq_true rfl⟩ ht.1 rfl (Nat.le_of_ble_eq_true rfl) (q_X6_hasRoof h t ht l3 e11) ?_
    refine e_if_eq (tgt := 33) dX6_roofsOf_14 (by decide) (fun c14 => ?_) (fun c14 => ?_)
    · replace hf := ifp hf c14
      exact e_mask [true, true, true, true] (q_X6_roofsOf_33 K4 h t ht   l1 l2 l3 hK4 hf)
    · replace hf := ifn hf c14
      refine e_aload_n dX6_roofsOf_17 rfl ?_
      refine e_getR dX6_roofsOf_18 rfl fl_71 ht.1 rfl ?_
      refine e_iload_n dX6_roofsOf_21 rfl ?_
      obtain ⟨g22, hf⟩ := gd_some hf
      refine e_iald dX6_roofsOf_22 ht.2.2.2.1 g22 ?_
      refine e_iload_n dX6_roofsOf_23 rfl ?_
      refine e_icmp_ne (tgt := 33) dX6_roofsOf_24 (by decide) (fun c24 => ?_) (fun c24 => ?_)
      · replace hf := ifn hf c24
        exact e_mask [true, true, true, true] (q_X6_roofsOf_33 K4 h t ht   l1 l2 l3 hK4 hf)
      · replace hf := ifp hf c24
        refine e_iload_n dX6_roofsOf_27 rfl ?_
        refine e_iconst dX6_roofsOf_28 ⟨by decide, by decide⟩ ?_
        refine e_iload_n dX6_roofsOf_29 rfl ?_
        refine e_ishl dX6_roofsOf_30 ?_
        refine e_ior dX6_roofsOf_31 ?_
        refine e_istore_n (ls' := [some (vr t), some (vi l1), some (vi (bor l2 (bshl 1 l3))), some (vi l3)]) dX6_roofsOf_32 (Nat.le_of_ble_eq_true rfl) rfl ?_
        exact e_mask [true, true, true, true] (q_X6_roofsOf_33 K4 h t ht   l1 (bor l2 (bshl 1 l3)) l3 hK4 hf)
def p_X6_roofsOf_L4  (h : Mem) (t : Nat)  : Nat → Int → Int → Int → Option (Int)
  | 0, _, _, _ => none
  | n + 1, l1, l2, l3 => p_X6_roofsOf_4 (fun (l1 l2 l3 : Int) => p_X6_roofsOf_L4  h t  n l1 l2 l3) h t  l1 l2 l3
theorem q_X6_roofsOf_L4  (h : Mem) (t : Nat) (ht : IsT t)   {X : Int}  : ∀ (n : Nat) (l1 l2 l3 : Int), p_X6_roofsOf_L4  h t  n l1 l2 l3 = some X → E m_X6_roofsOf none (fun r h' => r = some (vi X) ∧ h' = h) 4 [some (vr t), some (vi l1), some (vi l2), some (vi l3)] [] h := by
  intro n
  induction n with
  | zero => intro l1 l2 l3 hf; have hf2 : (none : Option (Int)) = some X := hf; cases hf2
  | succ n ih => intro l1 l2 l3 hf; exact q_X6_roofsOf_4 (fun (l1 l2 l3 : Int) => p_X6_roofsOf_L4  h t  n l1 l2 l3) h t ht   l1 l2 l3 (fun l1 l2 l3 hf => ih l1 l2 l3 hf) hf
def p_X6_roofsOf (h : Mem) (t : Nat) (l1 : Int) : Option (Int) :=
  p_X6_roofsOf_L4  h t  300  l1 0 0
set_option maxRecDepth 20000 in
theorem q_X6_roofsOf (h : Mem) (t : Nat) (ht : IsT t) (l1 : Int) {X : Int} (hf : p_X6_roofsOf h t l1 = some X) : Cn m_X6_roofsOf [vr t, vi l1] h (fun r h' => r = some (vi X) ∧ h' = h) := by
  unfold p_X6_roofsOf at hf
  have key : E m_X6_roofsOf none (fun r h' => r = some (vi X) ∧ h' = h) 0 [some (vr t), some (vi l1), none, none] [] h := by
    refine e_iconst dX6_roofsOf_0 ⟨by decide, by decide⟩ ?_
    refine e_istore_n (ls' := [some (vr t), some (vi l1), some (vi 0), none]) dX6_roofsOf_1 (Nat.le_of_ble_eq_true rfl) rfl ?_
    refine e_iconst dX6_roofsOf_2 ⟨by decide, by decide⟩ ?_
    refine e_istore_n (ls' := [some (vr t), some (vi l1), some (vi 0), some (vi 0)]) dX6_roofsOf_3 (Nat.le_of_ble_eq_true rfl) rfl ?_
    exact e_mask [true, true, true, true] (q_X6_roofsOf_L4  h t ht    300  l1 0 0 hf)
  exact Cn_of rfl (fun _ => Nat.le_of_ble_eq_true rfl) ⟨rfl, rfl⟩ (e_pad 2 key)
abbrev m_X6_copyOf : MI := (yX6_copyOf, cX6_copyOf, 2, none, { frames := 1, cells := 0, slots := 0, locals := 18 })
def p_X6_copyOf_64  (h : Mem) (t : Nat) (u : Nat)   : Option (Mem) :=
  gd ((up (up h t 5 (h u 5)) t 6 ((up h t 5 (h u 5)) u 6)) u 7 = 0 ∨ (up (up h t 5 (h u 5)) t 6 ((up h t 5 (h u 5)) u 6)) u 7 = 1) (some (up (up (up h t 5 (h u 5)) t 6 ((up h t 5 (h u 5)) u 6)) t 7 ((up (up h t 5 (h u 5)) t 6 ((up h t 5 (h u 5)) u 6)) u 7)))
set_option maxRecDepth 20000 in
theorem q_X6_copyOf_64  (h : Mem) (t : Nat) (u : Nat) (ht : IsT t) (hu : IsT u)    {X : Mem}  (hf : p_X6_copyOf_64  h t u   = some X) : E m_X6_copyOf none (fun r h' => r = none ∧ h' = X) 64 [some (vr t), some (vr u)] [] h := by
  unfold p_X6_copyOf_64 at hf
  refine e_aload_n dX6_copyOf_64 rfl ?_
  refine e_aload_n dX6_copyOf_65 rfl ?_
  refine e_getI (kz := 5) rfl dX6_copyOf_66 rfl fl_77 hu.1 rfl (Or.inl rfl) ?_
  refine e_putI (t := 0) (kz := 5) rfl dX6_copyOf_69 rfl fp_77 ht.1 rfl (Or.inl rfl) ?_
  refine e_aload_n dX6_copyOf_72 rfl ?_
  refine e_aload_n dX6_copyOf_73 rfl ?_
  refine e_getI (kz := 6) rfl dX6_copyOf_74 rfl fl_79 hu.1 rfl (Or.inl rfl) ?_
  refine e_putI (t := 0) (kz := 6) rfl dX6_copyOf_77 rfl fp_79 ht.1 rfl (Or.inl rfl) ?_
  refine e_aload_n dX6_copyOf_80 rfl ?_
  refine e_aload_n dX6_copyOf_81 rfl ?_
  refine e_getI (kz := 7) rfl dX6_copyOf_82 rfl fl_82 hu.1 rfl (Or.inr rfl) ?_
  obtain ⟨g85, hf⟩ := gd_some hf
  refine e_putI (t := 2) (kz := 7) rfl dX6_copyOf_85 rfl fp_82 ht.1 rfl (Or.inr ⟨rfl, g85⟩) ?_
  obtain rfl := Option.some.inj hf
  exact e_return dX6_copyOf_88 rfl ⟨rfl, rfl⟩
def p_X6_copyOf (h : Mem) (t : Nat) (u : Nat)  : Option (Mem) :=
  p_X6_copyOf_64  (up (cp (cp (cp (cp h (u + 1) 0 (t + 1) 0 5) (u + 2) 0 (t + 2) 0 5) (u + 3) 0 (t + 3) 0 5) (u + 4) 0 (t + 4) 0 4) t 4 ((cp (cp (cp (cp h (u + 1) 0 (t + 1) 0 5) (u + 2) 0 (t + 2) 0 5) (u + 3) 0 (t + 3) 0 5) (u + 4) 0 (t + 4) 0 4) u 4)) t u  
set_option maxRecDepth 20000 in
theorem q_X6_copyOf (h : Mem) (t : Nat) (u : Nat) (ht : IsT t) (hu : IsT u)  {X : Mem} (hf : p_X6_copyOf h t u  = some X) : Cn m_X6_copyOf [vr t, vr u] h (fun r h' => r = none ∧ h' = X) := by
  unfold p_X6_copyOf at hf
  have key : E m_X6_copyOf none (fun r h' => r = none ∧ h' = X) 0 [some (vr t), some (vr u)] [] h := by
    refine e_aload_n dX6_copyOf_0 rfl ?_
    refine e_getR dX6_copyOf_1 rfl fl_67 hu.1 rfl ?_
    refine e_iconst dX6_copyOf_4 ⟨by decide, by decide⟩ ?_
    refine e_aload_n dX6_copyOf_5 rfl ?_
    refine e_getR dX6_copyOf_6 rfl fl_67 ht.1 rfl ?_
    refine e_iconst dX6_copyOf_9 ⟨by decide, by decide⟩ ?_
    refine e_iconst dX6_copyOf_10 ⟨by decide, by decide⟩ ?_
    refine e_acopy dX6_copyOf_11 rfl tw_515 ⟨tw_436, tw_435, tw_12⟩ hu.2.1 ht.2.1 (by decide) (by decide) (by decide) (by decide) (by decide) (Nat.le_of_ble_eq_true rfl) (Nat.le_of_ble_eq_true rfl) ?_
    refine e_aload_n dX6_copyOf_14 rfl ?_
    refine e_getR dX6_copyOf_15 rfl fl_69 hu.1 rfl ?_
    refine e_iconst dX6_copyOf_18 ⟨by decide, by decide⟩ ?_
    refine e_aload_n dX6_copyOf_19 rfl ?_
    refine e_getR dX6_copyOf_20 rfl fl_69 ht.1 rfl ?_
    refine e_iconst dX6_copyOf_23 ⟨by decide, by decide⟩ ?_
    refine e_iconst dX6_copyOf_24 ⟨by decide, by decide⟩ ?_
    refine e_acopy dX6_copyOf_25 rfl tw_515 ⟨tw_436, tw_435, tw_12⟩ hu.2.2.1 ht.2.2.1 (by decide) (by decide) (by decide) (by decide) (by decide) (Nat.le_of_ble_eq_true rfl) (Nat.le_of_ble_eq_true rfl) ?_
    refine e_aload_n dX6_copyOf_28 rfl ?_
    refine e_getR dX6_copyOf_29 rfl fl_71 hu.1 rfl ?_
    refine e_iconst dX6_copyOf_32 ⟨by decide, by decide⟩ ?_
    refine e_aload_n dX6_copyOf_33 rfl ?_
    refine e_getR dX6_copyOf_34 rfl fl_71 ht.1 rfl ?_
    refine e_iconst dX6_copyOf_37 ⟨by decide, by decide⟩ ?_
    refine e_iconst dX6_copyOf_38 ⟨by decide, by decide⟩ ?_
    refine e_acopy dX6_copyOf_39 rfl tw_515 ⟨tw_436, tw_435, tw_12⟩ hu.2.2.2.1 ht.2.2.2.1 (by decide) (by decide) (by decide) (by decide) (by decide) (Nat.le_of_ble_eq_true rfl) (Nat.le_of_ble_eq_true rfl) ?_
    refine e_aload_n dX6_copyOf_42 rfl ?_
    refine e_getR dX6_copyOf_43 rfl fl_73 hu.1 rfl ?_
    refine e_iconst dX6_copyOf_46 ⟨by decide, by decide⟩ ?_
    refine e_aload_n dX6_copyOf_47 rfl ?_
    refine e_getR dX6_copyOf_48 rfl fl_73 ht.1 rfl ?_
    refine e_iconst dX6_copyOf_51 ⟨by decide, by decide⟩ ?_
    refine e_iconst dX6_copyOf_52 ⟨by decide, by decide⟩ ?_
    refine e_acopy dX6_copyOf_53 rfl tw_515 ⟨tw_436, tw_435, tw_12⟩ hu.2.2.2.2 ht.2.2.2.2 (by decide) (by decide) (by decide) (by decide) (by decide) (Nat.le_of_ble_eq_true rfl) (Nat.le_of_ble_eq_true rfl) ?_
    refine e_aload_n dX6_copyOf_56 rfl ?_
    refine e_aload_n dX6_copyOf_57 rfl ?_
    refine e_getI (kz := 4) rfl dX6_copyOf_58 rfl fl_75 hu.1 rfl (Or.inl rfl) ?_
    refine e_putI (t := 0) (kz := 4) rfl dX6_copyOf_61 rfl fp_75 ht.1 rfl (Or.inl rfl) ?_
    exact e_mask [true, true] (q_X6_copyOf_64  (up (cp (cp (cp (cp h (u + 1) 0 (t + 1) 0 5) (u + 2) 0 (t + 2) 0 5) (u + 3) 0 (t + 3) 0 5) (u + 4) 0 (t + 4) 0 4) t 4 ((cp (cp (cp (cp h (u + 1) 0 (t + 1) 0 5) (u + 2) 0 (t + 2) 0 5) (u + 3) 0 (t + 3) 0 5) (u + 4) 0 (t + 4) 0 4) u 4)) t u ht hu     hf)
  exact Cn_of rfl (fun _ => Nat.le_of_ble_eq_true rfl) ⟨rfl, rfl⟩ (e_pad 0 key)
