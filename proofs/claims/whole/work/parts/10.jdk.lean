abbrev m_J6_bitCount_0f7a4 : MI := (yJ6_bitCount_0f7a4, cJ6_bitCount_0f7a4, 1, some .int, { frames := 0, cells := 0, slots := 0, locals := 0 })
def p_J6_bitCount_0f7a4_41  (h : Mem)   (l0 : Int) : Option (Int) :=
  some (band (wr (l0 + (biushr l0 16))) 63)
set_option maxRecDepth 20000 in
theorem q_J6_bitCount_0f7a4_41  (h : Mem)     (l0 : Int) {X : Int}  (hf : p_J6_bitCount_0f7a4_41  h   l0 = some X) : E m_J6_bitCount_0f7a4 none (fun r h' => r = some (vi X) ∧ h' = h) 41 [some (vi l0)] [] h := by
  unfold p_J6_bitCount_0f7a4_41 at hf
  refine e_iload_n dJ6_bitCount_0f7a4_41 rfl ?_
  refine e_iload_n dJ6_bitCount_0f7a4_42 rfl ?_
  refine e_bipush dJ6_bitCount_0f7a4_43 ⟨by decide, by decide, by decide⟩ ?_
  refine e_iushr dJ6_bitCount_0f7a4_45 ?_
  refine e_iadd dJ6_bitCount_0f7a4_46 ?_
  refine e_istore_n (ls' := [some (vi (wr (l0 + (biushr l0 16))))]) dJ6_bitCount_0f7a4_47 (Nat.le_of_ble_eq_true rfl) rfl ?_
  refine e_iload_n dJ6_bitCount_0f7a4_48 rfl ?_
  refine e_bipush dJ6_bitCount_0f7a4_49 ⟨by decide, by decide, by decide⟩ ?_
  refine e_iand dJ6_bitCount_0f7a4_51 ?_
  obtain rfl := Option.some.inj hf
  exact e_ireturn dJ6_bitCount_0f7a4_52 rfl ⟨rfl, rfl⟩
def p_J6_bitCount_0f7a4_24  (h : Mem)   (l0 : Int) : Option (Int) :=
  p_J6_bitCount_0f7a4_41  h   (wr ((band (wr (l0 + (biushr l0 4))) 252645135) + (biushr (band (wr (l0 + (biushr l0 4))) 252645135) 8)))
set_option maxRecDepth 20000 in
theorem q_J6_bitCount_0f7a4_24  (h : Mem)     (l0 : Int) {X : Int}  (hf : p_J6_bitCount_0f7a4_24  h   l0 = some X) : E m_J6_bitCount_0f7a4 none (fun r h' => r = some (vi X) ∧ h' = h) 24 [some (vi l0)] [] h := by
  unfold p_J6_bitCount_0f7a4_24 at hf
  refine e_iload_n dJ6_bitCount_0f7a4_24 rfl ?_
  refine e_iload_n dJ6_bitCount_0f7a4_25 rfl ?_
  refine e_iconst dJ6_bitCount_0f7a4_26 ⟨by decide, by decide⟩ ?_
  refine e_iushr dJ6_bitCount_0f7a4_27 ?_
  refine e_iadd dJ6_bitCount_0f7a4_28 ?_
  refine e_ldcw (a := 252645135) dJ6_bitCount_0f7a4_29 rfl tw_506 ⟨by decide, by decide⟩ ?_
  refine e_iand dJ6_bitCount_0f7a4_32 ?_
  refine e_istore_n (ls' := [some (vi (band (wr (l0 + (biushr l0 4))) 252645135))]) dJ6_bitCount_0f7a4_33 (Nat.le_of_ble_eq_true rfl) rfl ?_
  refine e_iload_n dJ6_bitCount_0f7a4_34 rfl ?_
  refine e_iload_n dJ6_bitCount_0f7a4_35 rfl ?_
  refine e_bipush dJ6_bitCount_0f7a4_36 ⟨by decide, by decide, by decide⟩ ?_
  refine e_iushr dJ6_bitCount_0f7a4_38 ?_
  refine e_iadd dJ6_bitCount_0f7a4_39 ?_
  refine e_istore_n (ls' := [some (vi (wr ((band (wr (l0 + (biushr l0 4))) 252645135) + (biushr (band (wr (l0 + (biushr l0 4))) 252645135) 8))))]) dJ6_bitCount_0f7a4_40 (Nat.le_of_ble_eq_true rfl) rfl ?_
  exact e_mask [true] (q_J6_bitCount_0f7a4_41  h     (wr ((band (wr (l0 + (biushr l0 4))) 252645135) + (biushr (band (wr (l0 + (biushr l0 4))) 252645135) 8)))  hf)
def p_J6_bitCount_0f7a4 (h : Mem)  (l0 : Int) : Option (Int) :=
  p_J6_bitCount_0f7a4_24  h   (wr ((band (wr (l0 - (band (biushr l0 1) 1431655765))) 858993459) + (band (biushr (wr (l0 - (band (biushr l0 1) 1431655765))) 2) 858993459)))
set_option maxRecDepth 20000 in
theorem q_J6_bitCount_0f7a4 (h : Mem)   (l0 : Int) {X : Int} (hf : p_J6_bitCount_0f7a4 h  l0 = some X) : Cn m_J6_bitCount_0f7a4 [vi l0] h (fun r h' => r = some (vi X) ∧ h' = h) := by
  unfold p_J6_bitCount_0f7a4 at hf
  have key : E m_J6_bitCount_0f7a4 none (fun r h' => r = some (vi X) ∧ h' = h) 0 [some (vi l0)] [] h := by
    refine e_iload_n dJ6_bitCount_0f7a4_0 rfl ?_
    refine e_iload_n dJ6_bitCount_0f7a4_1 rfl ?_
    refine e_iconst dJ6_bitCount_0f7a4_2 ⟨by decide, by decide⟩ ?_
    refine e_iushr dJ6_bitCount_0f7a4_3 ?_
    refine e_ldcw (a := 1431655765) dJ6_bitCount_0f7a4_4 rfl tw_504 ⟨by decide, by decide⟩ ?_
    refine e_iand dJ6_bitCount_0f7a4_7 ?_
    refine e_isub dJ6_bitCount_0f7a4_8 ?_
    refine e_istore_n (ls' := [some (vi (wr (l0 - (band (biushr l0 1) 1431655765))))]) dJ6_bitCount_0f7a4_9 (Nat.le_of_ble_eq_true rfl) rfl ?_
    refine e_iload_n dJ6_bitCount_0f7a4_10 rfl ?_
    refine e_ldcw (a := 858993459) dJ6_bitCount_0f7a4_11 rfl tw_505 ⟨by decide, by decide⟩ ?_
    refine e_iand dJ6_bitCount_0f7a4_14 ?_
    refine e_iload_n dJ6_bitCount_0f7a4_15 rfl ?_
    refine e_iconst dJ6_bitCount_0f7a4_16 ⟨by decide, by decide⟩ ?_
    refine e_iushr dJ6_bitCount_0f7a4_17 ?_
    refine e_ldcw (a := 858993459) dJ6_bitCount_0f7a4_18 rfl tw_505 ⟨by decide, by decide⟩ ?_
    refine e_iand dJ6_bitCount_0f7a4_21 ?_
    refine e_iadd dJ6_bitCount_0f7a4_22 ?_
    refine e_istore_n (ls' := [some (vi (wr ((band (wr (l0 - (band (biushr l0 1) 1431655765))) 858993459) + (band (biushr (wr (l0 - (band (biushr l0 1) 1431655765))) 2) 858993459))))]) dJ6_bitCount_0f7a4_23 (Nat.le_of_ble_eq_true rfl) rfl ?_
    exact e_mask [true] (q_J6_bitCount_0f7a4_24  h     (wr ((band (wr (l0 - (band (biushr l0 1) 1431655765))) 858993459) + (band (biushr (wr (l0 - (band (biushr l0 1) 1431655765))) 2) 858993459)))  hf)
  exact Cn_of rfl (fun _ => Nat.le_of_ble_eq_true rfl) ⟨rfl, rfl⟩ (e_pad 0 key)
abbrev m_J13_bitCount_95d88 : MI := (yJ13_bitCount_95d88, cJ13_bitCount_95d88, 2, some .int, { frames := 0, cells := 0, slots := 0, locals := 0 })
def p_J13_bitCount_95d88_55  (h : Mem)   (l0 : Int) : Option (Int) :=
  some (band ((I6 l0).toInt32.toInt) 127)
set_option maxRecDepth 20000 in
theorem q_J13_bitCount_95d88_55  (h : Mem)     (l0 : Int) {X : Int}  (hf : p_J13_bitCount_95d88_55  h   l0 = some X) : E m_J13_bitCount_95d88 none (fun r h' => r = some (vi X) ∧ h' = h) 55 [some (vl l0), none] [] h := by
  unfold p_J13_bitCount_95d88_55 at hf
  refine e_lload_n dJ13_bitCount_95d88_55 rfl ?_
  refine e_l2i dJ13_bitCount_95d88_56 ?_
  refine e_bipush dJ13_bitCount_95d88_57 ⟨by decide, by decide, by decide⟩ ?_
  refine e_iand dJ13_bitCount_95d88_59 ?_
  obtain rfl := Option.some.inj hf
  exact e_ireturn dJ13_bitCount_95d88_60 rfl ⟨rfl, rfl⟩
def p_J13_bitCount_95d88_41  (h : Mem)   (l0 : Int) : Option (Int) :=
  p_J13_bitCount_95d88_55  h   (wl ((wl (l0 + (lushr64 l0 16))) + (lushr64 (wl (l0 + (lushr64 l0 16))) 32)))
set_option maxRecDepth 20000 in
theorem q_J13_bitCount_95d88_41  (h : Mem)     (l0 : Int) {X : Int}  (hf : p_J13_bitCount_95d88_41  h   l0 = some X) : E m_J13_bitCount_95d88 none (fun r h' => r = some (vi X) ∧ h' = h) 41 [some (vl l0), none] [] h := by
  unfold p_J13_bitCount_95d88_41 at hf
  refine e_lload_n dJ13_bitCount_95d88_41 rfl ?_
  refine e_lload_n dJ13_bitCount_95d88_42 rfl ?_
  refine e_bipush dJ13_bitCount_95d88_43 ⟨by decide, by decide, by decide⟩ ?_
  refine e_lushr dJ13_bitCount_95d88_45 ?_
  refine e_ladd dJ13_bitCount_95d88_46 ?_
  refine e_lstore_n (ls' := [some (vl (wl (l0 + (lushr64 l0 16)))), none]) dJ13_bitCount_95d88_47 (Nat.le_of_ble_eq_true rfl) rfl ?_
  refine e_lload_n dJ13_bitCount_95d88_48 rfl ?_
  refine e_lload_n dJ13_bitCount_95d88_49 rfl ?_
  refine e_bipush dJ13_bitCount_95d88_50 ⟨by decide, by decide, by decide⟩ ?_
  refine e_lushr dJ13_bitCount_95d88_52 ?_
  refine e_ladd dJ13_bitCount_95d88_53 ?_
  refine e_lstore_n (ls' := [some (vl (wl ((wl (l0 + (lushr64 l0 16))) + (lushr64 (wl (l0 + (lushr64 l0 16))) 32)))), none]) dJ13_bitCount_95d88_54 (Nat.le_of_ble_eq_true rfl) rfl ?_
  exact e_mask [true, false] (q_J13_bitCount_95d88_55  h     (wl ((wl (l0 + (lushr64 l0 16))) + (lushr64 (wl (l0 + (lushr64 l0 16))) 32)))  hf)
def p_J13_bitCount_95d88_24  (h : Mem)   (l0 : Int) : Option (Int) :=
  p_J13_bitCount_95d88_41  h   (wl ((land64 (wl (l0 + (lushr64 l0 4))) 1085102592571150095) + (lushr64 (land64 (wl (l0 + (lushr64 l0 4))) 1085102592571150095) 8)))
set_option maxRecDepth 20000 in
theorem q_J13_bitCount_95d88_24  (h : Mem)     (l0 : Int) {X : Int}  (hf : p_J13_bitCount_95d88_24  h   l0 = some X) : E m_J13_bitCount_95d88 none (fun r h' => r = some (vi X) ∧ h' = h) 24 [some (vl l0), none] [] h := by
  unfold p_J13_bitCount_95d88_24 at hf
  refine e_lload_n dJ13_bitCount_95d88_24 rfl ?_
  refine e_lload_n dJ13_bitCount_95d88_25 rfl ?_
  refine e_iconst dJ13_bitCount_95d88_26 ⟨by decide, by decide⟩ ?_
  refine e_lushr dJ13_bitCount_95d88_27 ?_
  refine e_ladd dJ13_bitCount_95d88_28 ?_
  refine e_ldc2 (a := 1085102592571150095) dJ13_bitCount_95d88_29 rfl tw_630 ⟨by decide, by decide⟩ ?_
  refine e_land dJ13_bitCount_95d88_32 ?_
  refine e_lstore_n (ls' := [some (vl (land64 (wl (l0 + (lushr64 l0 4))) 1085102592571150095)), none]) dJ13_bitCount_95d88_33 (Nat.le_of_ble_eq_true rfl) rfl ?_
  refine e_lload_n dJ13_bitCount_95d88_34 rfl ?_
  refine e_lload_n dJ13_bitCount_95d88_35 rfl ?_
  refine e_bipush dJ13_bitCount_95d88_36 ⟨by decide, by decide, by decide⟩ ?_
  refine e_lushr dJ13_bitCount_95d88_38 ?_
  refine e_ladd dJ13_bitCount_95d88_39 ?_
  refine e_lstore_n (ls' := [some (vl (wl ((land64 (wl (l0 + (lushr64 l0 4))) 1085102592571150095) + (lushr64 (land64 (wl (l0 + (lushr64 l0 4))) 1085102592571150095) 8)))), none]) dJ13_bitCount_95d88_40 (Nat.le_of_ble_eq_true rfl) rfl ?_
  exact e_mask [true, false] (q_J13_bitCount_95d88_41  h     (wl ((land64 (wl (l0 + (lushr64 l0 4))) 1085102592571150095) + (lushr64 (land64 (wl (l0 + (lushr64 l0 4))) 1085102592571150095) 8)))  hf)
def p_J13_bitCount_95d88 (h : Mem)  (l0 : Int) : Option (Int) :=
  p_J13_bitCount_95d88_24  h   (wl ((land64 (wl (l0 - (land64 (lushr64 l0 1) 6148914691236517205))) 3689348814741910323) + (land64 (lushr64 (wl (l0 - (land64 (lushr64 l0 1) 6148914691236517205))) 2) 3689348814741910323)))
set_option maxRecDepth 20000 in
theorem q_J13_bitCount_95d88 (h : Mem)   (l0 : Int) {X : Int} (hf : p_J13_bitCount_95d88 h  l0 = some X) : Cn m_J13_bitCount_95d88 [vl l0] h (fun r h' => r = some (vi X) ∧ h' = h) := by
  unfold p_J13_bitCount_95d88 at hf
  have key : E m_J13_bitCount_95d88 none (fun r h' => r = some (vi X) ∧ h' = h) 0 [some (vl l0), none] [] h := by
    refine e_lload_n dJ13_bitCount_95d88_0 rfl ?_
    refine e_lload_n dJ13_bitCount_95d88_1 rfl ?_
    refine e_iconst dJ13_bitCount_95d88_2 ⟨by decide, by decide⟩ ?_
    refine e_lushr dJ13_bitCount_95d88_3 ?_
    refine e_ldc2 (a := 6148914691236517205) dJ13_bitCount_95d88_4 rfl tw_628 ⟨by decide, by decide⟩ ?_
    refine e_land dJ13_bitCount_95d88_7 ?_
    refine e_lsub dJ13_bitCount_95d88_8 ?_
    refine e_lstore_n (ls' := [some (vl (wl (l0 - (land64 (lushr64 l0 1) 6148914691236517205)))), none]) dJ13_bitCount_95d88_9 (Nat.le_of_ble_eq_true rfl) rfl ?_
    refine e_lload_n dJ13_bitCount_95d88_10 rfl ?_
    refine e_ldc2 (a := 3689348814741910323) dJ13_bitCount_95d88_11 rfl tw_629 ⟨by decide, by decide⟩ ?_
    refine e_land dJ13_bitCount_95d88_14 ?_
    refine e_lload_n dJ13_bitCount_95d88_15 rfl ?_
    refine e_iconst dJ13_bitCount_95d88_16 ⟨by decide, by decide⟩ ?_
    refine e_lushr dJ13_bitCount_95d88_17 ?_
    refine e_ldc2 (a := 3689348814741910323) dJ13_bitCount_95d88_18 rfl tw_629 ⟨by decide, by decide⟩ ?_
    refine e_land dJ13_bitCount_95d88_21 ?_
    refine e_ladd dJ13_bitCount_95d88_22 ?_
    refine e_lstore_n (ls' := [some (vl (wl ((land64 (wl (l0 - (land64 (lushr64 l0 1) 6148914691236517205))) 3689348814741910323) + (land64 (lushr64 (wl (l0 - (land64 (lushr64 l0 1) 6148914691236517205))) 2) 3689348814741910323)))), none]) dJ13_bitCount_95d88_23 (Nat.le_of_ble_eq_true rfl) rfl ?_
    exact e_mask [true, false] (q_J13_bitCount_95d88_24  h     (wl ((land64 (wl (l0 - (land64 (lushr64 l0 1) 6148914691236517205))) 3689348814741910323) + (land64 (lushr64 (wl (l0 - (land64 (lushr64 l0 1) 6148914691236517205))) 2) 3689348814741910323)))  hf)
  exact Cn_of rfl (fun _ => Nat.le_of_ble_eq_true rfl) ⟨rfl, rfl⟩ (e_pad 0 key)
