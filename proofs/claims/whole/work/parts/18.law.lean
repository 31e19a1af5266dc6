abbrev m_L_law : MI := (yL_law, cL_law, 4, some .boolean, room_1)
theorem lk_973 : VLk "StarRightLaw" 101 m_X9_rests 4 := ⟨tw_973, tw_974, tw_975, tw_10, tw_976, by decide +kernel⟩
theorem lk_588 : VLk "StarRightLaw" 102 m_X8_shine 3 := ⟨tw_588, tw_589, tw_590, tw_1, tw_591, by decide +kernel⟩
theorem lk_985 : VLk "StarRightLaw" 105 m_X9_shine 3 := ⟨tw_985, tw_986, tw_987, tw_10, tw_988, by decide +kernel⟩
theorem lk_601 : VLk "StarRightLaw" 106 m_X8_unshine 0 := ⟨tw_601, tw_602, tw_603, tw_1, tw_604, by decide +kernel⟩
theorem lk_989 : VLk "StarRightLaw" 109 m_X9_unshine 0 := ⟨tw_989, tw_990, tw_991, tw_10, tw_992, by decide +kernel⟩
theorem lk_609 : VLk "StarRightLaw" 110 m_X8_found 1 := ⟨tw_609, tw_610, tw_611, tw_1, tw_612, by decide +kernel⟩
theorem lk_993 : VLk "StarRightLaw" 113 m_X9_found 1 := ⟨tw_993, tw_994, tw_995, tw_10, tw_996, by decide +kernel⟩
theorem lk_634 : VLk "StarRightLaw" 114 m_X8_look 0 := ⟨tw_634, tw_635, tw_636, tw_1, tw_637, by decide +kernel⟩
theorem lk_1004 : VLk "StarRightLaw" 117 m_X9_look 0 := ⟨tw_1004, tw_1005, tw_1006, tw_10, tw_1007, by decide +kernel⟩
theorem lk_648 : VLk "StarRightLaw" 118 m_X8_chance 4 := ⟨tw_648, tw_649, tw_650, tw_1, tw_651, by decide +kernel⟩
theorem lk_1008 : VLk "StarRightLaw" 122 m_X9_chance 4 := ⟨tw_1008, tw_1009, tw_1010, tw_10, tw_1011, by decide +kernel⟩
theorem lk_652 : VLk "StarRightLaw" 125 m_X8_seed 1 := ⟨tw_652, tw_653, tw_654, tw_1, tw_655, by decide +kernel⟩
theorem lk_1013 : VLk "StarRightLaw" 129 m_X9_seed 1 := ⟨tw_1013, tw_1014, tw_1015, tw_10, tw_1016, by decide +kernel⟩
theorem lk_231 : VLk "StarRightLaw" 13 m_X8_write 1 := ⟨tw_231, tw_232, tw_233, tw_1, tw_234, by decide +kernel⟩
theorem lk_656 : VLk "StarRightLaw" 130 m_X8_nights 1 := ⟨tw_656, tw_657, tw_658, tw_1, tw_659, by decide +kernel⟩
theorem lk_1017 : VLk "StarRightLaw" 133 m_X9_nights 1 := ⟨tw_1017, tw_1018, tw_1019, tw_10, tw_1020, by decide +kernel⟩
theorem lk_664 : VLk "StarRightLaw" 134 m_X8_keep 1 := ⟨tw_664, tw_665, tw_666, tw_1, tw_667, by decide +kernel⟩
theorem lk_1024 : VLk "StarRightLaw" 137 m_X9_keep 1 := ⟨tw_1024, tw_1025, tw_1026, tw_10, tw_1027, by decide +kernel⟩
theorem lk_672 : VLk "StarRightLaw" 138 m_X8_again 1 := ⟨tw_672, tw_673, tw_674, tw_1, tw_675, by decide +kernel⟩
theorem lk_1028 : VLk "StarRightLaw" 141 m_X9_again 1 := ⟨tw_1028, tw_1029, tw_1030, tw_10, tw_1031, by decide +kernel⟩
theorem lk_794 : VLk "StarRightLaw" 17 m_X9_write 1 := ⟨tw_794, tw_795, tw_796, tw_10, tw_797, by decide +kernel⟩
theorem lk_244 : VLk "StarRightLaw" 18 m_X8_wipe 0 := ⟨tw_244, tw_245, tw_246, tw_1, tw_247, by decide +kernel⟩
theorem lk_802 : VLk "StarRightLaw" 22 m_X9_wipe 0 := ⟨tw_802, tw_803, tw_804, tw_10, tw_805, by decide +kernel⟩
theorem lk_252 : VLk "StarRightLaw" 23 m_X8_fault 0 := ⟨tw_252, tw_253, tw_254, tw_1, tw_255, by decide +kernel⟩
theorem lk_806 : VLk "StarRightLaw" 26 m_X9_fault 0 := ⟨tw_806, tw_807, tw_808, tw_10, tw_809, by decide +kernel⟩
theorem lk_280 : VLk "StarRightLaw" 27 m_X8_night 0 := ⟨tw_280, tw_281, tw_282, tw_1, tw_283, by decide +kernel⟩
theorem lk_834 : VLk "StarRightLaw" 30 m_X9_night 0 := ⟨tw_834, tw_835, tw_836, tw_10, tw_837, by decide +kernel⟩
theorem lk_312 : VLk "StarRightLaw" 31 m_X8_about 1 := ⟨tw_312, tw_313, tw_314, tw_1, tw_315, by decide +kernel⟩
theorem lk_838 : VLk "StarRightLaw" 34 m_X9_about 1 := ⟨tw_838, tw_839, tw_840, tw_10, tw_841, by decide +kernel⟩
theorem lk_339 : VLk "StarRightLaw" 35 m_X8_roof 2 := ⟨tw_339, tw_340, tw_341, tw_1, tw_342, by decide +kernel⟩
theorem lk_856 : VLk "StarRightLaw" 39 m_X9_roof 2 := ⟨tw_856, tw_857, tw_858, tw_10, tw_859, by decide +kernel⟩
theorem lk_389 : VLk "StarRightLaw" 40 m_X8_star 2 := ⟨tw_389, tw_390, tw_391, tw_1, tw_392, by decide +kernel⟩
theorem lk_876 : VLk "StarRightLaw" 43 m_X9_star 2 := ⟨tw_876, tw_877, tw_878, tw_10, tw_879, by decide +kernel⟩
theorem lk_411 : VLk "StarRightLaw" 44 m_X8_purse 1 := ⟨tw_411, tw_412, tw_413, tw_1, tw_414, by decide +kernel⟩
theorem lk_888 : VLk "StarRightLaw" 47 m_X9_purse 1 := ⟨tw_888, tw_889, tw_890, tw_10, tw_891, by decide +kernel⟩
theorem lk_418 : VLk "StarRightLaw" 48 m_X8_build 2 := ⟨tw_418, tw_419, tw_420, tw_1, tw_421, by decide +kernel⟩
theorem lk_893 : VLk "StarRightLaw" 51 m_X9_build 2 := ⟨tw_893, tw_894, tw_895, tw_10, tw_896, by decide +kernel⟩
theorem lk_437 : VLk "StarRightLaw" 52 m_X8_light 1 := ⟨tw_437, tw_438, tw_439, tw_1, tw_440, by decide +kernel⟩
theorem lk_902 : VLk "StarRightLaw" 55 m_X9_light 1 := ⟨tw_902, tw_903, tw_904, tw_10, tw_905, by decide +kernel⟩
theorem lk_441 : VLk "StarRightLaw" 56 m_X8_sell 2 := ⟨tw_441, tw_442, tw_443, tw_1, tw_444, by decide +kernel⟩
theorem lk_906 : VLk "StarRightLaw" 59 m_X9_sell 2 := ⟨tw_906, tw_907, tw_908, tw_10, tw_909, by decide +kernel⟩
theorem lk_449 : VLk "StarRightLaw" 60 m_X8_clouds 0 := ⟨tw_449, tw_450, tw_451, tw_1, tw_452, by decide +kernel⟩
theorem lk_910 : VLk "StarRightLaw" 63 m_X9_clouds 0 := ⟨tw_910, tw_911, tw_912, tw_10, tw_913, by decide +kernel⟩
theorem lk_453 : VLk "StarRightLaw" 64 m_X8_hour 0 := ⟨tw_453, tw_454, tw_455, tw_1, tw_456, by decide +kernel⟩
theorem lk_914 : VLk "StarRightLaw" 67 m_X9_hour 0 := ⟨tw_914, tw_915, tw_916, tw_10, tw_917, by decide +kernel⟩
theorem lk_473 : VLk "StarRightLaw" 68 m_X8_undo 0 := ⟨tw_473, tw_474, tw_475, tw_1, tw_476, by decide +kernel⟩
theorem lk_922 : VLk "StarRightLaw" 71 m_X9_undo 0 := ⟨tw_922, tw_923, tw_924, tw_10, tw_925, by decide +kernel⟩
theorem lk_481 : VLk "StarRightLaw" 72 m_X8_rents 2 := ⟨tw_481, tw_482, tw_483, tw_1, tw_484, by decide +kernel⟩
theorem lk_926 : VLk "StarRightLaw" 75 m_X9_rents 2 := ⟨tw_926, tw_927, tw_928, tw_10, tw_929, by decide +kernel⟩
theorem lk_485 : VLk "StarRightLaw" 76 m_X8_hold 2 := ⟨tw_485, tw_486, tw_487, tw_1, tw_488, by decide +kernel⟩
theorem lk_932 : VLk "StarRightLaw" 79 m_X9_hold 2 := ⟨tw_932, tw_933, tw_934, tw_10, tw_935, by decide +kernel⟩
theorem lk_507 : VLk "StarRightLaw" 80 m_X8_fires 2 := ⟨tw_507, tw_508, tw_509, tw_1, tw_510, by decide +kernel⟩
theorem lk_940 : VLk "StarRightLaw" 83 m_X9_fires 2 := ⟨tw_940, tw_941, tw_942, tw_10, tw_943, by decide +kernel⟩
theorem lk_520 : VLk "StarRightLaw" 84 m_X8_share 3 := ⟨tw_520, tw_521, tw_522, tw_1, tw_523, by decide +kernel⟩
theorem lk_952 : VLk "StarRightLaw" 88 m_X9_share 3 := ⟨tw_952, tw_953, tw_954, tw_10, tw_955, by decide +kernel⟩
theorem lk_540 : VLk "StarRightLaw" 89 m_X8_bestLaw 2 := ⟨tw_540, tw_541, tw_542, tw_1, tw_543, by decide +kernel⟩
theorem lk_965 : VLk "StarRightLaw" 92 m_X9_bestLaw 2 := ⟨tw_965, tw_966, tw_967, tw_10, tw_968, by decide +kernel⟩
theorem lk_548 : VLk "StarRightLaw" 93 m_X8_starless 1 := ⟨tw_548, tw_549, tw_550, tw_1, tw_551, by decide +kernel⟩
theorem lk_969 : VLk "StarRightLaw" 96 m_X9_starless 1 := ⟨tw_969, tw_970, tw_971, tw_10, tw_972, by decide +kernel⟩
theorem lk_556 : VLk "StarRightLaw" 97 m_X8_rests 4 := ⟨tw_556, tw_557, tw_558, tw_1, tw_559, by decide +kernel⟩
def p_L_law_1037 (K18 : Mem → Int → Option (Int × Mem)) (h : Mem)  (L : Nat) (xs : Nat → Int32) (l3 : Int) : Option (Int × Mem) :=
  K18 h (wr (l3 + 5))
set_option maxRecDepth 20000 in
theorem q_L_law_1037 (K18 : Mem → Int → Option (Int × Mem)) (h : Mem)   (L : Nat) (xs : Nat → Int32) (hL : L < 2147483648) (l3 : Int) {X : Int × Mem} (hK18 : ∀ (h : Mem) (l3 : Int), K18 h l3 = some X → E m_L_law (some (L, xs)) (fun r h' => r = some (vi X.1) ∧ h' = X.2) 18 [some (vr 64), some (vr 0), some (vr 45), some (vi l3)] [] h) (hf : p_L_law_1037 K18 h  L xs l3 = some X) : E m_L_law (some (L, xs)) (fun r h' => r = some (vi X.1) ∧ h' = X.2) 1037 [some (vr 64), some (vr 0), some (vr 45), some (vi l3)] [] h := by
  unfold p_L_law_1037 at hf
  refine e_iinc (ls' := [some (vr 64), some (vr 0), some (vr 45), some (vi (wr (l3 + 5)))]) dL_law_1037 rfl (Nat.le_of_ble_eq_true rfl) rfl ?_
  refine e_goto (tgt := 18) dL_law_1040 (by decide) ?_
  exact e_mask [true, true, true, true] (hK18 h (wr (l3 + 5)) hf)
def p_L_law_620 (K18 : Mem → Int → Option (Int × Mem)) (h : Mem)  (L : Nat) (xs : Nat → Int32) (l3 s0 s1 s2 s3 : Int) : Option (Int × Mem) :=
  bd (p_X9_share h s1 s2 s3) (fun q620 => if s0 = q620.1 then (p_L_law_1037 K18 q620.2  L xs l3) else (some (0, q620.2)))
set_option maxRecDepth 20000 in
theorem q_L_law_620 (K18 : Mem → Int → Option (Int × Mem)) (h : Mem)   (L : Nat) (xs : Nat → Int32) (hL : L < 2147483648) (l3 s0 s1 s2 s3 : Int) {X : Int × Mem} (hK18 : ∀ (h : Mem) (l3 : Int), K18 h l3 = some X → E m_L_law (some (L, xs)) (fun r h' => r = some (vi X.1) ∧ h' = X.2) 18 [some (vr 64), some (vr 0), some (vr 45), some (vi l3)] [] h) (hf : p_L_law_620 K18 h  L xs l3 s0 s1 s2 s3 = some X) : E m_L_law (some (L, xs)) (fun r h' => r = some (vi X.1) ∧ h' = X.2) 620 [some (vr 64), some (vr 0), some (vr 45), some (vi l3)] [vi s3, vi s2, vi s1, vr 45, vi s0] h := by
  unfold p_L_law_620 at hf
  obtain ⟨q620, e620, hf⟩ := bd_some hf
  refine e_callV3i dL_law_620 rfl lk_952 ⟨rfl, rfl, Nat.le_of_ble_eq_true rfl, Nat.le_of_ble_eq_true rfl⟩ rfl rfl (Nat.le_of_ble_eq_true rfl) (q_X9_share h   s1 s2 s3 e620) ?_
  refine e_icmp_eq (tgt := 1037) dL_law_623 (by decide) (fun c623 => ?_) (fun c623 => ?_)
  · replace hf := ifp hf c623
    exact e_mask [true, true, true, true] (q_L_law_1037 K18 q620.2   L xs hL l3 hK18 hf)
  · replace hf := ifn hf c623
    refine e_iconst dL_law_626 ⟨by decide, by decide⟩ ?_
    obtain rfl := Option.some.inj hf
    exact e_zreturn dL_law_627 rfl (by decide) ⟨rfl, rfl⟩
def p_L_law_593 (K18 : Mem → Int → Option (Int × Mem)) (h : Mem)  (L : Nat) (xs : Nat → Int32) (l3 s0 s1 s2 : Int) : Option (Int × Mem) :=
  bd (p_X8_share h s0 s1 s2) (fun q593 => gd (0 ≤ wr (l3 + 1) ∧ wr (l3 + 1) < (L : Int)) (gd (0 ≤ wr (l3 + 2) ∧ wr (l3 + 2) < (L : Int)) (gd (0 ≤ wr (l3 + 3) ∧ wr (l3 + 3) < (L : Int)) (if (xs (wr (l3 + 3)).toNat).toInt = 0 then (p_L_law_620 K18 q593.2  L xs l3 q593.1 ((xs (wr (l3 + 1)).toNat).toInt) ((xs (wr (l3 + 2)).toNat).toInt) 0) else (p_L_law_620 K18 q593.2  L xs l3 q593.1 ((xs (wr (l3 + 1)).toNat).toInt) ((xs (wr (l3 + 2)).toNat).toInt) 1)))))
set_option maxRecDepth 20000 in
theorem q_L_law_593 (K18 : Mem → Int → Option (Int × Mem)) (h : Mem)   (L : Nat) (xs : Nat → Int32) (hL : L < 2147483648) (l3 s0 s1 s2 : Int) {X : Int × Mem} (hK18 : ∀ (h : Mem) (l3 : Int), K18 h l3 = some X → E m_L_law (some (L, xs)) (fun r h' => r = some (vi X.1) ∧ h' = X.2) 18 [some (vr 64), some (vr 0), some (vr 45), some (vi l3)] [] h) (hf : p_L_law_593 K18 h  L xs l3 s0 s1 s2 = some X) : E m_L_law (some (L, xs)) (fun r h' => r = some (vi X.1) ∧ h' = X.2) 593 [some (vr 64), some (vr 0), some (vr 45), some (vi l3)] [vi s2, vi s1, vi s0, vr 0] h := by
  unfold p_L_law_593 at hf
  obtain ⟨q593, e593, hf⟩ := bd_some hf
  refine e_callV3i dL_law_593 rfl lk_520 ⟨rfl, rfl, Nat.le_of_ble_eq_true rfl, Nat.le_of_ble_eq_true rfl⟩ rfl rfl (Nat.le_of_ble_eq_true rfl) (q_X8_share h   s0 s1 s2 e593) ?_
  refine e_aload_n dL_law_596 rfl ?_
  refine e_aload_n dL_law_597 rfl ?_
  refine e_iload_n dL_law_598 rfl ?_
  refine e_iconst dL_law_599 ⟨by decide, by decide⟩ ?_
  refine e_iadd dL_law_600 ?_
  obtain ⟨g601, hf⟩ := gd_some hf
  refine e_sld dL_law_601 rfl g601 ?_
  refine e_aload_n dL_law_602 rfl ?_
  refine e_iload_n dL_law_603 rfl ?_
  refine e_iconst dL_law_604 ⟨by decide, by decide⟩ ?_
  refine e_iadd dL_law_605 ?_
  obtain ⟨g606, hf⟩ := gd_some hf
  refine e_sld dL_law_606 rfl g606 ?_
  refine e_aload_n dL_law_607 rfl ?_
  refine e_iload_n dL_law_608 rfl ?_
  refine e_iconst dL_law_609 ⟨by decide, by decide⟩ ?_
  refine e_iadd dL_law_610 ?_
  obtain ⟨g611, hf⟩ := gd_some hf
  refine e_sld dL_law_611 rfl g611 ?_
  refine e_if_eq (tgt := 619) dL_law_612 (by decide) (fun c612 => ?_) (fun c612 => ?_)
  · replace hf := ifp hf c612
    refine e_iconst dL_law_619 ⟨by decide, by decide⟩ ?_
    exact e_mask [true, true, true, true] (q_L_law_620 K18 q593.2   L xs hL l3 q593.1 ((xs (wr (l3 + 1)).toNat).toInt) ((xs (wr (l3 + 2)).toNat).toInt) 0 hK18 hf)
  · replace hf := ifn hf c612
    refine e_iconst dL_law_615 ⟨by decide, by decide⟩ ?_
    refine e_goto (tgt := 620) dL_law_616 (by decide) ?_
    exact e_mask [true, true, true, true] (q_L_law_620 K18 q593.2   L xs hL l3 q593.1 ((xs (wr (l3 + 1)).toNat).toInt) ((xs (wr (l3 + 2)).toNat).toInt) 1 hK18 hf)
def p_L_law_788 (K18 : Mem → Int → Option (Int × Mem)) (h : Mem)  (L : Nat) (xs : Nat → Int32) (l3 s0 s1 s2 s3 : Int) : Option (Int × Mem) :=
  bd (p_X9_shine h s1 s2 s3) (fun q788 => if s0 = q788.1 then (p_L_law_1037 K18 q788.2  L xs l3) else (some (0, q788.2)))
set_option maxRecDepth 20000 in
theorem q_L_law_788 (K18 : Mem → Int → Option (Int × Mem)) (h : Mem)   (L : Nat) (xs : Nat → Int32) (hL : L < 2147483648) (l3 s0 s1 s2 s3 : Int) {X : Int × Mem} (hK18 : ∀ (h : Mem) (l3 : Int), K18 h l3 = some X → E m_L_law (some (L, xs)) (fun r h' => r = some (vi X.1) ∧ h' = X.2) 18 [some (vr 64), some (vr 0), some (vr 45), some (vi l3)] [] h) (hf : p_L_law_788 K18 h  L xs l3 s0 s1 s2 s3 = some X) : E m_L_law (some (L, xs)) (fun r h' => r = some (vi X.1) ∧ h' = X.2) 788 [some (vr 64), some (vr 0), some (vr 45), some (vi l3)] [vi s3, vi s2, vi s1, vr 45, vi s0] h := by
  unfold p_L_law_788 at hf
  obtain ⟨q788, e788, hf⟩ := bd_some hf
  refine e_callV3i dL_law_788 rfl lk_985 ⟨rfl, rfl, Nat.le_of_ble_eq_true rfl, Nat.le_of_ble_eq_true rfl⟩ rfl rfl (Nat.le_of_ble_eq_true rfl) (q_X9_shine h   s1 s2 s3 e788) ?_
  refine e_icmp_eq (tgt := 1037) dL_law_791 (by decide) (fun c791 => ?_) (fun c791 => ?_)
  · replace hf := ifp hf c791
    exact e_mask [true, true, true, true] (q_L_law_1037 K18 q788.2   L xs hL l3 hK18 hf)
  · replace hf := ifn hf c791
    refine e_iconst dL_law_794 ⟨by decide, by decide⟩ ?_
    obtain rfl := Option.some.inj hf
    exact e_zreturn dL_law_795 rfl (by decide) ⟨rfl, rfl⟩
def p_L_law_761 (K18 : Mem → Int → Option (Int × Mem)) (h : Mem)  (L : Nat) (xs : Nat → Int32) (l3 s0 s1 s2 : Int) : Option (Int × Mem) :=
  bd (p_X8_shine h s0 s1 s2) (fun q761 => gd (0 ≤ wr (l3 + 1) ∧ wr (l3 + 1) < (L : Int)) (gd (0 ≤ wr (l3 + 2) ∧ wr (l3 + 2) < (L : Int)) (gd (0 ≤ wr (l3 + 3) ∧ wr (l3 + 3) < (L : Int)) (if (xs (wr (l3 + 3)).toNat).toInt = 0 then (p_L_law_788 K18 q761.2  L xs l3 q761.1 ((xs (wr (l3 + 1)).toNat).toInt) ((xs (wr (l3 + 2)).toNat).toInt) 0) else (p_L_law_788 K18 q761.2  L xs l3 q761.1 ((xs (wr (l3 + 1)).toNat).toInt) ((xs (wr (l3 + 2)).toNat).toInt) 1)))))
set_option maxRecDepth 20000 in
theorem q_L_law_761 (K18 : Mem → Int → Option (Int × Mem)) (h : Mem)   (L : Nat) (xs : Nat → Int32) (hL : L < 2147483648) (l3 s0 s1 s2 : Int) {X : Int × Mem} (hK18 : ∀ (h : Mem) (l3 : Int), K18 h l3 = some X → E m_L_law (some (L, xs)) (fun r h' => r = some (vi X.1) ∧ h' = X.2) 18 [some (vr 64), some (vr 0), some (vr 45), some (vi l3)] [] h) (hf : p_L_law_761 K18 h  L xs l3 s0 s1 s2 = some X) : E m_L_law (some (L, xs)) (fun r h' => r = some (vi X.1) ∧ h' = X.2) 761 [some (vr 64), some (vr 0), some (vr 45), some (vi l3)] [vi s2, vi s1, vi s0, vr 0] h := by
  unfold p_L_law_761 at hf
  obtain ⟨q761, e761, hf⟩ := bd_some hf
  refine e_callV3i dL_law_761 rfl lk_588 ⟨rfl, rfl, Nat.le_of_ble_eq_true rfl, Nat.le_of_ble_eq_true rfl⟩ rfl rfl (Nat.le_of_ble_eq_true rfl) (q_X8_shine h   s0 s1 s2 e761) ?_
  refine e_aload_n dL_law_764 rfl ?_
  refine e_aload_n dL_law_765 rfl ?_
  refine e_iload_n dL_law_766 rfl ?_
  refine e_iconst dL_law_767 ⟨by decide, by decide⟩ ?_
  refine e_iadd dL_law_768 ?_
  obtain ⟨g769, hf⟩ := gd_some hf
  refine e_sld dL_law_769 rfl g769 ?_
  refine e_aload_n dL_law_770 rfl ?_
  refine e_iload_n dL_law_771 rfl ?_
  refine e_iconst dL_law_772 ⟨by decide, by decide⟩ ?_
  refine e_iadd dL_law_773 ?_
  obtain ⟨g774, hf⟩ := gd_some hf
  refine e_sld dL_law_774 rfl g774 ?_
  refine e_aload_n dL_law_775 rfl ?_
  refine e_iload_n dL_law_776 rfl ?_
  refine e_iconst dL_law_777 ⟨by decide, by decide⟩ ?_
  refine e_iadd dL_law_778 ?_
  obtain ⟨g779, hf⟩ := gd_some hf
  refine e_sld dL_law_779 rfl g779 ?_
  refine e_if_eq (tgt := 787) dL_law_780 (by decide) (fun c780 => ?_) (fun c780 => ?_)
  · replace hf := ifp hf c780
    refine e_iconst dL_law_787 ⟨by decide, by decide⟩ ?_
    exact e_mask [true, true, true, true] (q_L_law_788 K18 q761.2   L xs hL l3 q761.1 ((xs (wr (l3 + 1)).toNat).toInt) ((xs (wr (l3 + 2)).toNat).toInt) 0 hK18 hf)
  · replace hf := ifn hf c780
    refine e_iconst dL_law_783 ⟨by decide, by decide⟩ ?_
    refine e_goto (tgt := 788) dL_law_784 (by decide) ?_
    exact e_mask [true, true, true, true] (q_L_law_788 K18 q761.2   L xs hL l3 q761.1 ((xs (wr (l3 + 1)).toNat).toInt) ((xs (wr (l3 + 2)).toNat).toInt) 1 hK18 hf)
def p_L_law_906 (K18 : Mem → Int → Option (Int × Mem)) (h : Mem)  (L : Nat) (xs : Nat → Int32) (l3 s0 s1 s2 s3 s4 : Int) : Option (Int × Mem) :=
  bd (p_X9_chance h s1 s2 s3 s4) (fun q906 => if s0 = q906.1 then (p_L_law_1037 K18 q906.2  L xs l3) else (some (0, q906.2)))
set_option maxRecDepth 20000 in
theorem q_L_law_906 (K18 : Mem → Int → Option (Int × Mem)) (h : Mem)   (L : Nat) (xs : Nat → Int32) (hL : L < 2147483648) (l3 s0 s1 s2 s3 s4 : Int) {X : Int × Mem} (hK18 : ∀ (h : Mem) (l3 : Int), K18 h l3 = some X → E m_L_law (some (L, xs)) (fun r h' => r = some (vi X.1) ∧ h' = X.2) 18 [some (vr 64), some (vr 0), some (vr 45), some (vi l3)] [] h) (hf : p_L_law_906 K18 h  L xs l3 s0 s1 s2 s3 s4 = some X) : E m_L_law (some (L, xs)) (fun r h' => r = some (vi X.1) ∧ h' = X.2) 906 [some (vr 64), some (vr 0), some (vr 45), some (vi l3)] [vi s4, vi s3, vi s2, vi s1, vr 45, vi s0] h := by
  unfold p_L_law_906 at hf
  obtain ⟨q906, e906, hf⟩ := bd_some hf
  refine e_callV4i dL_law_906 rfl lk_1008 ⟨rfl, rfl, Nat.le_of_ble_eq_true rfl, Nat.le_of_ble_eq_true rfl⟩ rfl rfl (Nat.le_of_ble_eq_true rfl) (q_X9_chance h   s1 s2 s3 s4 e906) ?_
  refine e_icmp_eq (tgt := 1037) dL_law_909 (by decide) (fun c909 => ?_) (fun c909 => ?_)
  · replace hf := ifp hf c909
    exact e_mask [true, true, true, true] (q_L_law_1037 K18 q906.2   L xs hL l3 hK18 hf)
  · replace hf := ifn hf c909
    refine e_iconst dL_law_912 ⟨by decide, by decide⟩ ?_
    obtain rfl := Option.some.inj hf
    exact e_zreturn dL_law_913 rfl (by decide) ⟨rfl, rfl⟩
def p_L_law_874 (K18 : Mem → Int → Option (Int × Mem)) (h : Mem)  (L : Nat) (xs : Nat → Int32) (l3 s0 s1 s2 s3 : Int) : Option (Int × Mem) :=
  bd (p_X8_chance h s0 s1 s2 s3) (fun q874 => gd (0 ≤ wr (l3 + 1) ∧ wr (l3 + 1) < (L : Int)) (gd (0 ≤ wr (l3 + 2) ∧ wr (l3 + 2) < (L : Int)) (gd (0 ≤ wr (l3 + 3) ∧ wr (l3 + 3) < (L : Int)) (gd (0 ≤ wr (l3 + 4) ∧ wr (l3 + 4) < (L : Int)) (if (xs (wr (l3 + 4)).toNat).toInt = 0 then (p_L_law_906 K18 q874.2  L xs l3 q874.1 ((xs (wr (l3 + 1)).toNat).toInt) ((xs (wr (l3 + 2)).toNat).toInt) ((xs (wr (l3 + 3)).toNat).toInt) 0) else (p_L_law_906 K18 q874.2  L xs l3 q874.1 ((xs (wr (l3 + 1)).toNat).toInt) ((xs (wr (l3 + 2)).toNat).toInt) ((xs (wr (l3 + 3)).toNat).toInt) 1))))))
set_option maxRecDepth 20000 in
theorem q_L_law_874 (K18 : Mem → Int → Option (Int × Mem)) (h : Mem)   (L : Nat) (xs : Nat → Int32) (hL : L < 2147483648) (l3 s0 s1 s2 s3 : Int) {X : Int × Mem} (hK18 : ∀ (h : Mem) (l3 : Int), K18 h l3 = some X → E m_L_law (some (L, xs)) (fun r h' => r = some (vi X.1) ∧ h' = X.2) 18 [some (vr 64), some (vr 0), some (vr 45), some (vi l3)] [] h) (hf : p_L_law_874 K18 h  L xs l3 s0 s1 s2 s3 = some X) : E m_L_law (some (L, xs)) (fun r h' => r = some (vi X.1) ∧ h' = X.2) 874 [some (vr 64), some (vr 0), some (vr 45), some (vi l3)] [vi s3, vi s2, vi s1, vi s0, vr 0] h := by
  unfold p_L_law_874 at hf
  obtain ⟨q874, e874, hf⟩ := bd_some hf
  refine e_callV4i dL_law_874 rfl lk_648 ⟨rfl, rfl, Nat.le_of_ble_eq_true rfl, Nat.le_of_ble_eq_true rfl⟩ rfl rfl (Nat.le_of_ble_eq_true rfl) (q_X8_chance h   s0 s1 s2 s3 e874) ?_
  refine e_aload_n dL_law_877 rfl ?_
  refine e_aload_n dL_law_878 rfl ?_
  refine e_iload_n dL_law_879 rfl ?_
  refine e_iconst dL_law_880 ⟨by decide, by decide⟩ ?_
  refine e_iadd dL_law_881 ?_
  obtain ⟨g882, hf⟩ := gd_some hf
  refine e_sld dL_law_882 rfl g882 ?_
  refine e_aload_n dL_law_883 rfl ?_
  refine e_iload_n dL_law_884 rfl ?_
  refine e_iconst dL_law_885 ⟨by decide, by decide⟩ ?_
  refine e_iadd dL_law_886 ?_
  obtain ⟨g887, hf⟩ := gd_some hf
  refine e_sld dL_law_887 rfl g887 ?_
  refine e_aload_n dL_law_888 rfl ?_
  refine e_iload_n dL_law_889 rfl ?_
  refine e_iconst dL_law_890 ⟨by decide, by decide⟩ ?_
  refine e_iadd dL_law_891 ?_
  obtain ⟨g892, hf⟩ := gd_some hf
  refine e_sld dL_law_892 rfl g892 ?_
  refine e_aload_n dL_law_893 rfl ?_
  refine e_iload_n dL_law_894 rfl ?_
  refine e_iconst dL_law_895 ⟨by decide, by decide⟩ ?_
  refine e_iadd dL_law_896 ?_
  obtain ⟨g897, hf⟩ := gd_some hf
  refine e_sld dL_law_897 rfl g897 ?_
  refine e_if_eq (tgt := 905) dL_law_898 (by decide) (fun c898 => ?_) (fun c898 => ?_)
  · replace hf := ifp hf c898
    refine e_iconst dL_law_905 ⟨by decide, by decide⟩ ?_
    exact e_mask [true, true, true, true] (q_L_law_906 K18 q874.2   L xs hL l3 q874.1 ((xs (wr (l3 + 1)).toNat).toInt) ((xs (wr (l3 + 2)).toNat).toInt) ((xs (wr (l3 + 3)).toNat).toInt) 0 hK18 hf)
  · replace hf := ifn hf c898
    refine e_iconst dL_law_901 ⟨by decide, by decide⟩ ?_
    refine e_goto (tgt := 906) dL_law_902 (by decide) ?_
    exact e_mask [true, true, true, true] (q_L_law_906 K18 q874.2   L xs hL l3 q874.1 ((xs (wr (l3 + 1)).toNat).toInt) ((xs (wr (l3 + 2)).toNat).toInt) ((xs (wr (l3 + 3)).toNat).toInt) 1 hK18 hf)
def p_L_law_18 (K18 : Mem → Int → Option (Int × Mem)) (h : Mem)  (L : Nat) (xs : Nat → Int32) (l3 : Int) : Option (Int × Mem) :=
  if wr ((L : Int) - 5) < l3 then (some (1, h)) else (gd (0 ≤ l3 ∧ l3 < (L : Int)) (if band ((xs (l3).toNat).toInt) 31 = 0 then (gd (0 ≤ wr (l3 + 1) ∧ wr (l3 + 1) < (L : Int)) (bd (p_X8_write h ((xs (wr (l3 + 1)).toNat).toInt)) (fun q174 => gd (0 ≤ wr (l3 + 1) ∧ wr (l3 + 1) < (L : Int)) (bd (p_X9_write q174.2 ((xs (wr (l3 + 1)).toNat).toInt)) (fun q183 => if q174.1 = q183.1 then (p_L_law_1037 K18 q183.2  L xs l3) else (some (0, q183.2))))))) else (if band ((xs (l3).toNat).toInt) 31 = 1 then (bd (p_X8_wipe h ) (fun q192 => bd (p_X9_wipe q192.2 ) (fun q196 => if q192.1 = q196.1 then (p_L_law_1037 K18 q196.2  L xs l3) else (some (0, q196.2))))) else (if band ((xs (l3).toNat).toInt) 31 = 2 then (bd (p_X8_fault h ) (fun r205 => bd (p_X9_fault h ) (fun q209 => if r205 = q209.1 then (p_L_law_1037 K18 q209.2  L xs l3) else (some (0, q209.2))))) else (if band ((xs (l3).toNat).toInt) 31 = 3 then (bd (p_X8_night h ) (fun q218 => bd (p_X9_night q218.2 ) (fun q222 => if q218.1 = q222.1 then (p_L_law_1037 K18 q222.2  L xs l3) else (some (0, q222.2))))) else (if band ((xs (l3).toNat).toInt) 31 = 4 then (gd (0 ≤ wr (l3 + 1) ∧ wr (l3 + 1) < (L : Int)) (bd (p_X8_about h ((xs (wr (l3 + 1)).toNat).toInt)) (fun r236 => gd (0 ≤ wr (l3 + 1) ∧ wr (l3 + 1) < (L : Int)) (bd (p_X9_about h ((xs (wr (l3 + 1)).toNat).toInt)) (fun q245 => if r236 = q245.1 then (p_L_law_1037 K18 q245.2  L xs l3) else (some (0, q245.2))))))) else (if band ((xs (l3).toNat).toInt) 31 = 5 then (gd (0 ≤ wr (l3 + 1) ∧ wr (l3 + 1) < (L : Int)) (gd (0 ≤ wr (l3 + 2) ∧ wr (l3 + 2) < (L : Int)) (bd (p_X8_roof h ((xs (wr (l3 + 1)).toNat).toInt) ((xs (wr (l3 + 2)).toNat).toInt)) (fun q264 => gd (0 ≤ wr (l3 + 1) ∧ wr (l3 + 1) < (L : Int)) (gd (0 ≤ wr (l3 + 2) ∧ wr (l3 + 2) < (L : Int)) (bd (p_X9_roof q264.2 ((xs (wr (l3 + 1)).toNat).toInt) ((xs (wr (l3 + 2)).toNat).toInt)) (fun q278 => if q264.1 = q278.1 then (p_L_law_1037 K18 q278.2  L xs l3) else (some (0, q278.2))))))))) else (if band ((xs (l3).toNat).toInt) 31 = 6 then (gd (0 ≤ wr (l3 + 1) ∧ wr (l3 + 1) < (L : Int)) (gd (0 ≤ wr (l3 + 2) ∧ wr (l3 + 2) < (L : Int)) (bd (p_X8_star h ((xs (wr (l3 + 1)).toNat).toInt) ((xs (wr (l3 + 2)).toNat).toInt)) (fun q297 => gd (0 ≤ wr (l3 + 1) ∧ wr (l3 + 1) < (L : Int)) (gd (0 ≤ wr (l3 + 2) ∧ wr (l3 + 2) < (L : Int)) (bd (p_X9_star q297.2 ((xs (wr (l3 + 1)).toNat).toInt) ((xs (wr (l3 + 2)).toNat).toInt)) (fun q311 => if q297.1 = q311.1 then (p_L_law_1037 K18 q311.2  L xs l3) else (some (0, q311.2))))))))) else (if band ((xs (l3).toNat).toInt) 31 = 7 then (gd (0 ≤ wr (l3 + 1) ∧ wr (l3 + 1) < (L : Int)) (bd (p_X8_purse h ((xs (wr (l3 + 1)).toNat).toInt)) (fun r325 => gd (0 ≤ wr (l3 + 1) ∧ wr (l3 + 1) < (L : Int)) (bd (p_X9_purse h ((xs (wr (l3 + 1)).toNat).toInt)) (fun q334 => if r325 = q334.1 then (p_L_law_1037 K18 q334.2  L xs l3) else (some (0, q334.2))))))) else (if band ((xs (l3).toNat).toInt) 31 = 8 then (gd (0 ≤ wr (l3 + 1) ∧ wr (l3 + 1) < (L : Int)) (gd (0 ≤ wr (l3 + 2) ∧ wr (l3 + 2) < (L : Int)) (bd (p_X8_build h ((xs (wr (l3 + 1)).toNat).toInt) ((xs (wr (l3 + 2)).toNat).toInt)) (fun q353 => gd (0 ≤ wr (l3 + 1) ∧ wr (l3 + 1) < (L : Int)) (gd (0 ≤ wr (l3 + 2) ∧ wr (l3 + 2) < (L : Int)) (bd (p_X9_build q353.2 ((xs (wr (l3 + 1)).toNat).toInt) ((xs (wr (l3 + 2)).toNat).toInt)) (fun q367 => if q353.1 = q367.1 then (p_L_law_1037 K18 q367.2  L xs l3) else (some (0, q367.2))))))))) else (if band ((xs (l3).toNat).toInt) 31 = 9 then (gd (0 ≤ wr (l3 + 1) ∧ wr (l3 + 1) < (L : Int)) (bd (p_X8_light h ((xs (wr (l3 + 1)).toNat).toInt)) (fun q381 => gd (0 ≤ wr (l3 + 1) ∧ wr (l3 + 1) < (L : Int)) (bd (p_X9_light q381.2 ((xs (wr (l3 + 1)).toNat).toInt)) (fun q390 => if q381.1 = q390.1 then (p_L_law_1037 K18 q390.2  L xs l3) else (some (0, q390.2))))))) else (if band ((xs (l3).toNat).toInt) 31 = 10 then (gd (0 ≤ wr (l3 + 1) ∧ wr (l3 + 1) < (L : Int)) (gd (0 ≤ wr (l3 + 2) ∧ wr (l3 + 2) < (L : Int)) (bd (p_X8_sell h ((xs (wr (l3 + 1)).toNat).toInt) ((xs (wr (l3 + 2)).toNat).toInt)) (fun q409 => gd (0 ≤ wr (l3 + 1) ∧ wr (l3 + 1) < (L : Int)) (gd (0 ≤ wr (l3 + 2) ∧ wr (l3 + 2) < (L : Int)) (bd (p_X9_sell q409.2 ((xs (wr (l3 + 1)).toNat).toInt) ((xs (wr (l3 + 2)).toNat).toInt)) (fun q423 => if q409.1 = q423.1 then (p_L_law_1037 K18 q423.2  L xs l3) else (some (0, q423.2))))))))) else (if band ((xs (l3).toNat).toInt) 31 = 11 then (bd (p_X8_clouds h ) (fun q432 => bd (p_X9_clouds q432.2 ) (fun q436 => if q432.1 = q436.1 then (p_L_law_1037 K18 q436.2  L xs l3) else (some (0, q436.2))))) else (if band ((xs (l3).toNat).toInt) 31 = 12 then (bd (p_X8_hour h ) (fun q445 => bd (p_X9_hour q445.2 ) (fun q449 => if q445.1 = q449.1 then (p_L_law_1037 K18 q449.2  L xs l3) else (some (0, q449.2))))) else (if band ((xs (l3).toNat).toInt) 31 = 13 then (bd (p_X8_undo h ) (fun q458 => bd (p_X9_undo q458.2 ) (fun q462 => if q458.1 = q462.1 then (p_L_law_1037 K18 q462.2  L xs l3) else (some (0, q462.2))))) else (if band ((xs (l3).toNat).toInt) 31 = 14 then (gd (0 ≤ wr (l3 + 1) ∧ wr (l3 + 1) < (L : Int)) (gd (0 ≤ wr (l3 + 2) ∧ wr (l3 + 2) < (L : Int)) (bd (p_X8_rents h ((xs (wr (l3 + 1)).toNat).toInt) ((xs (wr (l3 + 2)).toNat).toInt)) (fun q481 => gd (0 ≤ wr (l3 + 1) ∧ wr (l3 + 1) < (L : Int)) (gd (0 ≤ wr (l3 + 2) ∧ wr (l3 + 2) < (L : Int)) (bd (p_X9_rents q481.2 ((xs (wr (l3 + 1)).toNat).toInt) ((xs (wr (l3 + 2)).toNat).toInt)) (fun q495 => if q481.1 = q495.1 then (p_L_law_1037 K18 q495.2  L xs l3) else (some (0, q495.2))))))))) else (if band ((xs (l3).toNat).toInt) 31 = 15 then (gd (0 ≤ wr (l3 + 1) ∧ wr (l3 + 1) < (L : Int)) (gd (0 ≤ wr (l3 + 2) ∧ wr (l3 + 2) < (L : Int)) (bd (p_X8_hold h ((xs (wr (l3 + 1)).toNat).toInt) ((xs (wr (l3 + 2)).toNat).toInt)) (fun q514 => gd (0 ≤ wr (l3 + 1) ∧ wr (l3 + 1) < (L : Int)) (gd (0 ≤ wr (l3 + 2) ∧ wr (l3 + 2) < (L : Int)) (bd (p_X9_hold q514.2 ((xs (wr (l3 + 1)).toNat).toInt) ((xs (wr (l3 + 2)).toNat).toInt)) (fun q528 => if q514.1 = q528.1 then (p_L_law_1037 K18 q528.2  L xs l3) else (some (0, q528.2))))))))) else (if band ((xs (l3).toNat).toInt) 31 = 16 then (gd (0 ≤ wr (l3 + 1) ∧ wr (l3 + 1) < (L : Int)) (gd (0 ≤ wr (l3 + 2) ∧ wr (l3 + 2) < (L : Int)) (bd (p_X8_fires h ((xs (wr (l3 + 1)).toNat).toInt) ((xs (wr (l3 + 2)).toNat).toInt)) (fun q547 => gd (0 ≤ wr (l3 + 1) ∧ wr (l3 + 1) < (L : Int)) (gd (0 ≤ wr (l3 + 2) ∧ wr (l3 + 2) < (L : Int)) (bd (p_X9_fires q547.2 ((xs (wr (l3 + 1)).toNat).toInt) ((xs (wr (l3 + 2)).toNat).toInt)) (fun q561 => if q547.1 = q561.1 then (p_L_law_1037 K18 q561.2  L xs l3) else (some (0, q561.2))))))))) else (if band ((xs (l3).toNat).toInt) 31 = 17 then (gd (0 ≤ wr (l3 + 1) ∧ wr (l3 + 1) < (L : Int)) (gd (0 ≤ wr (l3 + 2) ∧ wr (l3 + 2) < (L : Int)) (gd (0 ≤ wr (l3 + 3) ∧ wr (l3 + 3) < (L : Int)) (if (xs (wr (l3 + 3)).toNat).toInt = 0 then (p_L_law_593 K18 h  L xs l3 ((xs (wr (l3 + 1)).toNat).toInt) ((xs (wr (l3 + 2)).toNat).toInt) 0) else (p_L_law_593 K18 h  L xs l3 ((xs (wr (l3 + 1)).toNat).toInt) ((xs (wr (l3 + 2)).toNat).toInt) 1))))) else (if band ((xs (l3).toNat).toInt) 31 = 18 then (gd (0 ≤ wr (l3 + 1) ∧ wr (l3 + 1) < (L : Int)) (gd (0 ≤ wr (l3 + 2) ∧ wr (l3 + 2) < (L : Int)) (bd (p_X8_bestLaw h ((xs (wr (l3 + 1)).toNat).toInt) ((xs (wr (l3 + 2)).toNat).toInt)) (fun q639 => gd (0 ≤ wr (l3 + 1) ∧ wr (l3 + 1) < (L : Int)) (gd (0 ≤ wr (l3 + 2) ∧ wr (l3 + 2) < (L : Int)) (bd (p_X9_bestLaw q639.2 ((xs (wr (l3 + 1)).toNat).toInt) ((xs (wr (l3 + 2)).toNat).toInt)) (fun q653 => if q639.1 = q653.1 then (p_L_law_1037 K18 q653.2  L xs l3) else (some (0, q653.2))))))))) else (if band ((xs (l3).toNat).toInt) 31 = 19 then (gd (0 ≤ wr (l3 + 1) ∧ wr (l3 + 1) < (L : Int)) (bd (p_X8_starless h ((xs (wr (l3 + 1)).toNat).toInt)) (fun q667 => gd (0 ≤ wr (l3 + 1) ∧ wr (l3 + 1) < (L : Int)) (bd (p_X9_starless q667.2 ((xs (wr (l3 + 1)).toNat).toInt)) (fun q676 => if q667.1 = q676.1 then (p_L_law_1037 K18 q676.2  L xs l3) else (some (0, q676.2))))))) else (if band ((xs (l3).toNat).toInt) 31 = 20 then (gd (0 ≤ wr (l3 + 1) ∧ wr (l3 + 1) < (L : Int)) (gd (0 ≤ wr (l3 + 2) ∧ wr (l3 + 2) < (L : Int)) (gd (0 ≤ wr (l3 + 3) ∧ wr (l3 + 3) < (L : Int)) (gd (0 ≤ wr (l3 + 4) ∧ wr (l3 + 4) < (L : Int)) (bd (p_X8_rests h ((xs (wr (l3 + 1)).toNat).toInt) ((xs (wr (l3 + 2)).toNat).toInt) ((xs (wr (l3 + 3)).toNat).toInt) ((xs (wr (l3 + 4)).toNat).toInt)) (fun q705 => gd (0 ≤ wr (l3 + 1) ∧ wr (l3 + 1) < (L : Int)) (gd (0 ≤ wr (l3 + 2) ∧ wr (l3 + 2) < (L : Int)) (gd (0 ≤ wr (l3 + 3) ∧ wr (l3 + 3) < (L : Int)) (gd (0 ≤ wr (l3 + 4) ∧ wr (l3 + 4) < (L : Int)) (bd (p_X9_rests q705.2 ((xs (wr (l3 + 1)).toNat).toInt) ((xs (wr (l3 + 2)).toNat).toInt) ((xs (wr (l3 + 3)).toNat).toInt) ((xs (wr (l3 + 4)).toNat).toInt)) (fun q729 => if q705.1 = q729.1 then (p_L_law_1037 K18 q729.2  L xs l3) else (some (0, q729.2))))))))))))) else (if band ((xs (l3).toNat).toInt) 31 = 21 then (gd (0 ≤ wr (l3 + 1) ∧ wr (l3 + 1) < (L : Int)) (gd (0 ≤ wr (l3 + 2) ∧ wr (l3 + 2) < (L : Int)) (gd (0 ≤ wr (l3 + 3) ∧ wr (l3 + 3) < (L : Int)) (if (xs (wr (l3 + 3)).toNat).toInt = 0 then (p_L_law_761 K18 h  L xs l3 ((xs (wr (l3 + 1)).toNat).toInt) ((xs (wr (l3 + 2)).toNat).toInt) 0) else (p_L_law_761 K18 h  L xs l3 ((xs (wr (l3 + 1)).toNat).toInt) ((xs (wr (l3 + 2)).toNat).toInt) 1))))) else (if band ((xs (l3).toNat).toInt) 31 = 22 then (bd (p_X8_unshine h ) (fun q797 => bd (p_X9_unshine q797.2 ) (fun q801 => if q797.1 = q801.1 then (p_L_law_1037 K18 q801.2  L xs l3) else (some (0, q801.2))))) else (if band ((xs (l3).toNat).toInt) 31 = 23 then (gd (0 ≤ wr (l3 + 1) ∧ wr (l3 + 1) < (L : Int)) (bd (p_X8_found h ((xs (wr (l3 + 1)).toNat).toInt)) (fun r815 => gd (0 ≤ wr (l3 + 1) ∧ wr (l3 + 1) < (L : Int)) (bd (p_X9_found h ((xs (wr (l3 + 1)).toNat).toInt)) (fun q824 => if r815 = q824.1 then (p_L_law_1037 K18 q824.2  L xs l3) else (some (0, q824.2))))))) else (if band ((xs (l3).toNat).toInt) 31 = 24 then (bd (p_X8_look h ) (fun r833 => bd (p_X9_look h ) (fun q837 => if r833 = q837.1 then (p_L_law_1037 K18 q837.2  L xs l3) else (some (0, q837.2))))) else (if band ((xs (l3).toNat).toInt) 31 = 25 then (gd (0 ≤ wr (l3 + 1) ∧ wr (l3 + 1) < (L : Int)) (gd (0 ≤ wr (l3 + 2) ∧ wr (l3 + 2) < (L : Int)) (gd (0 ≤ wr (l3 + 3) ∧ wr (l3 + 3) < (L : Int)) (gd (0 ≤ wr (l3 + 4) ∧ wr (l3 + 4) < (L : Int)) (if (xs (wr (l3 + 4)).toNat).toInt = 0 then (p_L_law_874 K18 h  L xs l3 ((xs (wr (l3 + 1)).toNat).toInt) ((xs (wr (l3 + 2)).toNat).toInt) ((xs (wr (l3 + 3)).toNat).toInt) 0) else (p_L_law_874 K18 h  L xs l3 ((xs (wr (l3 + 1)).toNat).toInt) ((xs (wr (l3 + 2)).toNat).toInt) ((xs (wr (l3 + 3)).toNat).toInt) 1)))))) else (if band ((xs (l3).toNat).toInt) 31 = 26 then (gd (0 ≤ wr (l3 + 1) ∧ wr (l3 + 1) < (L : Int)) (gd (0 ≤ wr (l3 + 2) ∧ wr (l3 + 2) < (L : Int)) (bd (p_X8_seed h (lor64 (lshl64 ((xs (wr (l3 + 1)).toNat).toInt) 32) (land64 ((xs (wr (l3 + 2)).toNat).toInt) 4294967295))) (fun q935 => gd (0 ≤ wr (l3 + 1) ∧ wr (l3 + 1) < (L : Int)) (gd (0 ≤ wr (l3 + 2) ∧ wr (l3 + 2) < (L : Int)) (bd (p_X9_seed q935.2 (lor64 (lshl64 ((xs (wr (l3 + 1)).toNat).toInt) 32) (land64 ((xs (wr (l3 + 2)).toNat).toInt) 4294967295))) (fun q959 => if lcmp64 q935.1 q959.1 = 0 then (p_L_law_1037 K18 q959.2  L xs l3) else (some (0, q959.2))))))))) else (if band ((xs (l3).toNat).toInt) 31 = 27 then (gd (0 ≤ wr (l3 + 1) ∧ wr (l3 + 1) < (L : Int)) (bd (p_X8_nights h ((xs (wr (l3 + 1)).toNat).toInt)) (fun q974 => gd (0 ≤ wr (l3 + 1) ∧ wr (l3 + 1) < (L : Int)) (bd (p_X9_nights q974.2 ((xs (wr (l3 + 1)).toNat).toInt)) (fun q983 => if q974.1 = q983.1 then (p_L_law_1037 K18 q983.2  L xs l3) else (some (0, q983.2))))))) else (if band ((xs (l3).toNat).toInt) 31 = 28 then (gd (0 ≤ wr (l3 + 1) ∧ wr (l3 + 1) < (L : Int)) (bd (p_X8_keep h ((xs (wr (l3 + 1)).toNat).toInt)) (fun q997 => gd (0 ≤ wr (l3 + 1) ∧ wr (l3 + 1) < (L : Int)) (bd (p_X9_keep q997.2 ((xs (wr (l3 + 1)).toNat).toInt)) (fun q1006 => if q997.1 = q1006.1 then (p_L_law_1037 K18 q1006.2  L xs l3) else (some (0, q1006.2))))))) else (if band ((xs (l3).toNat).toInt) 31 = 29 then (gd (0 ≤ wr (l3 + 1) ∧ wr (l3 + 1) < (L : Int)) (bd (p_X8_again h ((xs (wr (l3 + 1)).toNat).toInt)) (fun q1020 => gd (0 ≤ wr (l3 + 1) ∧ wr (l3 + 1) < (L : Int)) (bd (p_X9_again q1020.2 ((xs (wr (l3 + 1)).toNat).toInt)) (fun q1029 => if q1020.1 = q1029.1 then (p_L_law_1037 K18 q1029.2  L xs l3) else (some (0, q1029.2))))))) else (p_L_law_1037 K18 h  L xs l3))))))))))))))))))))))))))))))))
set_option maxRecDepth 20000 in
theorem q_L_law_18 (K18 : Mem → Int → Option (Int × Mem)) (h : Mem)   (L : Nat) (xs : Nat → Int32) (hL : L < 2147483648) (l3 : Int) {X : Int × Mem} (hK18 : ∀ (h : Mem) (l3 : Int), K18 h l3 = some X → E m_L_law (some (L, xs)) (fun r h' => r = some (vi X.1) ∧ h' = X.2) 18 [some (vr 64), some (vr 0), some (vr 45), some (vi l3)] [] h) (hf : p_L_law_18 K18 h  L xs l3 = some X) : E m_L_law (some (L, xs)) (fun r h' => r = some (vi X.1) ∧ h' = X.2) 18 [some (vr 64), some (vr 0), some (vr 45), some (vi l3)] [] h := by
  unfold p_L_law_18 at hf
  refine e_iload_n dL_law_18 rfl ?_
  refine e_aload_n dL_law_19 rfl ?_
  refine e_slen dL_law_20 rfl hL ?_
  refine e_iconst dL_law_21 ⟨by decide, by decide⟩ ?_
  refine e_isub dL_law_22 ?_
  refine e_icmp_gt (tgt := 1043) dL_law_23 (by decide) (fun c23 => ?_) (fun c23 => ?_)
  · replace hf := ifp hf c23
    refine e_iconst dL_law_1043 ⟨by decide, by decide⟩ ?_
    obtain rfl := Option.some.inj hf
    exact e_zreturn dL_law_1044 rfl (by decide) ⟨rfl, rfl⟩
  · replace hf := ifn hf c23
    refine e_aload_n dL_law_26 rfl ?_
    refine e_iload_n dL_law_27 rfl ?_
    obtain ⟨g28, hf⟩ := gd_some hf
    refine e_sld dL_law_28 rfl g28 ?_
    refine e_bipush dL_law_29 ⟨by decide, by decide, by decide⟩ ?_
    refine e_iand dL_law_31 ?_
    by_cases c32_0 : band ((xs (l3).toNat).toInt) 31 = 0
    · replace hf := ifp hf c32_0
      refine e_tswIn (off := 136) (tgt := 168) dL_law_32 (by omega) (by omega) (by rw [c32_0]; rfl) (by decide) ?_
      refine e_aload_n dL_law_168 rfl ?_
      refine e_aload_n dL_law_169 rfl ?_
      refine e_iload_n dL_law_170 rfl ?_
      refine e_iconst dL_law_171 ⟨by decide, by decide⟩ ?_
      refine e_iadd dL_law_172 ?_
      obtain ⟨g173, hf⟩ := gd_some hf
      refine e_sld dL_law_173 rfl g173 ?_
      obtain ⟨q174, e174, hf⟩ := bd_some hf
      refine e_callV1i dL_law_174 rfl lk_231 ⟨rfl, rfl, Nat.le_of_ble_eq_true rfl, Nat.le_of_ble_eq_true rfl⟩ rfl rfl (Nat.le_of_ble_eq_true rfl) (q_X8_write h   ((xs (wr (l3 + 1)).toNat).toInt) e174) ?_
      refine e_aload_n dL_law_177 rfl ?_
      refine e_aload_n dL_law_178 rfl ?_
      refine e_iload_n dL_law_179 rfl ?_
      refine e_iconst dL_law_180 ⟨by decide, by decide⟩ ?_
      refine e_iadd dL_law_181 ?_
      obtain ⟨g182, hf⟩ := gd_some hf
      refine e_sld dL_law_182 rfl g182 ?_
      obtain ⟨q183, e183, hf⟩ := bd_some hf
      refine e_callV1i dL_law_183 rfl lk_794 ⟨rfl, rfl, Nat.le_of_ble_eq_true rfl, Nat.le_of_ble_eq_true rfl⟩ rfl rfl (Nat.le_of_ble_eq_true rfl) (q_X9_write q174.2   ((xs (wr (l3 + 1)).toNat).toInt) e183) ?_
      refine e_icmp_eq (tgt := 1037) dL_law_186 (by decide) (fun c186 => ?_) (fun c186 => ?_)
      · replace hf := ifp hf c186
        exact e_mask [true, true, true, true] (q_L_law_1037 K18 q183.2   L xs hL l3 hK18 hf)
      · replace hf := ifn hf c186
        refine e_iconst dL_law_189 ⟨by decide, by decide⟩ ?_
        obtain rfl := Option.some.inj hf
        exact e_zreturn dL_law_190 rfl (by decide) ⟨rfl, rfl⟩
    replace hf := ifn hf c32_0
    by_cases c32_1 : band ((xs (l3).toNat).toInt) 31 = 1
    · replace hf := ifp hf c32_1
      refine e_tswIn (off := 159) (tgt := 191) dL_law_32 (by omega) (by omega) (by rw [c32_1]; rfl) (by decide) ?_
      refine e_aload_n dL_law_191 rfl ?_
      obtain ⟨q192, e192, hf⟩ := bd_some hf
      refine e_callV0i dL_law_192 rfl lk_244 ⟨rfl, rfl, Nat.le_of_ble_eq_true rfl, Nat.le_of_ble_eq_true rfl⟩ rfl rfl (Nat.le_of_ble_eq_true rfl) (q_X8_wipe h    e192) ?_
      refine e_aload_n dL_law_195 rfl ?_
      obtain ⟨q196, e196, hf⟩ := bd_some hf
      refine e_callV0i dL_law_196 rfl lk_802 ⟨rfl, rfl, Nat.le_of_ble_eq_true rfl, Nat.le_of_ble_eq_true rfl⟩ rfl rfl (Nat.le_of_ble_eq_true rfl) (q_X9_wipe q192.2    e196) ?_
      refine e_icmp_eq (tgt := 1037) dL_law_199 (by decide) (fun c199 => ?_) (fun c199 => ?_)
      · replace hf := ifp hf c199
        exact e_mask [true, true, true, true] (q_L_law_1037 K18 q196.2   L xs hL l3 hK18 hf)
      · replace hf := ifn hf c199
        refine e_iconst dL_law_202 ⟨by decide, by decide⟩ ?_
        obtain rfl := Option.some.inj hf
        exact e_zreturn dL_law_203 rfl (by decide) ⟨rfl, rfl⟩
    replace hf := ifn hf c32_1
    by_cases c32_2 : band ((xs (l3).toNat).toInt) 31 = 2
    · replace hf := ifp hf c32_2
      refine e_tswIn (off := 172) (tgt := 204) dL_law_32 (by omega) (by omega) (by rw [c32_2]; rfl) (by decide) ?_
      refine e_aload_n dL_law_204 rfl ?_
      obtain ⟨r205, e205, hf⟩ := bd_some hf
      refine e_callV0i dL_law_205 rfl lk_252 ⟨rfl, rfl, Nat.le_of_ble_eq_true rfl, Nat.le_of_ble_eq_true rfl⟩ rfl rfl (Nat.le_of_ble_eq_true rfl) (q_X8_fault h    e205) ?_
      refine e_aload_n dL_law_208 rfl ?_
      obtain ⟨q209, e209, hf⟩ := bd_some hf
      refine e_callV0i dL_law_209 rfl lk_806 ⟨rfl, rfl, Nat.le_of_ble_eq_true rfl, Nat.le_of_ble_eq_true rfl⟩ rfl rfl (Nat.le_of_ble_eq_true rfl) (q_X9_fault h    e209) ?_
      refine e_icmp_eq (tgt := 1037) dL_law_212 (by decide) (fun c212 => ?_) (fun c212 => ?_)
      · replace hf := ifp hf c212
        exact e_mask [true, true, true, true] (q_L_law_1037 K18 q209.2   L xs hL l3 hK18 hf)
      · replace hf := ifn hf c212
        refine e_iconst dL_law_215 ⟨by decide, by decide⟩ ?_
        obtain rfl := Option.some.inj hf
        exact e_zreturn dL_law_216 rfl (by decide) ⟨rfl, rfl⟩
    replace hf := ifn hf c32_2
    by_cases c32_3 : band ((xs (l3).toNat).toInt) 31 = 3
    · replace hf := ifp hf c32_3
      refine e_tswIn (off := 185) (tgt := 217) dL_law_32 (by omega) (by omega) (by rw [c32_3]; rfl) (by decide) ?_
      refine e_aload_n dL_law_217 rfl ?_
      obtain ⟨q218, e218, hf⟩ := bd_some hf
      refine e_callV0i dL_law_218 rfl lk_280 ⟨rfl, rfl, Nat.le_of_ble_eq_true rfl, Nat.le_of_ble_eq_true rfl⟩ rfl rfl (Nat.le_of_ble_eq_true rfl) (q_X8_night h    e218) ?_
      refine e_aload_n dL_law_221 rfl ?_
      obtain ⟨q222, e222, hf⟩ := bd_some hf
      refine e_callV0i dL_law_222 rfl lk_834 ⟨rfl, rfl, Nat.le_of_ble_eq_true rfl, Nat.le_of_ble_eq_true rfl⟩ rfl rfl (Nat.le_of_ble_eq_true rfl) (q_X9_night q218.2    e222) ?_
      refine e_icmp_eq (tgt := 1037) dL_law_225 (by decide) (fun c225 => ?_) (fun c225 => ?_)
      · replace hf := ifp hf c225
        exact e_mask [true, true, true, true] (q_L_law_1037 K18 q222.2   L xs hL l3 hK18 hf)
      · replace hf := ifn hf c225
        refine e_iconst dL_law_228 ⟨by decide, by decide⟩ ?_
        obtain rfl := Option.some.inj hf
        exact e_zreturn dL_law_229 rfl (by decide) ⟨rfl, rfl⟩
    replace hf := ifn hf c32_3
    by_cases c32_4 : band ((xs (l3).toNat).toInt) 31 = 4
    · replace hf := ifp hf c32_4
      refine e_tswIn (off := 198) (tgt := 230) dL_law_32 (by omega) (by omega) (by rw [c32_4]; rfl) (by decide) ?_
      refine e_aload_n dL_law_230 rfl ?_
      refine e_aload_n dL_law_231 rfl ?_
      refine e_iload_n dL_law_232 rfl ?_
      refine e_iconst dL_law_233 ⟨by decide, by decide⟩ ?_
      refine e_iadd dL_law_234 ?_
      obtain ⟨g235, hf⟩ := gd_some hf
      refine e_sld dL_law_235 rfl g235 ?_
      obtain ⟨r236, e236, hf⟩ := bd_some hf
      refine e_callV1i dL_law_236 rfl lk_312 ⟨rfl, rfl, Nat.le_of_ble_eq_true rfl, Nat.le_of_ble_eq_true rfl⟩ rfl rfl (Nat.le_of_ble_eq_true rfl) (q_X8_about h   ((xs (wr (l3 + 1)).toNat).toInt) e236) ?_
      refine e_aload_n dL_law_239 rfl ?_
      refine e_aload_n dL_law_240 rfl ?_
      refine e_iload_n dL_law_241 rfl ?_
      refine e_iconst dL_law_242 ⟨by decide, by decide⟩ ?_
      refine e_iadd dL_law_243 ?_
      obtain ⟨g244, hf⟩ := gd_some hf
      refine e_sld dL_law_244 rfl g244 ?_
      obtain ⟨q245, e245, hf⟩ := bd_some hf
      refine e_callV1i dL_law_245 rfl lk_838 ⟨rfl, rfl, Nat.le_of_ble_eq_true rfl, Nat.le_of_ble_eq_true rfl⟩ rfl rfl (Nat.le_of_ble_eq_true rfl) (q_X9_about h   ((xs (wr (l3 + 1)).toNat).toInt) e245) ?_
      refine e_icmp_eq (tgt := 1037) dL_law_248 (by decide) (fun c248 => ?_) (fun c248 => ?_)
      · replace hf := ifp hf c248
        exact e_mask [true, true, true, true] (q_L_law_1037 K18 q245.2   L xs hL l3 hK18 hf)
      · replace hf := ifn hf c248
        refine e_iconst dL_law_251 ⟨by decide, by decide⟩ ?_
        obtain rfl := Option.some.inj hf
        exact e_zreturn dL_law_252 rfl (by decide) ⟨rfl, rfl⟩
    replace hf := ifn hf c32_4
    by_cases c32_5 : band ((xs (l3).toNat).toInt) 31 = 5
    · replace hf := ifp hf c32_5
      refine e_tswIn (off := 221) (tgt := 253) dL_law_32 (by omega) (by omega) (by rw [c32_5]; rfl) (by decide) ?_
      refine e_aload_n dL_law_253 rfl ?_
      refine e_aload_n dL_law_254 rfl ?_
      refine e_iload_n dL_law_255 rfl ?_
      refine e_iconst dL_law_256 ⟨by decide, by decide⟩ ?_
      refine e_iadd dL_law_257 ?_
      obtain ⟨g258, hf⟩ := gd_some hf
      refine e_sld dL_law_258 rfl g258 ?_
      refine e_aload_n dL_law_259 rfl ?_
      refine e_iload_n dL_law_260 rfl ?_
      refine e_iconst dL_law_261 ⟨by decide, by decide⟩ ?_
      refine e_iadd dL_law_262 ?_
      obtain ⟨g263, hf⟩ := gd_some hf
      refine e_sld dL_law_263 rfl g263 ?_
      obtain ⟨q264, e264, hf⟩ := bd_some hf
      refine e_callV2i dL_law_264 rfl lk_339 ⟨rfl, rfl, Nat.le_of_ble_eq_true rfl, Nat.le_of_ble_eq_true rfl⟩ rfl rfl (Nat.le_of_ble_eq_true rfl) (q_X8_roof h   ((xs (wr (l3 + 1)).toNat).toInt) ((xs (wr (l3 + 2)).toNat).toInt) e264) ?_
      refine e_aload_n dL_law_267 rfl ?_
      refine e_aload_n dL_law_268 rfl ?_
      refine e_iload_n dL_law_269 rfl ?_
      refine e_iconst dL_law_270 ⟨by decide, by decide⟩ ?_
      refine e_iadd dL_law_271 ?_
      obtain ⟨g272, hf⟩ := gd_some hf
      refine e_sld dL_law_272 rfl g272 ?_
      refine e_aload_n dL_law_273 rfl ?_
      refine e_iload_n dL_law_274 rfl ?_
      refine e_iconst dL_law_275 ⟨by decide, by decide⟩ ?_
      refine e_iadd dL_law_276 ?_
      obtain ⟨g277, hf⟩ := gd_some hf
      refine e_sld dL_law_277 rfl g277 ?_
      obtain ⟨q278, e278, hf⟩ := bd_some hf
      refine e_callV2i dL_law_278 rfl lk_856 ⟨rfl, rfl, Nat.le_of_ble_eq_true rfl, Nat.le_of_ble_eq_true rfl⟩ rfl rfl (Nat.le_of_ble_eq_true rfl) (q_X9_roof q264.2   ((xs (wr (l3 + 1)).toNat).toInt) ((xs (wr (l3 + 2)).toNat).toInt) e278) ?_
      refine e_icmp_eq (tgt := 1037) dL_law_281 (by decide) (fun c281 => ?_) (fun c281 => ?_)
      · replace hf := ifp hf c281
        exact e_mask [true, true, true, true] (q_L_law_1037 K18 q278.2   L xs hL l3 hK18 hf)
      · replace hf := ifn hf c281
        refine e_iconst dL_law_284 ⟨by decide, by decide⟩ ?_
        obtain rfl := Option.some.inj hf
        exact e_zreturn dL_law_285 rfl (by decide) ⟨rfl, rfl⟩
    replace hf := ifn hf c32_5
    by_cases c32_6 : band ((xs (l3).toNat).toInt) 31 = 6
    · replace hf := ifp hf c32_6
      refine e_tswIn (off := 254) (tgt := 286) dL_law_32 (by omega) (by omega) (by rw [c32_6]; rfl) (by decide) ?_
      refine e_aload_n dL_law_286 rfl ?_
      refine e_aload_n dL_law_287 rfl ?_
      refine e_iload_n dL_law_288 rfl ?_
      refine e_iconst dL_law_289 ⟨by decide, by decide⟩ ?_
      refine e_iadd dL_law_290 ?_
      obtain ⟨g291, hf⟩ := gd_some hf
      refine e_sld dL_law_291 rfl g291 ?_
      refine e_aload_n dL_law_292 rfl ?_
      refine e_iload_n dL_law_293 rfl ?_
      refine e_iconst dL_law_294 ⟨by decide, by decide⟩ ?_
      refine e_iadd dL_law_295 ?_
      obtain ⟨g296, hf⟩ := gd_some hf
      refine e_sld dL_law_296 rfl g296 ?_
      obtain ⟨q297, e297, hf⟩ := bd_some hf
      refine e_callV2i dL_law_297 rfl lk_389 ⟨rfl, rfl, Nat.le_of_ble_eq_true rfl, Nat.le_of_ble_eq_true rfl⟩ rfl rfl (Nat.le_of_ble_eq_true rfl) (q_X8_star h   ((xs (wr (l3 + 1)).toNat).toInt) ((xs (wr (l3 + 2)).toNat).toInt) e297) ?_
      refine e_aload_n dL_law_300 rfl ?_
      refine e_aload_n dL_law_301 rfl ?_
      refine e_iload_n dL_law_302 rfl ?_
      refine e_iconst dL_law_303 ⟨by decide, by decide⟩ ?_
      refine e_iadd dL_law_304 ?_
      obtain ⟨g305, hf⟩ := gd_some hf
      refine e_sld dL_law_305 rfl g305 ?_
      refine e_aload_n dL_law_306 rfl ?_
      refine e_iload_n dL_law_307 rfl ?_
      refine e_iconst dL_law_308 ⟨by decide, by decide⟩ ?_
      refine e_iadd dL_law_309 ?_
      obtain ⟨g310, hf⟩ := gd_some hf
      refine e_sld dL_law_310 rfl g310 ?_
      obtain ⟨q311, e311, hf⟩ := bd_some hf
      refine e_callV2i dL_law_311 rfl lk_876 ⟨rfl, rfl, Nat.le_of_ble_eq_true rfl, Nat.le_of_ble_eq_true rfl⟩ rfl rfl (Nat.le_of_ble_eq_true rfl) (q_X9_star q297.2   ((xs (wr (l3 + 1)).toNat).toInt) ((xs (wr (l3 + 2)).toNat).toInt) e311) ?_
      refine e_icmp_eq (tgt := 1037) dL_law_314 (by decide) (fun c314 => ?_) (fun c314 => ?_)
      · replace hf := ifp hf c314
        exact e_mask [true, true, true, true] (q_L_law_1037 K18 q311.2   L xs hL l3 hK18 hf)
      · replace hf := ifn hf c314
        refine e_iconst dL_law_317 ⟨by decide, by decide⟩ ?_
        obtain rfl := Option.some.inj hf
        exact e_zreturn dL_law_318 rfl (by decide) ⟨rfl, rfl⟩
    replace hf := ifn hf c32_6
    by_cases c32_7 : band ((xs (l3).toNat).toInt) 31 = 7
    · replace hf := ifp hf c32_7
      refine e_tswIn (off := 287) (tgt := 319) dL_law_32 (by omega) (by omega) (by rw [c32_7]; rfl) (by decide) ?_
      refine e_aload_n dL_law_319 rfl ?_
      refine e_aload_n dL_law_320 rfl ?_
      refine e_iload_n dL_law_321 rfl ?_
      refine e_iconst dL_law_322 ⟨by decide, by decide⟩ ?_
      refine e_iadd dL_law_323 ?_
      obtain ⟨g324, hf⟩ := gd_some hf
      refine e_sld dL_law_324 rfl g324 ?_
      obtain ⟨r325, e325, hf⟩ := bd_some hf
      refine e_callV1i dL_law_325 rfl lk_411 ⟨rfl, rfl, Nat.le_of_ble_eq_true rfl, Nat.le_of_ble_eq_true rfl⟩ rfl rfl (Nat.le_of_ble_eq_true rfl) (q_X8_purse h   ((xs (wr (l3 + 1)).toNat).toInt) e325) ?_
      refine e_aload_n dL_law_328 rfl ?_
      refine e_aload_n dL_law_329 rfl ?_
      refine e_iload_n dL_law_330 rfl ?_
      refine e_iconst dL_law_331 ⟨by decide, by decide⟩ ?_
      refine e_iadd dL_law_332 ?_
      obtain ⟨g333, hf⟩ := gd_some hf
      refine e_sld dL_law_333 rfl g333 ?_
      obtain ⟨q334, e334, hf⟩ := bd_some hf
      refine e_callV1i dL_law_334 rfl lk_888 ⟨rfl, rfl, Nat.le_of_ble_eq_true rfl, Nat.le_of_ble_eq_true rfl⟩ rfl rfl (Nat.le_of_ble_eq_true rfl) (q_X9_purse h   ((xs (wr (l3 + 1)).toNat).toInt) e334) ?_
      refine e_icmp_eq (tgt := 1037) dL_law_337 (by decide) (fun c337 => ?_) (fun c337 => ?_)
      · replace hf := ifp hf c337
        exact e_mask [true, true, true, true] (q_L_law_1037 K18 q334.2   L xs hL l3 hK18 hf)
      · replace hf := ifn hf c337
        refine e_iconst dL_law_340 ⟨by decide, by decide⟩ ?_
        obtain rfl := Option.some.inj hf
        exact e_zreturn dL_law_341 rfl (by decide) ⟨rfl, rfl⟩
    replace hf := ifn hf c32_7
    by_cases c32_8 : band ((xs (l3).toNat).toInt) 31 = 8
    · replace hf := ifp hf c32_8
      refine e_tswIn (off := 310) (tgt := 342) dL_law_32 (by omega) (by omega) (by rw [c32_8]; rfl) (by decide) ?_
      refine e_aload_n dL_law_342 rfl ?_
      refine e_aload_n dL_law_343 rfl ?_
      refine e_iload_n dL_law_344 rfl ?_
      refine e_iconst dL_law_345 ⟨by decide, by decide⟩ ?_
      refine e_iadd dL_law_346 ?_
      obtain ⟨g347, hf⟩ := gd_some hf
      refine e_sld dL_law_347 rfl g347 ?_
      refine e_aload_n dL_law_348 rfl ?_
      refine e_iload_n dL_law_349 rfl ?_
      refine e_iconst dL_law_350 ⟨by decide, by decide⟩ ?_
      refine e_iadd dL_law_351 ?_
      obtain ⟨g352, hf⟩ := gd_some hf
      refine e_sld dL_law_352 rfl g352 ?_
      obtain ⟨q353, e353, hf⟩ := bd_some hf
      refine e_callV2i dL_law_353 rfl lk_418 ⟨rfl, rfl, Nat.le_of_ble_eq_true rfl, Nat.le_of_ble_eq_true rfl⟩ rfl rfl (Nat.le_of_ble_eq_true rfl) (q_X8_build h   ((xs (wr (l3 + 1)).toNat).toInt) ((xs (wr (l3 + 2)).toNat).toInt) e353) ?_
      refine e_aload_n dL_law_356 rfl ?_
      refine e_aload_n dL_law_357 rfl ?_
      refine e_iload_n dL_law_358 rfl ?_
      refine e_iconst dL_law_359 ⟨by decide, by decide⟩ ?_
      refine e_iadd dL_law_360 ?_
      obtain ⟨g361, hf⟩ := gd_some hf
      refine e_sld dL_law_361 rfl g361 ?_
      refine e_aload_n dL_law_362 rfl ?_
      refine e_iload_n dL_law_363 rfl ?_
      refine e_iconst dL_law_364 ⟨by decide, by decide⟩ ?_
      refine e_iadd dL_law_365 ?_
      obtain ⟨g366, hf⟩ := gd_some hf
      refine e_sld dL_law_366 rfl g366 ?_
      obtain ⟨q367, e367, hf⟩ := bd_some hf
      refine e_callV2i dL_law_367 rfl lk_893 ⟨rfl, rfl, Nat.le_of_ble_eq_true rfl, Nat.le_of_ble_eq_true rfl⟩ rfl rfl (Nat.le_of_ble_eq_true rfl) (q_X9_build q353.2   ((xs (wr (l3 + 1)).toNat).toInt) ((xs (wr (l3 + 2)).toNat).toInt) e367) ?_
      refine e_icmp_eq (tgt := 1037) dL_law_370 (by decide) (fun c370 => ?_) (fun c370 => ?_)
      · replace hf := ifp hf c370
        exact e_mask [true, true, true, true] (q_L_law_1037 K18 q367.2   L xs hL l3 hK18 hf)
      · replace hf := ifn hf c370
        refine e_iconst dL_law_373 ⟨by decide, by decide⟩ ?_
        obtain rfl := Option.some.inj hf
        exact e_zreturn dL_law_374 rfl (by decide) ⟨rfl, rfl⟩
    replace hf := ifn hf c32_8
    by_cases c32_9 : band ((xs (l3).toNat).toInt) 31 = 9
    · replace hf := ifp hf c32_9
      refine e_tswIn (off := 343) (tgt := 375) dL_law_32 (by omega) (by omega) (by rw [c32_9]; rfl) (by decide) ?_
      refine e_aload_n dL_law_375 rfl ?_
      refine e_aload_n dL_law_376 rfl ?_
      refine e_iload_n dL_law_377 rfl ?_
      refine e_iconst dL_law_378 ⟨by decide, by decide⟩ ?_
      refine e_iadd dL_law_379 ?_
      obtain ⟨g380, hf⟩ := gd_some hf
      refine e_sld dL_law_380 rfl g380 ?_
      obtain ⟨q381, e381, hf⟩ := bd_some hf
      refine e_callV1i dL_law_381 rfl lk_437 ⟨rfl, rfl, Nat.le_of_ble_eq_true rfl, Nat.le_of_ble_eq_true rfl⟩ rfl rfl (Nat.le_of_ble_eq_true rfl) (q_X8_light h   ((xs (wr (l3 + 1)).toNat).toInt) e381) ?_
      refine e_aload_n dL_law_384 rfl ?_
      refine e_aload_n dL_law_385 rfl ?_
      refine e_iload_n dL_law_386 rfl ?_
      refine e_iconst dL_law_387 ⟨by decide, by decide⟩ ?_
      refine e_iadd dL_law_388 ?_
      obtain ⟨g389, hf⟩ := gd_some hf
      refine e_sld dL_law_389 rfl g389 ?_
      obtain ⟨q390, e390, hf⟩ := bd_some hf
      refine e_callV1i dL_law_390 rfl lk_902 ⟨rfl, rfl, Nat.le_of_ble_eq_true rfl, Nat.le_of_ble_eq_true rfl⟩ rfl rfl (Nat.le_of_ble_eq_true rfl) (q_X9_light q381.2   ((xs (wr (l3 + 1)).toNat).toInt) e390) ?_
      refine e_icmp_eq (tgt := 1037) dL_law_393 (by decide) (fun c393 => ?_) (fun c393 => ?_)
      · replace hf := ifp hf c393
        exact e_mask [true, true, true, true] (q_L_law_1037 K18 q390.2   L xs hL l3 hK18 hf)
      · replace hf := ifn hf c393
        refine e_iconst dL_law_396 ⟨by decide, by decide⟩ ?_
        obtain rfl := Option.some.inj hf
        exact e_zreturn dL_law_397 rfl (by decide) ⟨rfl, rfl⟩
    replace hf := ifn hf c32_9
    by_cases c32_10 : band ((xs (l3).toNat).toInt) 31 = 10
    · replace hf := ifp hf c32_10
      refine e_tswIn (off := 366) (tgt := 398) dL_law_32 (by omega) (by omega) (by rw [c32_10]; rfl) (by decide) ?_
      refine e_aload_n dL_law_398 rfl ?_
      refine e_aload_n dL_law_399 rfl ?_
      refine e_iload_n dL_law_400 rfl ?_
      refine e_iconst dL_law_401 ⟨by decide, by decide⟩ ?_
      refine e_iadd dL_law_402 ?_
      obtain ⟨g403, hf⟩ := gd_some hf
      refine e_sld dL_law_403 rfl g403 ?_
      refine e_aload_n dL_law_404 rfl ?_
      refine e_iload_n dL_law_405 rfl ?_
      refine e_iconst dL_law_406 ⟨by decide, by decide⟩ ?_
      refine e_iadd dL_law_407 ?_
      obtain ⟨g408, hf⟩ := gd_some hf
      refine e_sld dL_law_408 rfl g408 ?_
      obtain ⟨q409, e409, hf⟩ := bd_some hf
      refine e_callV2i dL_law_409 rfl lk_441 ⟨rfl, rfl, Nat.le_of_ble_eq_true rfl, Nat.le_of_ble_eq_true rfl⟩ rfl rfl (Nat.le_of_ble_eq_true rfl) (q_X8_sell h   ((xs (wr (l3 + 1)).toNat).toInt) ((xs (wr (l3 + 2)).toNat).toInt) e409) ?_
      refine e_aload_n dL_law_412 rfl ?_
      refine e_aload_n dL_law_413 rfl ?_
      refine e_iload_n dL_law_414 rfl ?_
      refine e_iconst dL_law_415 ⟨by decide, by decide⟩ ?_
      refine e_iadd dL_law_416 ?_
      obtain ⟨g417, hf⟩ := gd_some hf
      refine e_sld dL_law_417 rfl g417 ?_
      refine e_aload_n dL_law_418 rfl ?_
      refine e_iload_n dL_law_419 rfl ?_
      refine e_iconst dL_law_420 ⟨by decide, by decide⟩ ?_
      refine e_iadd dL_law_421 ?_
      obtain ⟨g422, hf⟩ := gd_some hf
      refine e_sld dL_law_422 rfl g422 ?_
      obtain ⟨q423, e423, hf⟩ := bd_some hf
      refine e_callV2i dL_law_423 rfl lk_906 ⟨rfl, rfl, Nat.le_of_ble_eq_true rfl, Nat.le_of_ble_eq_true rfl⟩ rfl rfl (Nat.le_of_ble_eq_true rfl) (q_X9_sell q409.2   ((xs (wr (l3 + 1)).toNat).toInt) ((xs (wr (l3 + 2)).toNat).toInt) e423) ?_
      refine e_icmp_eq (tgt := 1037) dL_law_426 (by decide) (fun c426 => ?_) (fun c426 => ?_)
      · replace hf := ifp hf c426
        exact e_mask [true, true, true, true] (q_L_law_1037 K18 q423.2   L xs hL l3 hK18 hf)
      · replace hf := ifn hf c426
        refine e_iconst dL_law_429 ⟨by decide, by decide⟩ ?_
        obtain rfl := Option.some.inj hf
        exact e_zreturn dL_law_430 rfl (by decide) ⟨rfl, rfl⟩
    replace hf := ifn hf c32_10
    by_cases c32_11 : band ((xs (l3).toNat).toInt) 31 = 11
    · replace hf := ifp hf c32_11
      refine e_tswIn (off := 399) (tgt := 431) dL_law_32 (by omega) (by omega) (by rw [c32_11]; rfl) (by decide) ?_
      refine e_aload_n dL_law_431 rfl ?_
      obtain ⟨q432, e432, hf⟩ := bd_some hf
      refine e_callV0i dL_law_432 rfl lk_449 ⟨rfl, rfl, Nat.le_of_ble_eq_true rfl, Nat.le_of_ble_eq_true rfl⟩ rfl rfl (Nat.le_of_ble_eq_true rfl) (q_X8_clouds h    e432) ?_
      refine e_aload_n dL_law_435 rfl ?_
      obtain ⟨q436, e436, hf⟩ := bd_some hf
      refine e_callV0i dL_law_436 rfl lk_910 ⟨rfl, rfl, Nat.le_of_ble_eq_true rfl, Nat.le_of_ble_eq_true rfl⟩ rfl rfl (Nat.le_of_ble_eq_true rfl) (q_X9_clouds q432.2    e436) ?_
      refine e_icmp_eq (tgt := 1037) dL_law_439 (by decide) (fun c439 => ?_) (fun c439 => ?_)
      · replace hf := ifp hf c439
        exact e_mask [true, true, true, true] (q_L_law_1037 K18 q436.2   L xs hL l3 hK18 hf)
      · replace hf := ifn hf c439
        refine e_iconst dL_law_442 ⟨by decide, by decide⟩ ?_
        obtain rfl := Option.some.inj hf
        exact e_zreturn dL_law_443 rfl (by decide) ⟨rfl, rfl⟩
    replace hf := ifn hf c32_11
    by_cases c32_12 : band ((xs (l3).toNat).toInt) 31 = 12
    · replace hf := ifp hf c32_12
      refine e_tswIn (off := 412) (tgt := 444) dL_law_32 (by omega) (by omega) (by rw [c32_12]; rfl) (by decide) ?_
      refine e_aload_n dL_law_444 rfl ?_
      obtain ⟨q445, e445, hf⟩ := bd_some hf
      refine e_callV0i dL_law_445 rfl lk_453 ⟨rfl, rfl, Nat.le_of_ble_eq_true rfl, Nat.le_of_ble_eq_true rfl⟩ rfl rfl (Nat.le_of_ble_eq_true rfl) (q_X8_hour h    e445) ?_
      refine e_aload_n dL_law_448 rfl ?_
      obtain ⟨q449, e449, hf⟩ := bd_some hf
      refine e_callV0i dL_law_449 rfl lk_914 ⟨rfl, rfl, Nat.le_of_ble_eq_true rfl, Nat.le_of_ble_eq_true rfl⟩ rfl rfl (Nat.le_of_ble_eq_true rfl) (q_X9_hour q445.2    e449) ?_
      refine e_icmp_eq (tgt := 1037) dL_law_452 (by decide) (fun c452 => ?_) (fun c452 => ?_)
      · replace hf := ifp hf c452
        exact e_mask [true, true, true, true] (q_L_law_1037 K18 q449.2   L xs hL l3 hK18 hf)
      · replace hf := ifn hf c452
        refine e_iconst dL_law_455 ⟨by decide, by decide⟩ ?_
        obtain rfl := Option.some.inj hf
        exact e_zreturn dL_law_456 rfl (by decide) ⟨rfl, rfl⟩
    replace hf := ifn hf c32_12
    by_cases c32_13 : band ((xs (l3).toNat).toInt) 31 = 13
    · replace hf := ifp hf c32_13
      refine e_tswIn (off := 425) (tgt := 457) dL_law_32 (by omega) (by omega) (by rw [c32_13]; rfl) (by decide) ?_
      refine e_aload_n dL_law_457 rfl ?_
      obtain ⟨q458, e458, hf⟩ := bd_some hf
      refine e_callV0i dL_law_458 rfl lk_473 ⟨rfl, rfl, Nat.le_of_ble_eq_true rfl, Nat.le_of_ble_eq_true rfl⟩ rfl rfl (Nat.le_of_ble_eq_true rfl) (q_X8_undo h    e458) ?_
      refine e_aload_n dL_law_461 rfl ?_
      obtain ⟨q462, e462, hf⟩ := bd_some hf
      refine e_callV0i dL_law_462 rfl lk_922 ⟨rfl, rfl, Nat.le_of_ble_eq_true rfl, Nat.le_of_ble_eq_true rfl⟩ rfl rfl (Nat.le_of_ble_eq_true rfl) (q_X9_undo q458.2    e462) ?_
      refine e_icmp_eq (tgt := 1037) dL_law_465 (by decide) (fun c465 => ?_) (fun c465 => ?_)
      · replace hf := ifp hf c465
        exact e_mask [true, true, true, true] (q_L_law_1037 K18 q462.2   L xs hL l3 hK18 hf)
      · replace hf := ifn hf c465
        refine e_iconst dL_law_468 ⟨by decide, by decide⟩ ?_
        obtain rfl := Option.some.inj hf
        exact e_zreturn dL_law_469 rfl (by decide) ⟨rfl, rfl⟩
    replace hf := ifn hf c32_13
    by_cases c32_14 : band ((xs (l3).toNat).toInt) 31 = 14
    · replace hf := ifp hf c32_14
      refine e_tswIn (off := 438) (tgt := 470) dL_law_32 (by omega) (by omega) (by rw [c32_14]; rfl) (by decide) ?_
      refine e_aload_n dL_law_470 rfl ?_
      refine e_aload_n dL_law_471 rfl ?_
      refine e_iload_n dL_law_472 rfl ?_
      refine e_iconst dL_law_473 ⟨by decide, by decide⟩ ?_
      refine e_iadd dL_law_474 ?_
      obtain ⟨g475, hf⟩ := gd_some hf
      refine e_sld dL_law_475 rfl g475 ?_
      refine e_aload_n dL_law_476 rfl ?_
      refine e_iload_n dL_law_477 rfl ?_
      refine e_iconst dL_law_478 ⟨by decide, by decide⟩ ?_
      refine e_iadd dL_law_479 ?_
      obtain ⟨g480, hf⟩ := gd_some hf
      refine e_sld dL_law_480 rfl g480 ?_
      obtain ⟨q481, e481, hf⟩ := bd_some hf
      refine e_callV2i dL_law_481 rfl lk_481 ⟨rfl, rfl, Nat.le_of_ble_eq_true rfl, Nat.le_of_ble_eq_true rfl⟩ rfl rfl (Nat.le_of_ble_eq_true rfl) (q_X8_rents h   ((xs (wr (l3 + 1)).toNat).toInt) ((xs (wr (l3 + 2)).toNat).toInt) e481) ?_
      refine e_aload_n dL_law_484 rfl ?_
      refine e_aload_n dL_law_485 rfl ?_
      refine e_iload_n dL_law_486 rfl ?_
      refine e_iconst dL_law_487 ⟨by decide, by decide⟩ ?_
      refine e_iadd dL_law_488 ?_
      obtain ⟨g489, hf⟩ := gd_some hf
      refine e_sld dL_law_489 rfl g489 ?_
      refine e_aload_n dL_law_490 rfl ?_
      refine e_iload_n dL_law_491 rfl ?_
      refine e_iconst dL_law_492 ⟨by decide, by decide⟩ ?_
      refine e_iadd dL_law_493 ?_
      obtain ⟨g494, hf⟩ := gd_some hf
      refine e_sld dL_law_494 rfl g494 ?_
      obtain ⟨q495, e495, hf⟩ := bd_some hf
      refine e_callV2i dL_law_495 rfl lk_926 ⟨rfl, rfl, Nat.le_of_ble_eq_true rfl, Nat.le_of_ble_eq_true rfl⟩ rfl rfl (Nat.le_of_ble_eq_true rfl) (q_X9_rents q481.2   ((xs (wr (l3 + 1)).toNat).toInt) ((xs (wr (l3 + 2)).toNat).toInt) e495) ?_
      refine e_icmp_eq (tgt := 1037) dL_law_498 (by decide) (fun c498 => ?_) (fun c498 => ?_)
      · replace hf := ifp hf c498
        exact e_mask [true, true, true, true] (q_L_law_1037 K18 q495.2   L xs hL l3 hK18 hf)
      · replace hf := ifn hf c498
        refine e_iconst dL_law_501 ⟨by decide, by decide⟩ ?_
        obtain rfl := Option.some.inj hf
        exact e_zreturn dL_law_502 rfl (by decide) ⟨rfl, rfl⟩
    replace hf := ifn hf c32_14
    by_cases c32_15 : band ((xs (l3).toNat).toInt) 31 = 15
    · replace hf := ifp hf c32_15
      refine e_tswIn (off := 471) (tgt := 503) dL_law_32 (by omega) (by omega) (by rw [c32_15]; rfl) (by decide) ?_
      refine e_aload_n dL_law_503 rfl ?_
      refine e_aload_n dL_law_504 rfl ?_
      refine e_iload_n dL_law_505 rfl ?_
      refine e_iconst dL_law_506 ⟨by decide, by decide⟩ ?_
      refine e_iadd dL_law_507 ?_
      obtain ⟨g508, hf⟩ := gd_some hf
      refine e_sld dL_law_508 rfl g508 ?_
      refine e_aload_n dL_law_509 rfl ?_
      refine e_iload_n dL_law_510 rfl ?_
      refine e_iconst dL_law_511 ⟨by decide, by decide⟩ ?_
      refine e_iadd dL_law_512 ?_
      obtain ⟨g513, hf⟩ := gd_some hf
      refine e_sld dL_law_513 rfl g513 ?_
      obtain ⟨q514, e514, hf⟩ := bd_some hf
      refine e_callV2i dL_law_514 rfl lk_485 ⟨rfl, rfl, Nat.le_of_ble_eq_true rfl, Nat.le_of_ble_eq_true rfl⟩ rfl rfl (Nat.le_of_ble_eq_true rfl) (q_X8_hold h   ((xs (wr (l3 + 1)).toNat).toInt) ((xs (wr (l3 + 2)).toNat).toInt) e514) ?_
      refine e_aload_n dL_law_517 rfl ?_
      refine e_aload_n dL_law_518 rfl ?_
      refine e_iload_n dL_law_519 rfl ?_
      refine e_iconst dL_law_520 ⟨by decide, by decide⟩ ?_
      refine e_iadd dL_law_521 ?_
      obtain ⟨g522, hf⟩ := gd_some hf
      refine e_sld dL_law_522 rfl g522 ?_
      refine e_aload_n dL_law_523 rfl ?_
      refine e_iload_n dL_law_524 rfl ?_
      refine e_iconst dL_law_525 ⟨by decide, by decide⟩ ?_
      refine e_iadd dL_law_526 ?_
      obtain ⟨g527, hf⟩ := gd_some hf
      refine e_sld dL_law_527 rfl g527 ?_
      obtain ⟨q528, e528, hf⟩ := bd_some hf
      refine e_callV2i dL_law_528 rfl lk_932 ⟨rfl, rfl, Nat.le_of_ble_eq_true rfl, Nat.le_of_ble_eq_true rfl⟩ rfl rfl (Nat.le_of_ble_eq_true rfl) (q_X9_hold q514.2   ((xs (wr (l3 + 1)).toNat).toInt) ((xs (wr (l3 + 2)).toNat).toInt) e528) ?_
      refine e_icmp_eq (tgt := 1037) dL_law_531 (by decide) (fun c531 => ?_) (fun c531 => ?_)
      · replace hf := ifp hf c531
        exact e_mask [true, true, true, true] (q_L_law_1037 K18 q528.2   L xs hL l3 hK18 hf)
      · replace hf := ifn hf c531
        refine e_iconst dL_law_534 ⟨by decide, by decide⟩ ?_
        obtain rfl := Option.some.inj hf
        exact e_zreturn dL_law_535 rfl (by decide) ⟨rfl, rfl⟩
    replace hf := ifn hf c32_15
    by_cases c32_16 : band ((xs (l3).toNat).toInt) 31 = 16
    · replace hf := ifp hf c32_16
      refine e_tswIn (off := 504) (tgt := 536) dL_law_32 (by omega) (by omega) (by rw [c32_16]; rfl) (by decide) ?_
      refine e_aload_n dL_law_536 rfl ?_
      refine e_aload_n dL_law_537 rfl ?_
      refine e_iload_n dL_law_538 rfl ?_
      refine e_iconst dL_law_539 ⟨by decide, by decide⟩ ?_
      refine e_iadd dL_law_540 ?_
      obtain ⟨g541, hf⟩ := gd_some hf
      refine e_sld dL_law_541 rfl g541 ?_
      refine e_aload_n dL_law_542 rfl ?_
      refine e_iload_n dL_law_543 rfl ?_
      refine e_iconst dL_law_544 ⟨by decide, by decide⟩ ?_
      refine e_iadd dL_law_545 ?_
      obtain ⟨g546, hf⟩ := gd_some hf
      refine e_sld dL_law_546 rfl g546 ?_
      obtain ⟨q547, e547, hf⟩ := bd_some hf
      refine e_callV2i dL_law_547 rfl lk_507 ⟨rfl, rfl, Nat.le_of_ble_eq_true rfl, Nat.le_of_ble_eq_true rfl⟩ rfl rfl (Nat.le_of_ble_eq_true rfl) (q_X8_fires h   ((xs (wr (l3 + 1)).toNat).toInt) ((xs (wr (l3 + 2)).toNat).toInt) e547) ?_
      refine e_aload_n dL_law_550 rfl ?_
      refine e_aload_n dL_law_551 rfl ?_
      refine e_iload_n dL_law_552 rfl ?_
      refine e_iconst dL_law_553 ⟨by decide, by decide⟩ ?_
      refine e_iadd dL_law_554 ?_
      obtain ⟨g555, hf⟩ := gd_some hf
      refine e_sld dL_law_555 rfl g555 ?_
      refine e_aload_n dL_law_556 rfl ?_
      refine e_iload_n dL_law_557 rfl ?_
      refine e_iconst dL_law_558 ⟨by decide, by decide⟩ ?_
      refine e_iadd dL_law_559 ?_
      obtain ⟨g560, hf⟩ := gd_some hf
      refine e_sld dL_law_560 rfl g560 ?_
      obtain ⟨q561, e561, hf⟩ := bd_some hf
      refine e_callV2i dL_law_561 rfl lk_940 ⟨rfl, rfl, Nat.le_of_ble_eq_true rfl, Nat.le_of_ble_eq_true rfl⟩ rfl rfl (Nat.le_of_ble_eq_true rfl) (q_X9_fires q547.2   ((xs (wr (l3 + 1)).toNat).toInt) ((xs (wr (l3 + 2)).toNat).toInt) e561) ?_
      refine e_icmp_eq (tgt := 1037) dL_law_564 (by decide) (fun c564 => ?_) (fun c564 => ?_)
      · replace hf := ifp hf c564
        exact e_mask [true, true, true, true] (q_L_law_1037 K18 q561.2   L xs hL l3 hK18 hf)
      · replace hf := ifn hf c564
        refine e_iconst dL_law_567 ⟨by decide, by decide⟩ ?_
        obtain rfl := Option.some.inj hf
        exact e_zreturn dL_law_568 rfl (by decide) ⟨rfl, rfl⟩
    replace hf := ifn hf c32_16
    by_cases c32_17 : band ((xs (l3).toNat).toInt) 31 = 17
    · replace hf := ifp hf c32_17
      refine e_tswIn (off := 537) (tgt := 569) dL_law_32 (by omega) (by omega) (by rw [c32_17]; rfl) (by decide) ?_
      refine e_aload_n dL_law_569 rfl ?_
      refine e_aload_n dL_law_570 rfl ?_
      refine e_iload_n dL_law_571 rfl ?_
      refine e_iconst dL_law_572 ⟨by decide, by decide⟩ ?_
      refine e_iadd dL_law_573 ?_
      obtain ⟨g574, hf⟩ := gd_some hf
      refine e_sld dL_law_574 rfl g574 ?_
      refine e_aload_n dL_law_575 rfl ?_
      refine e_iload_n dL_law_576 rfl ?_
      refine e_iconst dL_law_577 ⟨by decide, by decide⟩ ?_
      refine e_iadd dL_law_578 ?_
      obtain ⟨g579, hf⟩ := gd_some hf
      refine e_sld dL_law_579 rfl g579 ?_
      refine e_aload_n dL_law_580 rfl ?_
      refine e_iload_n dL_law_581 rfl ?_
      refine e_iconst dL_law_582 ⟨by decide, by decide⟩ ?_
      refine e_iadd dL_law_583 ?_
      obtain ⟨g584, hf⟩ := gd_some hf
      refine e_sld dL_law_584 rfl g584 ?_
      refine e_if_eq (tgt := 592) dL_law_585 (by decide) (fun c585 => ?_) (fun c585 => ?_)
      · replace hf := ifp hf c585
        refine e_iconst dL_law_592 ⟨by decide, by decide⟩ ?_
        exact e_mask [true, true, true, true] (q_L_law_593 K18 h   L xs hL l3 ((xs (wr (l3 + 1)).toNat).toInt) ((xs (wr (l3 + 2)).toNat).toInt) 0 hK18 hf)
      · replace hf := ifn hf c585
        refine e_iconst dL_law_588 ⟨by decide, by decide⟩ ?_
        refine e_goto (tgt := 593) dL_law_589 (by decide) ?_
        exact e_mask [true, true, true, true] (q_L_law_593 K18 h   L xs hL l3 ((xs (wr (l3 + 1)).toNat).toInt) ((xs (wr (l3 + 2)).toNat).toInt) 1 hK18 hf)
    replace hf := ifn hf c32_17
    by_cases c32_18 : band ((xs (l3).toNat).toInt) 31 = 18
    · replace hf := ifp hf c32_18
      refine e_tswIn (off := 596) (tgt := 628) dL_law_32 (by omega) (by omega) (by rw [c32_18]; rfl) (by decide) ?_
      refine e_aload_n dL_law_628 rfl ?_
      refine e_aload_n dL_law_629 rfl ?_
      refine e_iload_n dL_law_630 rfl ?_
      refine e_iconst dL_law_631 ⟨by decide, by decide⟩ ?_
      refine e_iadd dL_law_632 ?_
      obtain ⟨g633, hf⟩ := gd_some hf
      refine e_sld dL_law_633 rfl g633 ?_
      refine e_aload_n dL_law_634 rfl ?_
      refine e_iload_n dL_law_635 rfl ?_
      refine e_iconst dL_law_636 ⟨by decide, by decide⟩ ?_
      refine e_iadd dL_law_637 ?_
      obtain ⟨g638, hf⟩ := gd_some hf
      refine e_sld dL_law_638 rfl g638 ?_
      obtain ⟨q639, e639, hf⟩ := bd_some hf
      refine e_callV2i dL_law_639 rfl lk_540 ⟨rfl, rfl, Nat.le_of_ble_eq_true rfl, Nat.le_of_ble_eq_true rfl⟩ rfl rfl (Nat.le_of_ble_eq_true rfl) (q_X8_bestLaw h   ((xs (wr (l3 + 1)).toNat).toInt) ((xs (wr (l3 + 2)).toNat).toInt) e639) ?_
      refine e_aload_n dL_law_642 rfl ?_
      refine e_aload_n dL_law_643 rfl ?_
      refine e_iload_n dL_law_644 rfl ?_
      refine e_iconst dL_law_645 ⟨by decide, by decide⟩ ?_
      refine e_iadd dL_law_646 ?_
      obtain ⟨g647, hf⟩ := gd_some hf
      refine e_sld dL_law_647 rfl g647 ?_
      refine e_aload_n dL_law_648 rfl ?_
      refine e_iload_n dL_law_649 rfl ?_
      refine e_iconst dL_law_650 ⟨by decide, by decide⟩ ?_
      refine e_iadd dL_law_651 ?_
      obtain ⟨g652, hf⟩ := gd_some hf
      refine e_sld dL_law_652 rfl g652 ?_
      obtain ⟨q653, e653, hf⟩ := bd_some hf
      refine e_callV2i dL_law_653 rfl lk_965 ⟨rfl, rfl, Nat.le_of_ble_eq_true rfl, Nat.le_of_ble_eq_true rfl⟩ rfl rfl (Nat.le_of_ble_eq_true rfl) (q_X9_bestLaw q639.2   ((xs (wr (l3 + 1)).toNat).toInt) ((xs (wr (l3 + 2)).toNat).toInt) e653) ?_
      refine e_icmp_eq (tgt := 1037) dL_law_656 (by decide) (fun c656 => ?_) (fun c656 => ?_)
      · replace hf := ifp hf c656
        exact e_mask [true, true, true, true] (q_L_law_1037 K18 q653.2   L xs hL l3 hK18 hf)
      · replace hf := ifn hf c656
        refine e_iconst dL_law_659 ⟨by decide, by decide⟩ ?_
        obtain rfl := Option.some.inj hf
        exact e_zreturn dL_law_660 rfl (by decide) ⟨rfl, rfl⟩
    replace hf := ifn hf c32_18
    by_cases c32_19 : band ((xs (l3).toNat).toInt) 31 = 19
    · replace hf := ifp hf c32_19
      refine e_tswIn (off := 629) (tgt := 661) dL_law_32 (by omega) (by omega) (by rw [c32_19]; rfl) (by decide) ?_
      refine e_aload_n dL_law_661 rfl ?_
      refine e_aload_n dL_law_662 rfl ?_
      refine e_iload_n dL_law_663 rfl ?_
      refine e_iconst dL_law_664 ⟨by decide, by decide⟩ ?_
      refine e_iadd dL_law_665 ?_
      obtain ⟨g666, hf⟩ := gd_some hf
      refine e_sld dL_law_666 rfl g666 ?_
      obtain ⟨q667, e667, hf⟩ := bd_some hf
      refine e_callV1i dL_law_667 rfl lk_548 ⟨rfl, rfl, Nat.le_of_ble_eq_true rfl, Nat.le_of_ble_eq_true rfl⟩ rfl rfl (Nat.le_of_ble_eq_true rfl) (q_X8_starless h   ((xs (wr (l3 + 1)).toNat).toInt) e667) ?_
      refine e_aload_n dL_law_670 rfl ?_
      refine e_aload_n dL_law_671 rfl ?_
      refine e_iload_n dL_law_672 rfl ?_
      refine e_iconst dL_law_673 ⟨by decide, by decide⟩ ?_
      refine e_iadd dL_law_674 ?_
      obtain ⟨g675, hf⟩ := gd_some hf
      refine e_sld dL_law_675 rfl g675 ?_
      obtain ⟨q676, e676, hf⟩ := bd_some hf
      refine e_callV1i dL_law_676 rfl lk_969 ⟨rfl, rfl, Nat.le_of_ble_eq_true rfl, Nat.le_of_ble_eq_true rfl⟩ rfl rfl (Nat.le_of_ble_eq_true rfl) (q_X9_starless q667.2   ((xs (wr (l3 + 1)).toNat).toInt) e676) ?_
      refine e_icmp_eq (tgt := 1037) dL_law_679 (by decide) (fun c679 => ?_) (fun c679 => ?_)
      · replace hf := ifp hf c679
        exact e_mask [true, true, true, true] (q_L_law_1037 K18 q676.2   L xs hL l3 hK18 hf)
      · replace hf := ifn hf c679
        refine e_iconst dL_law_682 ⟨by decide, by decide⟩ ?_
        obtain rfl := Option.some.inj hf
        exact e_zreturn dL_law_683 rfl (by decide) ⟨rfl, rfl⟩
    replace hf := ifn hf c32_19
    by_cases c32_20 : band ((xs (l3).toNat).toInt) 31 = 20
    · replace hf := ifp hf c32_20
      refine e_tswIn (off := 652) (tgt := 684) dL_law_32 (by omega) (by omega) (by rw [c32_20]; rfl) (by decide) ?_
      refine e_aload_n dL_law_684 rfl ?_
      refine e_aload_n dL_law_685 rfl ?_
      refine e_iload_n dL_law_686 rfl ?_
      refine e_iconst dL_law_687 ⟨by decide, by decide⟩ ?_
      refine e_iadd dL_law_688 ?_
      obtain ⟨g689, hf⟩ := gd_some hf
      refine e_sld dL_law_689 rfl g689 ?_
      refine e_aload_n dL_law_690 rfl ?_
      refine e_iload_n dL_law_691 rfl ?_
      refine e_iconst dL_law_692 ⟨by decide, by decide⟩ ?_
      refine e_iadd dL_law_693 ?_
      obtain ⟨g694, hf⟩ := gd_some hf
      refine e_sld dL_law_694 rfl g694 ?_
      refine e_aload_n dL_law_695 rfl ?_
      refine e_iload_n dL_law_696 rfl ?_
      refine e_iconst dL_law_697 ⟨by decide, by decide⟩ ?_
      refine e_iadd dL_law_698 ?_
      obtain ⟨g699, hf⟩ := gd_some hf
      refine e_sld dL_law_699 rfl g699 ?_
      refine e_aload_n dL_law_700 rfl ?_
      refine e_iload_n dL_law_701 rfl ?_
      refine e_iconst dL_law_702 ⟨by decide, by decide⟩ ?_
      refine e_iadd dL_law_703 ?_
      obtain ⟨g704, hf⟩ := gd_some hf
      refine e_sld dL_law_704 rfl g704 ?_
      obtain ⟨q705, e705, hf⟩ := bd_some hf
      refine e_callV4i dL_law_705 rfl lk_556 ⟨rfl, rfl, Nat.le_of_ble_eq_true rfl, Nat.le_of_ble_eq_true rfl⟩ rfl rfl (Nat.le_of_ble_eq_true rfl) (q_X8_rests h   ((xs (wr (l3 + 1)).toNat).toInt) ((xs (wr (l3 + 2)).toNat).toInt) ((xs (wr (l3 + 3)).toNat).toInt) ((xs (wr (l3 + 4)).toNat).toInt) e705) ?_
      refine e_aload_n dL_law_708 rfl ?_
      refine e_aload_n dL_law_709 rfl ?_
      refine e_iload_n dL_law_710 rfl ?_
      refine e_iconst dL_law_711 ⟨by decide, by decide⟩ ?_
      refine e_iadd dL_law_712 ?_
      obtain ⟨g713, hf⟩ := gd_some hf
      refine e_sld dL_law_713 rfl g713 ?_
      refine e_aload_n dL_law_714 rfl ?_
      refine e_iload_n dL_law_715 rfl ?_
      refine e_iconst dL_law_716 ⟨by decide, by decide⟩ ?_
      refine e_iadd dL_law_717 ?_
      obtain ⟨g718, hf⟩ := gd_some hf
      refine e_sld dL_law_718 rfl g718 ?_
      refine e_aload_n dL_law_719 rfl ?_
      refine e_iload_n dL_law_720 rfl ?_
      refine e_iconst dL_law_721 ⟨by decide, by decide⟩ ?_
      refine e_iadd dL_law_722 ?_
      obtain ⟨g723, hf⟩ := gd_some hf
      refine e_sld dL_law_723 rfl g723 ?_
      refine e_aload_n dL_law_724 rfl ?_
      refine e_iload_n dL_law_725 rfl ?_
      refine e_iconst dL_law_726 ⟨by decide, by decide⟩ ?_
      refine e_iadd dL_law_727 ?_
      obtain ⟨g728, hf⟩ := gd_some hf
      refine e_sld dL_law_728 rfl g728 ?_
      obtain ⟨q729, e729, hf⟩ := bd_some hf
      refine e_callV4i dL_law_729 rfl lk_973 ⟨rfl, rfl, Nat.le_of_ble_eq_true rfl, Nat.le_of_ble_eq_true rfl⟩ rfl rfl (Nat.le_of_ble_eq_true rfl) (q_X9_rests q705.2   ((xs (wr (l3 + 1)).toNat).toInt) ((xs (wr (l3 + 2)).toNat).toInt) ((xs (wr (l3 + 3)).toNat).toInt) ((xs (wr (l3 + 4)).toNat).toInt) e729) ?_
      refine e_icmp_eq (tgt := 1037) dL_law_732 (by decide) (fun c732 => ?_) (fun c732 => ?_)
      · replace hf := ifp hf c732
        exact e_mask [true, true, true, true] (q_L_law_1037 K18 q729.2   L xs hL l3 hK18 hf)
      · replace hf := ifn hf c732
        refine e_iconst dL_law_735 ⟨by decide, by decide⟩ ?_
        obtain rfl := Option.some.inj hf
        exact e_zreturn dL_law_736 rfl (by decide) ⟨rfl, rfl⟩
    replace hf := ifn hf c32_20
    by_cases c32_21 : band ((xs (l3).toNat).toInt) 31 = 21
    · replace hf := ifp hf c32_21
      refine e_tswIn (off := 705) (tgt := 737) dL_law_32 (by omega) (by omega) (by rw [c32_21]; rfl) (by decide) ?_
      refine e_aload_n dL_law_737 rfl ?_
      refine e_aload_n dL_law_738 rfl ?_
      refine e_iload_n dL_law_739 rfl ?_
      refine e_iconst dL_law_740 ⟨by decide, by decide⟩ ?_
      refine e_iadd dL_law_741 ?_
      obtain ⟨g742, hf⟩ := gd_some hf
      refine e_sld dL_law_742 rfl g742 ?_
      refine e_aload_n dL_law_743 rfl ?_
      refine e_iload_n dL_law_744 rfl ?_
      refine e_iconst dL_law_745 ⟨by decide, by decide⟩ ?_
      refine e_iadd dL_law_746 ?_
      obtain ⟨g747, hf⟩ := gd_some hf
      refine e_sld dL_law_747 rfl g747 ?_
      refine e_aload_n dL_law_748 rfl ?_
      refine e_iload_n dL_law_749 rfl ?_
      refine e_iconst dL_law_750 ⟨by decide, by decide⟩ ?_
      refine e_iadd dL_law_751 ?_
      obtain ⟨g752, hf⟩ := gd_some hf
      refine e_sld dL_law_752 rfl g752 ?_
      refine e_if_eq (tgt := 760) dL_law_753 (by decide) (fun c753 => ?_) (fun c753 => ?_)
      · replace hf := ifp hf c753
        refine e_iconst dL_law_760 ⟨by decide, by decide⟩ ?_
        exact e_mask [true, true, true, true] (q_L_law_761 K18 h   L xs hL l3 ((xs (wr (l3 + 1)).toNat).toInt) ((xs (wr (l3 + 2)).toNat).toInt) 0 hK18 hf)
      · replace hf := ifn hf c753
        refine e_iconst dL_law_756 ⟨by decide, by decide⟩ ?_
        refine e_goto (tgt := 761) dL_law_757 (by decide) ?_
        exact e_mask [true, true, true, true] (q_L_law_761 K18 h   L xs hL l3 ((xs (wr (l3 + 1)).toNat).toInt) ((xs (wr (l3 + 2)).toNat).toInt) 1 hK18 hf)
    replace hf := ifn hf c32_21
    by_cases c32_22 : band ((xs (l3).toNat).toInt) 31 = 22
    · replace hf := ifp hf c32_22
      refine e_tswIn (off := 764) (tgt := 796) dL_law_32 (by omega) (by omega) (by rw [c32_22]; rfl) (by decide) ?_
      refine e_aload_n dL_law_796 rfl ?_
      obtain ⟨q797, e797, hf⟩ := bd_some hf
      refine e_callV0i dL_law_797 rfl lk_601 ⟨rfl, rfl, Nat.le_of_ble_eq_true rfl, Nat.le_of_ble_eq_true rfl⟩ rfl rfl (Nat.le_of_ble_eq_true rfl) (q_X8_unshine h    e797) ?_
      refine e_aload_n dL_law_800 rfl ?_
      obtain ⟨q801, e801, hf⟩ := bd_some hf
      refine e_callV0i dL_law_801 rfl lk_989 ⟨rfl, rfl, Nat.le_of_ble_eq_true rfl, Nat.le_of_ble_eq_true rfl⟩ rfl rfl (Nat.le_of_ble_eq_true rfl) (q_X9_unshine q797.2    e801) ?_
      refine e_icmp_eq (tgt := 1037) dL_law_804 (by decide) (fun c804 => ?_) (fun c804 => ?_)
      · replace hf := ifp hf c804
        exact e_mask [true, true, true, true] (q_L_law_1037 K18 q801.2   L xs hL l3 hK18 hf)
      · replace hf := ifn hf c804
        refine e_iconst dL_law_807 ⟨by decide, by decide⟩ ?_
        obtain rfl := Option.some.inj hf
        exact e_zreturn dL_law_808 rfl (by decide) ⟨rfl, rfl⟩
    replace hf := ifn hf c32_22
    by_cases c32_23 : band ((xs (l3).toNat).toInt) 31 = 23
    · replace hf := ifp hf c32_23
      refine e_tswIn (off := 777) (tgt := 809) dL_law_32 (by omega) (by omega) (by rw [c32_23]; rfl) (by decide) ?_
      refine e_aload_n dL_law_809 rfl ?_
      refine e_aload_n dL_law_810 rfl ?_
      refine e_iload_n dL_law_811 rfl ?_
      refine e_iconst dL_law_812 ⟨by decide, by decide⟩ ?_
      refine e_iadd dL_law_813 ?_
      obtain ⟨g814, hf⟩ := gd_some hf
      refine e_sld dL_law_814 rfl g814 ?_
      obtain ⟨r815, e815, hf⟩ := bd_some hf
      refine e_callV1i dL_law_815 rfl lk_609 ⟨rfl, rfl, Nat.le_of_ble_eq_true rfl, Nat.le_of_ble_eq_true rfl⟩ rfl rfl (Nat.le_of_ble_eq_true rfl) (q_X8_found h   ((xs (wr (l3 + 1)).toNat).toInt) e815) ?_
      refine e_aload_n dL_law_818 rfl ?_
      refine e_aload_n dL_law_819 rfl ?_
      refine e_iload_n dL_law_820 rfl ?_
      refine e_iconst dL_law_821 ⟨by decide, by decide⟩ ?_
      refine e_iadd dL_law_822 ?_
      obtain ⟨g823, hf⟩ := gd_some hf
      refine e_sld dL_law_823 rfl g823 ?_
      obtain ⟨q824, e824, hf⟩ := bd_some hf
      refine e_callV1i dL_law_824 rfl lk_993 ⟨rfl, rfl, Nat.le_of_ble_eq_true rfl, Nat.le_of_ble_eq_true rfl⟩ rfl rfl (Nat.le_of_ble_eq_true rfl) (q_X9_found h   ((xs (wr (l3 + 1)).toNat).toInt) e824) ?_
      refine e_icmp_eq (tgt := 1037) dL_law_827 (by decide) (fun c827 => ?_) (fun c827 => ?_)
      · replace hf := ifp hf c827
        exact e_mask [true, true, true, true] (q_L_law_1037 K18 q824.2   L xs hL l3 hK18 hf)
      · replace hf := ifn hf c827
        refine e_iconst dL_law_830 ⟨by decide, by decide⟩ ?_
        obtain rfl := Option.some.inj hf
        exact e_zreturn dL_law_831 rfl (by decide) ⟨rfl, rfl⟩
    replace hf := ifn hf c32_23
    by_cases c32_24 : band ((xs (l3).toNat).toInt) 31 = 24
    · replace hf := ifp hf c32_24
      refine e_tswIn (off := 800) (tgt := 832) dL_law_32 (by omega) (by omega) (by rw [c32_24]; rfl) (by decide) ?_
      refine e_aload_n dL_law_832 rfl ?_
      obtain ⟨r833, e833, hf⟩ := bd_some hf
      refine e_callV0i dL_law_833 rfl lk_634 ⟨rfl, rfl, Nat.le_of_ble_eq_true rfl, Nat.le_of_ble_eq_true rfl⟩ rfl rfl (Nat.le_of_ble_eq_true rfl) (q_X8_look h    e833) ?_
      refine e_aload_n dL_law_836 rfl ?_
      obtain ⟨q837, e837, hf⟩ := bd_some hf
      refine e_callV0i dL_law_837 rfl lk_1004 ⟨rfl, rfl, Nat.le_of_ble_eq_true rfl, Nat.le_of_ble_eq_true rfl⟩ rfl rfl (Nat.le_of_ble_eq_true rfl) (q_X9_look h    e837) ?_
      refine e_icmp_eq (tgt := 1037) dL_law_840 (by decide) (fun c840 => ?_) (fun c840 => ?_)
      · replace hf := ifp hf c840
        exact e_mask [true, true, true, true] (q_L_law_1037 K18 q837.2   L xs hL l3 hK18 hf)
      · replace hf := ifn hf c840
        refine e_iconst dL_law_843 ⟨by decide, by decide⟩ ?_
        obtain rfl := Option.some.inj hf
        exact e_zreturn dL_law_844 rfl (by decide) ⟨rfl, rfl⟩
    replace hf := ifn hf c32_24
    by_cases c32_25 : band ((xs (l3).toNat).toInt) 31 = 25
    · replace hf := ifp hf c32_25
      refine e_tswIn (off := 813) (tgt := 845) dL_law_32 (by omega) (by omega) (by rw [c32_25]; rfl) (by decide) ?_
      refine e_aload_n dL_law_845 rfl ?_
      refine e_aload_n dL_law_846 rfl ?_
      refine e_iload_n dL_law_847 rfl ?_
      refine e_iconst dL_law_848 ⟨by decide, by decide⟩ ?_
      refine e_iadd dL_law_849 ?_
      obtain ⟨g850, hf⟩ := gd_some hf
      refine e_sld dL_law_850 rfl g850 ?_
      refine e_aload_n dL_law_851 rfl ?_
      refine e_iload_n dL_law_852 rfl ?_
      refine e_iconst dL_law_853 ⟨by decide, by decide⟩ ?_
      refine e_iadd dL_law_854 ?_
      obtain ⟨g855, hf⟩ := gd_some hf
      refine e_sld dL_law_855 rfl g855 ?_
      refine e_aload_n dL_law_856 rfl ?_
      refine e_iload_n dL_law_857 rfl ?_
      refine e_iconst dL_law_858 ⟨by decide, by decide⟩ ?_
      refine e_iadd dL_law_859 ?_
      obtain ⟨g860, hf⟩ := gd_some hf
      refine e_sld dL_law_860 rfl g860 ?_
      refine e_aload_n dL_law_861 rfl ?_
      refine e_iload_n dL_law_862 rfl ?_
      refine e_iconst dL_law_863 ⟨by decide, by decide⟩ ?_
      refine e_iadd dL_law_864 ?_
      obtain ⟨g865, hf⟩ := gd_some hf
      refine e_sld dL_law_865 rfl g865 ?_
      refine e_if_eq (tgt := 873) dL_law_866 (by decide) (fun c866 => ?_) (fun c866 => ?_)
      · replace hf := ifp hf c866
        refine e_iconst dL_law_873 ⟨by decide, by decide⟩ ?_
        exact e_mask [true, true, true, true] (q_L_law_874 K18 h   L xs hL l3 ((xs (wr (l3 + 1)).toNat).toInt) ((xs (wr (l3 + 2)).toNat).toInt) ((xs (wr (l3 + 3)).toNat).toInt) 0 hK18 hf)
      · replace hf := ifn hf c866
        refine e_iconst dL_law_869 ⟨by decide, by decide⟩ ?_
        refine e_goto (tgt := 874) dL_law_870 (by decide) ?_
        exact e_mask [true, true, true, true] (q_L_law_874 K18 h   L xs hL l3 ((xs (wr (l3 + 1)).toNat).toInt) ((xs (wr (l3 + 2)).toNat).toInt) ((xs (wr (l3 + 3)).toNat).toInt) 1 hK18 hf)
    replace hf := ifn hf c32_25
    by_cases c32_26 : band ((xs (l3).toNat).toInt) 31 = 26
    · replace hf := ifp hf c32_26
      refine e_tswIn (off := 882) (tgt := 914) dL_law_32 (by omega) (by omega) (by rw [c32_26]; rfl) (by decide) ?_
      refine e_aload_n dL_law_914 rfl ?_
      refine e_aload_n dL_law_915 rfl ?_
      refine e_iload_n dL_law_916 rfl ?_
      refine e_iconst dL_law_917 ⟨by decide, by decide⟩ ?_
      refine e_iadd dL_law_918 ?_
      obtain ⟨g919, hf⟩ := gd_some hf
      refine e_sld dL_law_919 rfl g919 ?_
      refine e_i2l dL_law_920 ?_
      refine e_bipush dL_law_921 ⟨by decide, by decide, by decide⟩ ?_
      refine e_lshl dL_law_923 ?_
      refine e_aload_n dL_law_924 rfl ?_
      refine e_iload_n dL_law_925 rfl ?_
      refine e_iconst dL_law_926 ⟨by decide, by decide⟩ ?_
      refine e_iadd dL_law_927 ?_
      obtain ⟨g928, hf⟩ := gd_some hf
      refine e_sld dL_law_928 rfl g928 ?_
      refine e_i2l dL_law_929 ?_
      refine e_ldc2 (a := 4294967295) dL_law_930 rfl tw_1032 ⟨by decide, by decide⟩ ?_
      refine e_land dL_law_933 ?_
      refine e_lor dL_law_934 ?_
      obtain ⟨q935, e935, hf⟩ := bd_some hf
      refine e_callV1l dL_law_935 rfl lk_652 ⟨rfl, rfl, Nat.le_of_ble_eq_true rfl, Nat.le_of_ble_eq_true rfl⟩ rfl rfl (Nat.le_of_ble_eq_true rfl) (q_X8_seed h   (lor64 (lshl64 ((xs (wr (l3 + 1)).toNat).toInt) 32) (land64 ((xs (wr (l3 + 2)).toNat).toInt) 4294967295)) e935) ?_
      refine e_aload_n dL_law_938 rfl ?_
      refine e_aload_n dL_law_939 rfl ?_
      refine e_iload_n dL_law_940 rfl ?_
      refine e_iconst dL_law_941 ⟨by decide, by decide⟩ ?_
      refine e_iadd dL_law_942 ?_
      obtain ⟨g943, hf⟩ := gd_some hf
      refine e_sld dL_law_943 rfl g943 ?_
      refine e_i2l dL_law_944 ?_
      refine e_bipush dL_law_945 ⟨by decide, by decide, by decide⟩ ?_
      refine e_lshl dL_law_947 ?_
      refine e_aload_n dL_law_948 rfl ?_
      refine e_iload_n dL_law_949 rfl ?_
      refine e_iconst dL_law_950 ⟨by decide, by decide⟩ ?_
      refine e_iadd dL_law_951 ?_
      obtain ⟨g952, hf⟩ := gd_some hf
      refine e_sld dL_law_952 rfl g952 ?_
      refine e_i2l dL_law_953 ?_
      refine e_ldc2 (a := 4294967295) dL_law_954 rfl tw_1032 ⟨by decide, by decide⟩ ?_
      refine e_land dL_law_957 ?_
      refine e_lor dL_law_958 ?_
      obtain ⟨q959, e959, hf⟩ := bd_some hf
      refine e_callV1l dL_law_959 rfl lk_1013 ⟨rfl, rfl, Nat.le_of_ble_eq_true rfl, Nat.le_of_ble_eq_true rfl⟩ rfl rfl (Nat.le_of_ble_eq_true rfl) (q_X9_seed q935.2   (lor64 (lshl64 ((xs (wr (l3 + 1)).toNat).toInt) 32) (land64 ((xs (wr (l3 + 2)).toNat).toInt) 4294967295)) e959) ?_
      refine e_lcmp dL_law_962 ?_
      refine e_if_eq (tgt := 1037) dL_law_963 (by decide) (fun c963 => ?_) (fun c963 => ?_)
      · replace hf := ifp hf c963
        exact e_mask [true, true, true, true] (q_L_law_1037 K18 q959.2   L xs hL l3 hK18 hf)
      · replace hf := ifn hf c963
        refine e_iconst dL_law_966 ⟨by decide, by decide⟩ ?_
        obtain rfl := Option.some.inj hf
        exact e_zreturn dL_law_967 rfl (by decide) ⟨rfl, rfl⟩
    replace hf := ifn hf c32_26
    by_cases c32_27 : band ((xs (l3).toNat).toInt) 31 = 27
    · replace hf := ifp hf c32_27
      refine e_tswIn (off := 936) (tgt := 968) dL_law_32 (by omega) (by omega) (by rw [c32_27]; rfl) (by decide) ?_
      refine e_aload_n dL_law_968 rfl ?_
      refine e_aload_n dL_law_969 rfl ?_
      refine e_iload_n dL_law_970 rfl ?_
      refine e_iconst dL_law_971 ⟨by decide, by decide⟩ ?_
      refine e_iadd dL_law_972 ?_
      obtain ⟨g973, hf⟩ := gd_some hf
      refine e_sld dL_law_973 rfl g973 ?_
      obtain ⟨q974, e974, hf⟩ := bd_some hf
      refine e_callV1i dL_law_974 rfl lk_656 ⟨rfl, rfl, Nat.le_of_ble_eq_true rfl, Nat.le_of_ble_eq_true rfl⟩ rfl rfl (Nat.le_of_ble_eq_true rfl) (q_X8_nights h   ((xs (wr (l3 + 1)).toNat).toInt) e974) ?_
      refine e_aload_n dL_law_977 rfl ?_
      refine e_aload_n dL_law_978 rfl ?_
      refine e_iload_n dL_law_979 rfl ?_
      refine e_iconst dL_law_980 ⟨by decide, by decide⟩ ?_
      refine e_iadd dL_law_981 ?_
      obtain ⟨g982, hf⟩ := gd_some hf
      refine e_sld dL_law_982 rfl g982 ?_
      obtain ⟨q983, e983, hf⟩ := bd_some hf
      refine e_callV1i dL_law_983 rfl lk_1017 ⟨rfl, rfl, Nat.le_of_ble_eq_true rfl, Nat.le_of_ble_eq_true rfl⟩ rfl rfl (Nat.le_of_ble_eq_true rfl) (q_X9_nights q974.2   ((xs (wr (l3 + 1)).toNat).toInt) e983) ?_
      refine e_icmp_eq (tgt := 1037) dL_law_986 (by decide) (fun c986 => ?_) (fun c986 => ?_)
      · replace hf := ifp hf c986
        exact e_mask [true, true, true, true] (q_L_law_1037 K18 q983.2   L xs hL l3 hK18 hf)
      · replace hf := ifn hf c986
        refine e_iconst dL_law_989 ⟨by decide, by decide⟩ ?_
        obtain rfl := Option.some.inj hf
        exact e_zreturn dL_law_990 rfl (by decide) ⟨rfl, rfl⟩
    replace hf := ifn hf c32_27
    by_cases c32_28 : band ((xs (l3).toNat).toInt) 31 = 28
    · replace hf := ifp hf c32_28
      refine e_tswIn (off := 959) (tgt := 991) dL_law_32 (by omega) (by omega) (by rw [c32_28]; rfl) (by decide) ?_
      refine e_aload_n dL_law_991 rfl ?_
      refine e_aload_n dL_law_992 rfl ?_
      refine e_iload_n dL_law_993 rfl ?_
      refine e_iconst dL_law_994 ⟨by decide, by decide⟩ ?_
      refine e_iadd dL_law_995 ?_
      obtain ⟨g996, hf⟩ := gd_some hf
      refine e_sld dL_law_996 rfl g996 ?_
      obtain ⟨q997, e997, hf⟩ := bd_some hf
      refine e_callV1i dL_law_997 rfl lk_664 ⟨rfl, rfl, Nat.le_of_ble_eq_true rfl, Nat.le_of_ble_eq_true rfl⟩ rfl rfl (Nat.le_of_ble_eq_true rfl) (q_X8_keep h   ((xs (wr (l3 + 1)).toNat).toInt) e997) ?_
      refine e_aload_n dL_law_1000 rfl ?_
      refine e_aload_n dL_law_1001 rfl ?_
      refine e_iload_n dL_law_1002 rfl ?_
      refine e_iconst dL_law_1003 ⟨by decide, by decide⟩ ?_
      refine e_iadd dL_law_1004 ?_
      obtain ⟨g1005, hf⟩ := gd_some hf
      refine e_sld dL_law_1005 rfl g1005 ?_
      obtain ⟨q1006, e1006, hf⟩ := bd_some hf
      refine e_callV1i dL_law_1006 rfl lk_1024 ⟨rfl, rfl, Nat.le_of_ble_eq_true rfl, Nat.le_of_ble_eq_true rfl⟩ rfl rfl (Nat.le_of_ble_eq_true rfl) (q_X9_keep q997.2   ((xs (wr (l3 + 1)).toNat).toInt) e1006) ?_
      refine e_icmp_eq (tgt := 1037) dL_law_1009 (by decide) (fun c1009 => ?_) (fun c1009 => ?_)
      · replace hf := ifp hf c1009
        exact e_mask [true, true, true, true] (q_L_law_1037 K18 q1006.2   L xs hL l3 hK18 hf)
      · replace hf := ifn hf c1009
        refine e_iconst dL_law_1012 ⟨by decide, by decide⟩ ?_
        obtain rfl := Option.some.inj hf
        exact e_zreturn dL_law_1013 rfl (by decide) ⟨rfl, rfl⟩
    replace hf := ifn hf c32_28
    by_cases c32_29 : band ((xs (l3).toNat).toInt) 31 = 29
    · replace hf := ifp hf c32_29
      refine e_tswIn (off := 982) (tgt := 1014) dL_law_32 (by omega) (by omega) (by rw [c32_29]; rfl) (by decide) ?_
      refine e_aload_n dL_law_1014 rfl ?_
      refine e_aload_n dL_law_1015 rfl ?_
      refine e_iload_n dL_law_1016 rfl ?_
      refine e_iconst dL_law_1017 ⟨by decide, by decide⟩ ?_
      refine e_iadd dL_law_1018 ?_
      obtain ⟨g1019, hf⟩ := gd_some hf
      refine e_sld dL_law_1019 rfl g1019 ?_
      obtain ⟨q1020, e1020, hf⟩ := bd_some hf
      refine e_callV1i dL_law_1020 rfl lk_672 ⟨rfl, rfl, Nat.le_of_ble_eq_true rfl, Nat.le_of_ble_eq_true rfl⟩ rfl rfl (Nat.le_of_ble_eq_true rfl) (q_X8_again h   ((xs (wr (l3 + 1)).toNat).toInt) e1020) ?_
      refine e_aload_n dL_law_1023 rfl ?_
      refine e_aload_n dL_law_1024 rfl ?_
      refine e_iload_n dL_law_1025 rfl ?_
      refine e_iconst dL_law_1026 ⟨by decide, by decide⟩ ?_
      refine e_iadd dL_law_1027 ?_
      obtain ⟨g1028, hf⟩ := gd_some hf
      refine e_sld dL_law_1028 rfl g1028 ?_
      obtain ⟨q1029, e1029, hf⟩ := bd_some hf
      refine e_callV1i dL_law_1029 rfl lk_1028 ⟨rfl, rfl, Nat.le_of_ble_eq_true rfl, Nat.le_of_ble_eq_true rfl⟩ rfl rfl (Nat.le_of_ble_eq_true rfl) (q_X9_again q1020.2   ((xs (wr (l3 + 1)).toNat).toInt) e1029) ?_
      refine e_icmp_eq (tgt := 1037) dL_law_1032 (by decide) (fun c1032 => ?_) (fun c1032 => ?_)
      · replace hf := ifp hf c1032
        exact e_mask [true, true, true, true] (q_L_law_1037 K18 q1029.2   L xs hL l3 hK18 hf)
      · replace hf := ifn hf c1032
        refine e_iconst dL_law_1035 ⟨by decide, by decide⟩ ?_
        obtain rfl := Option.some.inj hf
        exact e_zreturn dL_law_1036 rfl (by decide) ⟨rfl, rfl⟩
    replace hf := ifn hf c32_29
    refine e_tswOut (tgt := 1037) dL_law_32 (by omega) (by decide) ?_
    exact e_mask [true, true, true, true] (q_L_law_1037 K18 h   L xs hL l3 hK18 hf)
def p_L_law_L18    (L : Nat) (xs : Nat → Int32) : Nat → Mem → Int → Option (Int × Mem)
  | 0, _, _ => none
  | n + 1, h, l3 => p_L_law_18 (fun (h : Mem) (l3 : Int) => p_L_law_L18    L xs n h l3) h  L xs l3
theorem q_L_law_L18     (L : Nat) (xs : Nat → Int32) (hL : L < 2147483648) {X : Int × Mem}  : ∀ (n : Nat) (h : Mem) (l3 : Int), p_L_law_L18    L xs n h l3 = some X → E m_L_law (some (L, xs)) (fun r h' => r = some (vi X.1) ∧ h' = X.2) 18 [some (vr 64), some (vr 0), some (vr 45), some (vi l3)] [] h := by
  intro n
  induction n with
  | zero => intro h l3 hf; have hf2 : (none : Option (Int × Mem)) = some X := hf; cases hf2
  | succ n ih => intro h l3 hf; exact q_L_law_18 (fun (h : Mem) (l3 : Int) => p_L_law_L18    L xs n h l3) h   L xs hL l3 (fun h l3 hf => ih h l3 hf) hf
