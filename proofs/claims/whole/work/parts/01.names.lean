/-- a private method of a class that the tables say can be made, by its rows of tables_1 -/
def lw_okq (q : MethodName × Nat) : Prop := (q.1.cls ≠ "java/lang/invoke/MethodHandle" ∧ q.1.cls ≠ "java/lang/invoke/VarHandle") ∧ Cond.instantiable q.1.cls q.2 ∈ tables_1 ∧ Cond.privateMethod q.1 ∈ tables_1 ∧ Cond.instanceMethod q.1 ∈ tables_1
theorem lw_p0 : lw_okq (⟨"StarRight$Text", "byteAt", "(I)I"⟩, 2) := ⟨⟨by decide +kernel, by decide +kernel⟩, List.mem_of_getElem? (i := 24) (by decide +kernel), List.mem_of_getElem? (i := 261) (by decide +kernel), List.mem_of_getElem? (i := 262) (by decide +kernel)⟩
theorem lw_p1 : lw_okq (⟨"StarRight$Text", "hasDigit", "(III)Z"⟩, 2) := ⟨⟨by decide +kernel, by decide +kernel⟩, List.mem_of_getElem? (i := 24) (by decide +kernel), List.mem_of_getElem? (i := 265) (by decide +kernel), List.mem_of_getElem? (i := 266) (by decide +kernel)⟩
theorem lw_p2 : lw_okq (⟨"StarRight$Text", "digitAt", "(I)I"⟩, 2) := ⟨⟨by decide +kernel, by decide +kernel⟩, List.mem_of_getElem? (i := 24) (by decide +kernel), List.mem_of_getElem? (i := 269) (by decide +kernel), List.mem_of_getElem? (i := 270) (by decide +kernel)⟩
theorem lw_p3 : lw_okq (⟨"StarRight$Text", "faultInRoof", "(II)I"⟩, 2) := ⟨⟨by decide +kernel, by decide +kernel⟩, List.mem_of_getElem? (i := 24) (by decide +kernel), List.mem_of_getElem? (i := 273) (by decide +kernel), List.mem_of_getElem? (i := 274) (by decide +kernel)⟩
theorem lw_p4 : lw_okq (⟨"StarRight$Text", "faultInStar", "(I)I"⟩, 2) := ⟨⟨by decide +kernel, by decide +kernel⟩, List.mem_of_getElem? (i := 24) (by decide +kernel), List.mem_of_getElem? (i := 277) (by decide +kernel), List.mem_of_getElem? (i := 278) (by decide +kernel)⟩
theorem lw_p5 : lw_okq (⟨"StarRight$Town", "isShaded", "(II)Z"⟩, 8) := ⟨⟨by decide +kernel, by decide +kernel⟩, List.mem_of_getElem? (i := 62) (by decide +kernel), List.mem_of_getElem? (i := 325) (by decide +kernel), List.mem_of_getElem? (i := 326) (by decide +kernel)⟩
theorem lw_p6 : lw_okq (⟨"StarRight$Town", "distance", "(II)I"⟩, 8) := ⟨⟨by decide +kernel, by decide +kernel⟩, List.mem_of_getElem? (i := 62) (by decide +kernel), List.mem_of_getElem? (i := 333) (by decide +kernel), List.mem_of_getElem? (i := 334) (by decide +kernel)⟩
theorem lw_p7 : lw_okq (⟨"StarRight", "surveyTown", "()V"⟩, 13) := ⟨⟨by decide +kernel, by decide +kernel⟩, List.mem_of_getElem? (i := 16) (by decide +kernel), List.mem_of_getElem? (i := 350) (by decide +kernel), List.mem_of_getElem? (i := 351) (by decide +kernel)⟩
theorem lw_p8 : lw_okq (⟨"StarRight$Sight", "holderByLaw", "(LStarRight$Town;II)I"⟩, 3) := ⟨⟨by decide +kernel, by decide +kernel⟩, List.mem_of_getElem? (i := 119) (by decide +kernel), List.mem_of_getElem? (i := 363) (by decide +kernel), List.mem_of_getElem? (i := 364) (by decide +kernel)⟩
theorem lw_p9 : lw_okq (⟨"StarRight", "starsHeldNow", "(I)I"⟩, 13) := ⟨⟨by decide +kernel, by decide +kernel⟩, List.mem_of_getElem? (i := 16) (by decide +kernel), List.mem_of_getElem? (i := 371) (by decide +kernel), List.mem_of_getElem? (i := 372) (by decide +kernel)⟩
theorem lw_p10 : lw_okq (⟨"StarRight$Sight", "payTo", "(II)I"⟩, 3) := ⟨⟨by decide +kernel, by decide +kernel⟩, List.mem_of_getElem? (i := 119) (by decide +kernel), List.mem_of_getElem? (i := 405) (by decide +kernel), List.mem_of_getElem? (i := 406) (by decide +kernel)⟩
theorem lw_p11 : lw_okq (⟨"StarRight$Acts", "forgetFirst", "()V"⟩, 4) := ⟨⟨by decide +kernel, by decide +kernel⟩, List.mem_of_getElem? (i := 135) (by decide +kernel), List.mem_of_getElem? (i := 431) (by decide +kernel), List.mem_of_getElem? (i := 432) (by decide +kernel)⟩
theorem lw_p12 : lw_okq (⟨"StarRight", "payPurses", "(I)I"⟩, 13) := ⟨⟨by decide +kernel, by decide +kernel⟩, List.mem_of_getElem? (i := 16) (by decide +kernel), List.mem_of_getElem? (i := 458) (by decide +kernel), List.mem_of_getElem? (i := 459) (by decide +kernel)⟩
theorem lw_p13 : lw_okq (⟨"StarRight", "gainOfFires", "(II)I"⟩, 13) := ⟨⟨by decide +kernel, by decide +kernel⟩, List.mem_of_getElem? (i := 16) (by decide +kernel), List.mem_of_getElem? (i := 517) (by decide +kernel), List.mem_of_getElem? (i := 518) (by decide +kernel)⟩
theorem lw_p14 : lw_okq (⟨"StarRight", "gainInAllOrders", "(I)I"⟩, 13) := ⟨⟨by decide +kernel, by decide +kernel⟩, List.mem_of_getElem? (i := 16) (by decide +kernel), List.mem_of_getElem? (i := 525) (by decide +kernel), List.mem_of_getElem? (i := 526) (by decide +kernel)⟩
theorem lw_p15 : lw_okq (⟨"StarRight", "rentsByLaw", "(III)I"⟩, 13) := ⟨⟨by decide +kernel, by decide +kernel⟩, List.mem_of_getElem? (i := 16) (by decide +kernel), List.mem_of_getElem? (i := 545) (by decide +kernel), List.mem_of_getElem? (i := 546) (by decide +kernel)⟩
def lw_privs_1 : List (MethodName × Nat) := [(⟨"StarRight$Text", "byteAt", "(I)I"⟩, 2), (⟨"StarRight$Text", "hasDigit", "(III)Z"⟩, 2), (⟨"StarRight$Text", "digitAt", "(I)I"⟩, 2), (⟨"StarRight$Text", "faultInRoof", "(II)I"⟩, 2), (⟨"StarRight$Text", "faultInStar", "(I)I"⟩, 2), (⟨"StarRight$Town", "isShaded", "(II)Z"⟩, 8), (⟨"StarRight$Town", "distance", "(II)I"⟩, 8), (⟨"StarRight", "surveyTown", "()V"⟩, 13), (⟨"StarRight$Sight", "holderByLaw", "(LStarRight$Town;II)I"⟩, 3), (⟨"StarRight", "starsHeldNow", "(I)I"⟩, 13), (⟨"StarRight$Sight", "payTo", "(II)I"⟩, 3), (⟨"StarRight$Acts", "forgetFirst", "()V"⟩, 4), (⟨"StarRight", "payPurses", "(I)I"⟩, 13), (⟨"StarRight", "gainOfFires", "(II)I"⟩, 13), (⟨"StarRight", "gainInAllOrders", "(I)I"⟩, 13), (⟨"StarRight", "rentsByLaw", "(III)I"⟩, 13)]
theorem lw_r1 : ∀ q ∈ lw_privs_1, lw_okq q := List.forall_mem_cons.mpr ⟨lw_p0, List.forall_mem_cons.mpr ⟨lw_p1, List.forall_mem_cons.mpr ⟨lw_p2, List.forall_mem_cons.mpr ⟨lw_p3, List.forall_mem_cons.mpr ⟨lw_p4, List.forall_mem_cons.mpr ⟨lw_p5, List.forall_mem_cons.mpr ⟨lw_p6, List.forall_mem_cons.mpr ⟨lw_p7, List.forall_mem_cons.mpr ⟨lw_p8, List.forall_mem_cons.mpr ⟨lw_p9, List.forall_mem_cons.mpr ⟨lw_p10, List.forall_mem_cons.mpr ⟨lw_p11, List.forall_mem_cons.mpr ⟨lw_p12, List.forall_mem_cons.mpr ⟨lw_p13, List.forall_mem_cons.mpr ⟨lw_p14, List.forall_mem_cons.mpr ⟨lw_p15, fun _ h => absurd h List.not_mem_nil⟩⟩⟩⟩⟩⟩⟩⟩⟩⟩⟩⟩⟩⟩⟩⟩
theorem lw_p16 : lw_okq (⟨"StarRight", "tryHeights", "(IIII)V"⟩, 13) := ⟨⟨by decide +kernel, by decide +kernel⟩, List.mem_of_getElem? (i := 16) (by decide +kernel), List.mem_of_getElem? (i := 561) (by decide +kernel), List.mem_of_getElem? (i := 562) (by decide +kernel)⟩
theorem lw_p17 : lw_okq (⟨"StarRight$Contest", "isAtRest", "(I)Z"⟩, 2) := ⟨⟨by decide +kernel, by decide +kernel⟩, List.mem_of_getElem? (i := 179) (by decide +kernel), List.mem_of_getElem? (i := 579) (by decide +kernel), List.mem_of_getElem? (i := 580) (by decide +kernel)⟩
theorem lw_p18 : lw_okq (⟨"StarRight$Watch", "fits", "(I)Z"⟩, 4) := ⟨⟨by decide +kernel, by decide +kernel⟩, List.mem_of_getElem? (i := 158) (by decide +kernel), List.mem_of_getElem? (i := 618) (by decide +kernel), List.mem_of_getElem? (i := 619) (by decide +kernel)⟩
theorem lw_p19 : lw_okq (⟨"StarRight", "slotOf", "(I)LStarRight$Slot;"⟩, 13) := ⟨⟨by decide +kernel, by decide +kernel⟩, List.mem_of_getElem? (i := 16) (by decide +kernel), List.mem_of_getElem? (i := 669) (by decide +kernel), List.mem_of_getElem? (i := 670) (by decide +kernel)⟩
theorem lw_p20 : lw_okq (⟨"StarRightModel", "readNight", "()I"⟩, 37) := ⟨⟨by decide +kernel, by decide +kernel⟩, List.mem_of_getElem? (i := 677) (by decide +kernel), List.mem_of_getElem? (i := 811) (by decide +kernel), List.mem_of_getElem? (i := 812) (by decide +kernel)⟩
theorem lw_p21 : lw_okq (⟨"StarRightModel", "figure", "(II)I"⟩, 37) := ⟨⟨by decide +kernel, by decide +kernel⟩, List.mem_of_getElem? (i := 677) (by decide +kernel), List.mem_of_getElem? (i := 815) (by decide +kernel), List.mem_of_getElem? (i := 816) (by decide +kernel)⟩
theorem lw_p22 : lw_okq (⟨"StarRightModel", "readPart", "()Z"⟩, 37) := ⟨⟨by decide +kernel, by decide +kernel⟩, List.mem_of_getElem? (i := 677) (by decide +kernel), List.mem_of_getElem? (i := 819) (by decide +kernel), List.mem_of_getElem? (i := 820) (by decide +kernel)⟩
theorem lw_p23 : lw_okq (⟨"StarRightModel", "readRoof", "()Z"⟩, 37) := ⟨⟨by decide +kernel, by decide +kernel⟩, List.mem_of_getElem? (i := 677) (by decide +kernel), List.mem_of_getElem? (i := 823) (by decide +kernel), List.mem_of_getElem? (i := 824) (by decide +kernel)⟩
theorem lw_p24 : lw_okq (⟨"StarRightModel", "isTaken", "(I)Z"⟩, 37) := ⟨⟨by decide +kernel, by decide +kernel⟩, List.mem_of_getElem? (i := 677) (by decide +kernel), List.mem_of_getElem? (i := 827) (by decide +kernel), List.mem_of_getElem? (i := 828) (by decide +kernel)⟩
theorem lw_p25 : lw_okq (⟨"StarRightModel", "readStar", "()Z"⟩, 37) := ⟨⟨by decide +kernel, by decide +kernel⟩, List.mem_of_getElem? (i := 677) (by decide +kernel), List.mem_of_getElem? (i := 831) (by decide +kernel), List.mem_of_getElem? (i := 832) (by decide +kernel)⟩
theorem lw_p26 : lw_okq (⟨"StarRightModel", "all", "()I"⟩, 37) := ⟨⟨by decide +kernel, by decide +kernel⟩, List.mem_of_getElem? (i := 677) (by decide +kernel), List.mem_of_getElem? (i := 843) (by decide +kernel), List.mem_of_getElem? (i := 844) (by decide +kernel)⟩
theorem lw_p27 : lw_okq (⟨"StarRightModel", "isShaded", "([III)Z"⟩, 37) := ⟨⟨by decide +kernel, by decide +kernel⟩, List.mem_of_getElem? (i := 677) (by decide +kernel), List.mem_of_getElem? (i := 847) (by decide +kernel), List.mem_of_getElem? (i := 848) (by decide +kernel)⟩
theorem lw_p28 : lw_okq (⟨"StarRightModel", "noRoof", "(I)Z"⟩, 37) := ⟨⟨by decide +kernel, by decide +kernel⟩, List.mem_of_getElem? (i := 677) (by decide +kernel), List.mem_of_getElem? (i := 861) (by decide +kernel), List.mem_of_getElem? (i := 862) (by decide +kernel)⟩
theorem lw_p29 : lw_okq (⟨"StarRightModel", "doesSee", "([IIII)Z"⟩, 37) := ⟨⟨by decide +kernel, by decide +kernel⟩, List.mem_of_getElem? (i := 677) (by decide +kernel), List.mem_of_getElem? (i := 865) (by decide +kernel), List.mem_of_getElem? (i := 866) (by decide +kernel)⟩
theorem lw_p30 : lw_okq (⟨"StarRightModel", "holder", "([IIIII)I"⟩, 37) := ⟨⟨by decide +kernel, by decide +kernel⟩, List.mem_of_getElem? (i := 677) (by decide +kernel), List.mem_of_getElem? (i := 869) (by decide +kernel), List.mem_of_getElem? (i := 870) (by decide +kernel)⟩
theorem lw_p31 : lw_okq (⟨"StarRightModel", "over", "(II)I"⟩, 37) := ⟨⟨by decide +kernel, by decide +kernel⟩, List.mem_of_getElem? (i := 677) (by decide +kernel), List.mem_of_getElem? (i := 873) (by decide +kernel), List.mem_of_getElem? (i := 874) (by decide +kernel)⟩
def lw_privs_2 : List (MethodName × Nat) := [(⟨"StarRight", "tryHeights", "(IIII)V"⟩, 13), (⟨"StarRight$Contest", "isAtRest", "(I)Z"⟩, 2), (⟨"StarRight$Watch", "fits", "(I)Z"⟩, 4), (⟨"StarRight", "slotOf", "(I)LStarRight$Slot;"⟩, 13), (⟨"StarRightModel", "readNight", "()I"⟩, 37), (⟨"StarRightModel", "figure", "(II)I"⟩, 37), (⟨"StarRightModel", "readPart", "()Z"⟩, 37), (⟨"StarRightModel", "readRoof", "()Z"⟩, 37), (⟨"StarRightModel", "isTaken", "(I)Z"⟩, 37), (⟨"StarRightModel", "readStar", "()Z"⟩, 37), (⟨"StarRightModel", "all", "()I"⟩, 37), (⟨"StarRightModel", "isShaded", "([III)Z"⟩, 37), (⟨"StarRightModel", "noRoof", "(I)Z"⟩, 37), (⟨"StarRightModel", "doesSee", "([IIII)Z"⟩, 37), (⟨"StarRightModel", "holder", "([IIIII)I"⟩, 37), (⟨"StarRightModel", "over", "(II)I"⟩, 37)]
theorem lw_r2 : ∀ q ∈ lw_privs_2, lw_okq q := List.forall_mem_cons.mpr ⟨lw_p16, List.forall_mem_cons.mpr ⟨lw_p17, List.forall_mem_cons.mpr ⟨lw_p18, List.forall_mem_cons.mpr ⟨lw_p19, List.forall_mem_cons.mpr ⟨lw_p20, List.forall_mem_cons.mpr ⟨lw_p21, List.forall_mem_cons.mpr ⟨lw_p22, List.forall_mem_cons.mpr ⟨lw_p23, List.forall_mem_cons.mpr ⟨lw_p24, List.forall_mem_cons.mpr ⟨lw_p25, List.forall_mem_cons.mpr ⟨lw_p26, List.forall_mem_cons.mpr ⟨lw_p27, List.forall_mem_cons.mpr ⟨lw_p28, List.forall_mem_cons.mpr ⟨lw_p29, List.forall_mem_cons.mpr ⟨lw_p30, List.forall_mem_cons.mpr ⟨lw_p31, fun _ h => absurd h List.not_mem_nil⟩⟩⟩⟩⟩⟩⟩⟩⟩⟩⟩⟩⟩⟩⟩⟩
theorem lw_p32 : lw_okq (⟨"StarRightModel", "noStar", "(I)Z"⟩, 37) := ⟨⟨by decide +kernel, by decide +kernel⟩, List.mem_of_getElem? (i := 677) (by decide +kernel), List.mem_of_getElem? (i := 881) (by decide +kernel), List.mem_of_getElem? (i := 882) (by decide +kernel)⟩
theorem lw_p33 : lw_okq (⟨"StarRightModel", "pays", "(IIII)I"⟩, 37) := ⟨⟨by decide +kernel, by decide +kernel⟩, List.mem_of_getElem? (i := 677) (by decide +kernel), List.mem_of_getElem? (i := 885) (by decide +kernel), List.mem_of_getElem? (i := 886) (by decide +kernel)⟩
theorem lw_p34 : lw_okq (⟨"StarRightModel", "note", "()V"⟩, 37) := ⟨⟨by decide +kernel, by decide +kernel⟩, List.mem_of_getElem? (i := 677) (by decide +kernel), List.mem_of_getElem? (i := 899) (by decide +kernel), List.mem_of_getElem? (i := 900) (by decide +kernel)⟩
theorem lw_p35 : lw_okq (⟨"StarRightModel", "rentsOf", "([IIIIII)I"⟩, 37) := ⟨⟨by decide +kernel, by decide +kernel⟩, List.mem_of_getElem? (i := 677) (by decide +kernel), List.mem_of_getElem? (i := 919) (by decide +kernel), List.mem_of_getElem? (i := 920) (by decide +kernel)⟩
theorem lw_p36 : lw_okq (⟨"StarRightModel", "findFires", "(I)V"⟩, 37) := ⟨⟨by decide +kernel, by decide +kernel⟩, List.mem_of_getElem? (i := 677) (by decide +kernel), List.mem_of_getElem? (i := 945) (by decide +kernel), List.mem_of_getElem? (i := 946) (by decide +kernel)⟩
theorem lw_p37 : lw_okq (⟨"StarRightModel", "begin", "()V"⟩, 37) := ⟨⟨by decide +kernel, by decide +kernel⟩, List.mem_of_getElem? (i := 677) (by decide +kernel), List.mem_of_getElem? (i := 949) (by decide +kernel), List.mem_of_getElem? (i := 950) (by decide +kernel)⟩
theorem lw_p38 : lw_okq (⟨"StarRightModel", "doesRest", "(IIIII)Z"⟩, 37) := ⟨⟨by decide +kernel, by decide +kernel⟩, List.mem_of_getElem? (i := 677) (by decide +kernel), List.mem_of_getElem? (i := 978) (by decide +kernel), List.mem_of_getElem? (i := 979) (by decide +kernel)⟩
theorem lw_p39 : lw_okq (⟨"StarRightModel", "layRest", "(IIIII)V"⟩, 37) := ⟨⟨by decide +kernel, by decide +kernel⟩, List.mem_of_getElem? (i := 677) (by decide +kernel), List.mem_of_getElem? (i := 982) (by decide +kernel), List.mem_of_getElem? (i := 983) (by decide +kernel)⟩
theorem lw_p40 : lw_okq (⟨"StarRightModel", "find", "()V"⟩, 37) := ⟨⟨by decide +kernel, by decide +kernel⟩, List.mem_of_getElem? (i := 677) (by decide +kernel), List.mem_of_getElem? (i := 998) (by decide +kernel), List.mem_of_getElem? (i := 999) (by decide +kernel)⟩
def lw_privs_3 : List (MethodName × Nat) := [(⟨"StarRightModel", "noStar", "(I)Z"⟩, 37), (⟨"StarRightModel", "pays", "(IIII)I"⟩, 37), (⟨"StarRightModel", "note", "()V"⟩, 37), (⟨"StarRightModel", "rentsOf", "([IIIIII)I"⟩, 37), (⟨"StarRightModel", "findFires", "(I)V"⟩, 37), (⟨"StarRightModel", "begin", "()V"⟩, 37), (⟨"StarRightModel", "doesRest", "(IIIII)Z"⟩, 37), (⟨"StarRightModel", "layRest", "(IIIII)V"⟩, 37), (⟨"StarRightModel", "find", "()V"⟩, 37)]
theorem lw_r3 : ∀ q ∈ lw_privs_3, lw_okq q := List.forall_mem_cons.mpr ⟨lw_p32, List.forall_mem_cons.mpr ⟨lw_p33, List.forall_mem_cons.mpr ⟨lw_p34, List.forall_mem_cons.mpr ⟨lw_p35, List.forall_mem_cons.mpr ⟨lw_p36, List.forall_mem_cons.mpr ⟨lw_p37, List.forall_mem_cons.mpr ⟨lw_p38, List.forall_mem_cons.mpr ⟨lw_p39, List.forall_mem_cons.mpr ⟨lw_p40, fun _ h => absurd h List.not_mem_nil⟩⟩⟩⟩⟩⟩⟩⟩⟩
def lw_privs : List (MethodName × Nat) := lw_privs_1 ++ (lw_privs_2 ++ (lw_privs_3))
def lw_tbl : List Cond := k2_sels lw_privs ++ tables_1
theorem lw_privs_ok : ∀ q ∈ lw_privs, lw_okq q := by
  show ∀ q ∈ lw_privs_1 ++ (lw_privs_2 ++ (lw_privs_3)), lw_okq q
  exact List.forall_mem_append.mpr ⟨lw_r1, List.forall_mem_append.mpr ⟨lw_r2, lw_r3⟩⟩
/-! ===== BEGIN words of one list among another's, by their places ===== -/
theorem goodIn_r {big : List Cond} (ws : List Cond) (ps : List Nat) (hp : ws = ps.filterMap (fun i => big[i]?)) (h : ws.all goodWord = true) : GoodIn big ws := by
  intro w hw
  have h1 := List.all_eq_true.mp h w hw
  rw [hp] at hw
  obtain ⟨i, -, hi⟩ := List.mem_filterMap.mp hw
  have hm : w ∈ big := by first | exact List.mem_of_getElem? hi | exact List.getElem?_mem hi
  exact ⟨hm, good_of_word h1⟩
theorem goodIn_app {big a b : List Cond} (ha : GoodIn big a) (hb : GoodIn big b) : GoodIn big (a ++ b) := fun w h => (List.mem_append.mp h).elim (ha w) (hb w)
theorem goodIn_ca {big a b : List Cond} {c : Cond} (ha : GoodIn big (c :: a)) (hb : GoodIn big b) : GoodIn big (c :: (a ++ b)) := fun w h => (List.mem_cons.mp h).elim (fun e => ha w (List.mem_cons.mpr (Or.inl e))) (fun h => (List.mem_append.mp h).elim (fun h => ha w (List.mem_cons.mpr (Or.inr h))) (hb w))
theorem goodIn_sub {big ws : List Cond} (hm : ∀ w ∈ ws, w ∈ big) (h : ws.all goodWord = true) : GoodIn big ws := fun w hw => ⟨hm w hw, good_of_word (List.all_eq_true.mp h w hw)⟩
/-! ===== END ===== -/

/-! ===== BEGIN printed: names, fields, word lists, decode rows ===== -/
def RX0 : String := "StarRight$Acts"
def TX0 : u_T := fun k => match k with
  | 0 => ("StarRight$Acts", "kind", "[I", true)
  | 1 => ("StarRight$Acts", "roof", "[I", true)
  | 2 => ("StarRight$Acts", "was", "[I", true)
  | _ => ("StarRight$Acts", "count", "I", false)
def tyX0 : Nat → FieldType := fun k => match k with
  | 0 => .array .int
  | 1 => .array .int
  | 2 => .array .int
  | _ => .int
abbrev wsX00 : List Cond := u_ws RX0 TX0 4
theorem nmX0 : ∀ a, a < 4 → ∀ b, b < 4 → a ≠ b → (TX0 a).2.1 ≠ (TX0 b).2.1 := by decide +kernel
theorem tyX0_ok : ∀ k, k < 4 → parseFieldDescriptor (TX0 k).2.2.1 = some (tyX0 k) := by decide +kernel
abbrev cX0_init : ByteArray := prog_2_method_1_code
def yX0_init : MethodName := ⟨RX0, "<init>", "()V"⟩
abbrev cX0_clear : ByteArray := prog_2_method_2_code
def yX0_clear : MethodName := ⟨RX0, "clear", "()V"⟩
abbrev cX0_add : ByteArray := prog_2_method_3_code
def yX0_add : MethodName := ⟨RX0, "add", "(III)V"⟩
abbrev cX0_forgetFirst : ByteArray := prog_2_method_4_code
def yX0_forgetFirst : MethodName := ⟨RX0, "forgetFirst", "()V"⟩
abbrev cX0_takeLast : ByteArray := prog_2_method_5_code
def yX0_takeLast : MethodName := ⟨RX0, "takeLast", "()I"⟩
def RX1 : String := "StarRight$Contest"
def TX1 : u_T := fun k => match k with
  | 0 => ("StarRight$Contest", "gain", "[I", true)
  | _ => ("StarRight$Contest", "otherGain", "[I", true)
def tyX1 : Nat → FieldType := fun k => match k with
  | 0 => .array .int
  | _ => .array .int
abbrev wsX10 : List Cond := u_ws RX1 TX1 2
theorem nmX1 : ∀ a, a < 2 → ∀ b, b < 2 → a ≠ b → (TX1 a).2.1 ≠ (TX1 b).2.1 := by decide +kernel
theorem tyX1_ok : ∀ k, k < 2 → parseFieldDescriptor (TX1 k).2.2.1 = some (tyX1 k) := by decide +kernel
abbrev cX1_init : ByteArray := prog_3_method_1_code
def yX1_init : MethodName := ⟨RX1, "<init>", "()V"⟩
abbrev cX1_heightOfFirst : ByteArray := prog_3_method_2_code
def yX1_heightOfFirst : MethodName := ⟨RX1, "heightOfFirst", "(I)I"⟩
abbrev cX1_heightOfOther : ByteArray := prog_3_method_3_code
def yX1_heightOfOther : MethodName := ⟨RX1, "heightOfOther", "(I)I"⟩
abbrev cX1_put : ByteArray := prog_3_method_4_code
def yX1_put : MethodName := ⟨RX1, "put", "(III)V"⟩
abbrev cX1_isAtRest : ByteArray := prog_3_method_5_code
def yX1_isAtRest : MethodName := ⟨RX1, "isAtRest", "(I)Z"⟩
abbrev cX1_pairsAtRest : ByteArray := prog_3_method_6_code
def yX1_pairsAtRest : MethodName := ⟨RX1, "pairsAtRest", "()I"⟩
abbrev cX1_firstAtRest : ByteArray := prog_3_method_7_code
def yX1_firstAtRest : MethodName := ⟨RX1, "firstAtRest", "()I"⟩
def RX2 : String := "StarRight$Sight"
def TX2 : u_T := fun k => match k with
  | 0 => ("StarRight$Sight", "seen", "[I", true)
  | 1 => ("StarRight$Sight", "smoke", "[I", true)
  | _ => ("StarRight$Sight", "holder", "[I", true)
def tyX2 : Nat → FieldType := fun k => match k with
  | 0 => .array .int
  | 1 => .array .int
  | _ => .array .int
abbrev wsX20 : List Cond := u_ws RX2 TX2 3
theorem nmX2 : ∀ a, a < 3 → ∀ b, b < 3 → a ≠ b → (TX2 a).2.1 ≠ (TX2 b).2.1 := by decide +kernel
theorem tyX2_ok : ∀ k, k < 3 → parseFieldDescriptor (TX2 k).2.2.1 = some (tyX2 k) := by decide +kernel
abbrev cX2_init : ByteArray := prog_4_method_1_code
def yX2_init : MethodName := ⟨RX2, "<init>", "()V"⟩
abbrev cX2_survey : ByteArray := prog_4_method_2_code
def yX2_survey : MethodName := ⟨RX2, "survey", "(LStarRight$Town;II)V"⟩
abbrev cX2_holderByLaw : ByteArray := prog_4_method_3_code
def yX2_holderByLaw : MethodName := ⟨RX2, "holderByLaw", "(LStarRight$Town;II)I"⟩
abbrev cX2_cellsSeenBy : ByteArray := prog_4_method_4_code
def yX2_cellsSeenBy : MethodName := ⟨RX2, "cellsSeenBy", "(I)I"⟩
abbrev cX2_holderOver : ByteArray := prog_4_method_5_code
def yX2_holderOver : MethodName := ⟨RX2, "holderOver", "(I)I"⟩
abbrev cX2_holders : ByteArray := prog_4_method_6_code
def yX2_holders : MethodName := ⟨RX2, "holders", "(LStarRight$Stars;II)I"⟩
abbrev cX2_payOf : ByteArray := prog_4_method_7_code
def yX2_payOf : MethodName := ⟨RX2, "payOf", "(LStarRight$Stars;II)I"⟩
abbrev cX2_payTo : ByteArray := prog_4_method_8_code
def yX2_payTo : MethodName := ⟨RX2, "payTo", "(II)I"⟩
abbrev cX2_paidAt : ByteArray := prog_4_method_9_code
def yX2_paidAt : MethodName := ⟨RX2, "paidAt", "(LStarRight$Stars;II)I"⟩
abbrev cX2_takings : ByteArray := prog_4_method_10_code
def yX2_takings : MethodName := ⟨RX2, "takings", "(LStarRight$Town;LStarRight$Stars;II)I"⟩
def RX3 : String := "StarRight$Slot"
def TX3 : u_T := fun k => match k with
  | 0 => ("StarRight$Slot", "town", "LStarRight$Town;", true)
  | _ => ("StarRight$Slot", "kept", "Z", false)
def tyX3 : Nat → FieldType := fun k => match k with
  | 0 => .object "StarRight$Town"
  | _ => .boolean
abbrev wsX30 : List Cond := u_ws RX3 TX3 2
theorem nmX3 : ∀ a, a < 2 → ∀ b, b < 2 → a ≠ b → (TX3 a).2.1 ≠ (TX3 b).2.1 := by decide +kernel
theorem tyX3_ok : ∀ k, k < 2 → parseFieldDescriptor (TX3 k).2.2.1 = some (tyX3 k) := by decide +kernel
abbrev cX3_init : ByteArray := prog_5_method_1_code
def yX3_init : MethodName := ⟨RX3, "<init>", "()V"⟩
def RX4 : String := "StarRight$Stars"
def TX4 : u_T := fun k => match k with
  | 0 => ("StarRight$Stars", "rise", "[I", true)
  | 1 => ("StarRight$Stars", "speed", "[I", true)
  | 2 => ("StarRight$Stars", "worth", "[I", true)
  | _ => ("StarRight$Stars", "count", "I", false)
def tyX4 : Nat → FieldType := fun k => match k with
  | 0 => .array .int
  | 1 => .array .int
  | 2 => .array .int
  | _ => .int
abbrev wsX40 : List Cond := u_ws RX4 TX4 4
theorem nmX4 : ∀ a, a < 4 → ∀ b, b < 4 → a ≠ b → (TX4 a).2.1 ≠ (TX4 b).2.1 := by decide +kernel
theorem tyX4_ok : ∀ k, k < 4 → parseFieldDescriptor (TX4 k).2.2.1 = some (tyX4 k) := by decide +kernel
abbrev cX4_init : ByteArray := prog_6_method_1_code
def yX4_init : MethodName := ⟨RX4, "<init>", "()V"⟩
abbrev cX4_clear : ByteArray := prog_6_method_2_code
def yX4_clear : MethodName := ⟨RX4, "clear", "()V"⟩
abbrev cX4_addStar : ByteArray := prog_6_method_3_code
def yX4_addStar : MethodName := ⟨RX4, "addStar", "(III)V"⟩
abbrev cX4_hasStar : ByteArray := prog_6_method_4_code
def yX4_hasStar : MethodName := ⟨RX4, "hasStar", "(I)Z"⟩
abbrev cX4_worthOf : ByteArray := prog_6_method_5_code
def yX4_worthOf : MethodName := ⟨RX4, "worthOf", "(I)I"⟩
abbrev cX4_cellAt : ByteArray := prog_6_method_6_code
def yX4_cellAt : MethodName := ⟨RX4, "cellAt", "(II)I"⟩
abbrev cX4_walkedTo : ByteArray := prog_6_method_7_code
def yX4_walkedTo : MethodName := ⟨RX4, "walkedTo", "(III)I"⟩
abbrev cX4_cellsPassed : ByteArray := prog_6_method_8_code
def yX4_cellsPassed : MethodName := ⟨RX4, "cellsPassed", "(III)I"⟩
def RX5 : String := "StarRight$Text"
def TX5 : u_T := fun k => match k with
  | 0 => ("StarRight$Text", "bytes", "[I", true)
  | _ => ("StarRight$Text", "length", "I", false)
def tyX5 : Nat → FieldType := fun k => match k with
  | 0 => .array .int
  | _ => .int
abbrev wsX50 : List Cond := u_ws RX5 TX5 2
theorem nmX5 : ∀ a, a < 2 → ∀ b, b < 2 → a ≠ b → (TX5 a).2.1 ≠ (TX5 b).2.1 := by decide +kernel
theorem tyX5_ok : ∀ k, k < 2 → parseFieldDescriptor (TX5 k).2.2.1 = some (tyX5 k) := by decide +kernel
abbrev cX5_init : ByteArray := prog_7_method_1_code
def yX5_init : MethodName := ⟨RX5, "<init>", "()V"⟩
abbrev cX5_isFull : ByteArray := prog_7_method_2_code
def yX5_isFull : MethodName := ⟨RX5, "isFull", "()Z"⟩
abbrev cX5_add : ByteArray := prog_7_method_3_code
def yX5_add : MethodName := ⟨RX5, "add", "(I)I"⟩
abbrev cX5_clear : ByteArray := prog_7_method_4_code
def yX5_clear : MethodName := ⟨RX5, "clear", "()I"⟩
abbrev cX5_byteAt : ByteArray := prog_7_method_5_code
def yX5_byteAt : MethodName := ⟨RX5, "byteAt", "(I)I"⟩
abbrev cX5_digitAt : ByteArray := prog_7_method_6_code
def yX5_digitAt : MethodName := ⟨RX5, "digitAt", "(I)I"⟩
abbrev cX5_hasDigit : ByteArray := prog_7_method_7_code
def yX5_hasDigit : MethodName := ⟨RX5, "hasDigit", "(III)Z"⟩
abbrev cX5_firstFault : ByteArray := prog_7_method_8_code
def yX5_firstFault : MethodName := ⟨RX5, "firstFault", "()I"⟩
abbrev cX5_faultInRoof : ByteArray := prog_7_method_9_code
def yX5_faultInRoof : MethodName := ⟨RX5, "faultInRoof", "(II)I"⟩
abbrev cX5_faultInStar : ByteArray := prog_7_method_10_code
def yX5_faultInStar : MethodName := ⟨RX5, "faultInStar", "(I)I"⟩
abbrev cX5_law : ByteArray := prog_7_method_11_code
def yX5_law : MethodName := ⟨RX5, "law", "()I"⟩
abbrev cX5_tellParts : ByteArray := prog_7_method_12_code
def yX5_tellParts : MethodName := ⟨RX5, "tellParts", "(LStarRight$Town;LStarRight$Stars;)V"⟩
def RX6 : String := "StarRight$Town"
def TX6 : u_T := fun k => match k with
  | 0 => ("StarRight$Town", "cell", "[I", true)
  | 1 => ("StarRight$Town", "height", "[I", true)
  | 2 => ("StarRight$Town", "owner", "[I", true)
  | 3 => ("StarRight$Town", "purses", "[I", true)
  | 4 => ("StarRight$Town", "roofs", "I", false)
  | 5 => ("StarRight$Town", "smoking", "I", false)
  | 6 => ("StarRight$Town", "now", "I", false)
  | _ => ("StarRight$Town", "cloudy", "Z", false)
def tyX6 : Nat → FieldType := fun k => match k with
  | 0 => .array .int
  | 1 => .array .int
  | 2 => .array .int
  | 3 => .array .int
  | 4 => .int
  | 5 => .int
  | 6 => .int
  | _ => .boolean
abbrev wsX60 : List Cond := u_ws RX6 TX6 8
theorem nmX6 : ∀ a, a < 8 → ∀ b, b < 8 → a ≠ b → (TX6 a).2.1 ≠ (TX6 b).2.1 := by decide +kernel
theorem tyX6_ok : ∀ k, k < 8 → parseFieldDescriptor (TX6 k).2.2.1 = some (tyX6 k) := by decide +kernel
abbrev cX6_init : ByteArray := prog_8_method_1_code
def yX6_init : MethodName := ⟨RX6, "<init>", "()V"⟩
abbrev cX6_clear : ByteArray := prog_8_method_2_code
def yX6_clear : MethodName := ⟨RX6, "clear", "()V"⟩
abbrev cX6_copyOf : ByteArray := prog_8_method_3_code
def yX6_copyOf : MethodName := ⟨RX6, "copyOf", "(LStarRight$Town;)V"⟩
abbrev cX6_addRoof : ByteArray := prog_8_method_4_code
def yX6_addRoof : MethodName := ⟨RX6, "addRoof", "(IIII)V"⟩
abbrev cX6_hasRoof : ByteArray := prog_8_method_5_code
def yX6_hasRoof : MethodName := ⟨RX6, "hasRoof", "(I)Z"⟩
abbrev cX6_setHeight : ByteArray := prog_8_method_6_code
def yX6_setHeight : MethodName := ⟨RX6, "setHeight", "(II)V"⟩
abbrev cX6_setOwner : ByteArray := prog_8_method_7_code
def yX6_setOwner : MethodName := ⟨RX6, "setOwner", "(II)V"⟩
abbrev cX6_everyRoof : ByteArray := prog_8_method_8_code
def yX6_everyRoof : MethodName := ⟨RX6, "everyRoof", "()I"⟩
abbrev cX6_roofsOf : ByteArray := prog_8_method_9_code
def yX6_roofsOf : MethodName := ⟨RX6, "roofsOf", "(I)I"⟩
abbrev cX6_shadedRoofs : ByteArray := prog_8_method_10_code
def yX6_shadedRoofs : MethodName := ⟨RX6, "shadedRoofs", "()I"⟩
abbrev cX6_distance : ByteArray := prog_8_method_11_code
def yX6_distance : MethodName := ⟨RX6, "distance", "(II)I"⟩
abbrev cX6_isShaded : ByteArray := prog_8_method_12_code
def yX6_isShaded : MethodName := ⟨RX6, "isShaded", "(II)Z"⟩
abbrev cX6_cellsSeen : ByteArray := prog_8_method_13_code
def yX6_cellsSeen : MethodName := ⟨RX6, "cellsSeen", "(II)I"⟩
abbrev cX6_smokeAround : ByteArray := prog_8_method_14_code
def yX6_smokeAround : MethodName := ⟨RX6, "smokeAround", "(II)I"⟩
abbrev cX6_goesAhead : ByteArray := prog_8_method_15_code
def yX6_goesAhead : MethodName := ⟨RX6, "goesAhead", "(IIII)Z"⟩
def RX7 : String := "StarRight$Watch"
def TX7 : u_T := fun k => match k with
  | 0 => ("StarRight$Watch", "cell", "[I", true)
  | 1 => ("StarRight$Watch", "hour", "[I", true)
  | 2 => ("StarRight$Watch", "shone", "[Z", true)
  | _ => ("StarRight$Watch", "count", "I", false)
def tyX7 : Nat → FieldType := fun k => match k with
  | 0 => .array .int
  | 1 => .array .int
  | 2 => .array .boolean
  | _ => .int
abbrev wsX70 : List Cond := u_ws RX7 TX7 4
theorem nmX7 : ∀ a, a < 4 → ∀ b, b < 4 → a ≠ b → (TX7 a).2.1 ≠ (TX7 b).2.1 := by decide +kernel
theorem tyX7_ok : ∀ k, k < 4 → parseFieldDescriptor (TX7 k).2.2.1 = some (tyX7 k) := by decide +kernel
abbrev cX7_init : ByteArray := prog_9_method_1_code
def yX7_init : MethodName := ⟨RX7, "<init>", "()V"⟩
abbrev cX7_isFull : ByteArray := prog_9_method_2_code
def yX7_isFull : MethodName := ⟨RX7, "isFull", "()Z"⟩
abbrev cX7_add : ByteArray := prog_9_method_3_code
def yX7_add : MethodName := ⟨RX7, "add", "(IIZ)I"⟩
abbrev cX7_clear : ByteArray := prog_9_method_4_code
def yX7_clear : MethodName := ⟨RX7, "clear", "()I"⟩
abbrev cX7_isOver : ByteArray := prog_9_method_5_code
def yX7_isOver : MethodName := ⟨RX7, "isOver", "(III)Z"⟩
abbrev cX7_fits : ByteArray := prog_9_method_6_code
def yX7_fits : MethodName := ⟨RX7, "fits", "(I)Z"⟩
abbrev cX7_fittingStars : ByteArray := prog_9_method_7_code
def yX7_fittingStars : MethodName := ⟨RX7, "fittingStars", "()J"⟩
abbrev cX7_firstOf : ByteArray := prog_9_method_8_code
def yX7_firstOf : MethodName := ⟨RX7, "firstOf", "(J)I"⟩
abbrev cX7_bestLook : ByteArray := prog_9_method_9_code
def yX7_bestLook : MethodName := ⟨RX7, "bestLook", "()I"⟩
abbrev cX7_greaterPart : ByteArray := prog_9_method_10_code
def yX7_greaterPart : MethodName := ⟨RX7, "greaterPart", "(JII)I"⟩
def RX8 : String := "StarRight"
def TX8 : u_T := fun k => match k with
  | 0 => ("StarRight", "text", "LStarRight$Text;", true)
  | 1 => ("StarRight", "stars", "LStarRight$Stars;", true)
  | 2 => ("StarRight", "town", "LStarRight$Town;", true)
  | 3 => ("StarRight", "trial", "LStarRight$Town;", true)
  | 4 => ("StarRight", "slot0", "LStarRight$Slot;", true)
  | 5 => ("StarRight", "slot1", "LStarRight$Slot;", true)
  | 6 => ("StarRight", "sight", "LStarRight$Sight;", true)
  | 7 => ("StarRight", "acts", "LStarRight$Acts;", true)
  | 8 => ("StarRight", "watch", "LStarRight$Watch;", true)
  | 9 => ("StarRight", "contest", "LStarRight$Contest;", true)
  | 10 => ("StarRight", "rentsBySet", "[I", true)
  | 11 => ("StarRight", "law", "I", false)
  | _ => ("StarRight", "theSeed", "J", false)
def tyX8 : Nat → FieldType := fun k => match k with
  | 0 => .object "StarRight$Text"
  | 1 => .object "StarRight$Stars"
  | 2 => .object "StarRight$Town"
  | 3 => .object "StarRight$Town"
  | 4 => .object "StarRight$Slot"
  | 5 => .object "StarRight$Slot"
  | 6 => .object "StarRight$Sight"
  | 7 => .object "StarRight$Acts"
  | 8 => .object "StarRight$Watch"
  | 9 => .object "StarRight$Contest"
  | 10 => .array .int
  | 11 => .int
  | _ => .long
abbrev wsX80 : List Cond := u_ws RX8 TX8 13
theorem nmX8 : ∀ a, a < 13 → ∀ b, b < 13 → a ≠ b → (TX8 a).2.1 ≠ (TX8 b).2.1 := by decide +kernel
theorem tyX8_ok : ∀ k, k < 13 → parseFieldDescriptor (TX8 k).2.2.1 = some (tyX8 k) := by decide +kernel
abbrev cX8_init : ByteArray := prog_1_method_1_code
def yX8_init : MethodName := ⟨RX8, "<init>", "()V"⟩
abbrev cX8_write : ByteArray := prog_1_method_2_code
def yX8_write : MethodName := ⟨RX8, "write", "(I)I"⟩
abbrev cX8_wipe : ByteArray := prog_1_method_3_code
def yX8_wipe : MethodName := ⟨RX8, "wipe", "()I"⟩
abbrev cX8_fault : ByteArray := prog_1_method_4_code
def yX8_fault : MethodName := ⟨RX8, "fault", "()I"⟩
abbrev cX8_night : ByteArray := prog_1_method_5_code
def yX8_night : MethodName := ⟨RX8, "night", "()I"⟩
abbrev cX8_about : ByteArray := prog_1_method_6_code
def yX8_about : MethodName := ⟨RX8, "about", "(I)I"⟩
abbrev cX8_roof : ByteArray := prog_1_method_7_code
def yX8_roof : MethodName := ⟨RX8, "roof", "(II)I"⟩
abbrev cX8_starsHeldNow : ByteArray := prog_1_method_8_code
def yX8_starsHeldNow : MethodName := ⟨RX8, "starsHeldNow", "(I)I"⟩
abbrev cX8_star : ByteArray := prog_1_method_9_code
def yX8_star : MethodName := ⟨RX8, "star", "(II)I"⟩
abbrev cX8_purse : ByteArray := prog_1_method_10_code
def yX8_purse : MethodName := ⟨RX8, "purse", "(I)I"⟩
abbrev cX8_isLandlord : ByteArray := prog_1_method_11_code
def yX8_isLandlord : MethodName := ⟨RX8, "isLandlord", "(I)Z"⟩
abbrev cX8_surveyTown : ByteArray := prog_1_method_12_code
def yX8_surveyTown : MethodName := ⟨RX8, "surveyTown", "()V"⟩
abbrev cX8_build : ByteArray := prog_1_method_13_code
def yX8_build : MethodName := ⟨RX8, "build", "(II)I"⟩
abbrev cX8_light : ByteArray := prog_1_method_14_code
def yX8_light : MethodName := ⟨RX8, "light", "(I)I"⟩
abbrev cX8_sell : ByteArray := prog_1_method_15_code
def yX8_sell : MethodName := ⟨RX8, "sell", "(II)I"⟩
abbrev cX8_clouds : ByteArray := prog_1_method_16_code
def yX8_clouds : MethodName := ⟨RX8, "clouds", "()I"⟩
abbrev cX8_hour : ByteArray := prog_1_method_17_code
def yX8_hour : MethodName := ⟨RX8, "hour", "()I"⟩
abbrev cX8_undo : ByteArray := prog_1_method_18_code
def yX8_undo : MethodName := ⟨RX8, "undo", "()I"⟩
abbrev cX8_payPurses : ByteArray := prog_1_method_19_code
def yX8_payPurses : MethodName := ⟨RX8, "payPurses", "(I)I"⟩
abbrev cX8_rents : ByteArray := prog_1_method_20_code
def yX8_rents : MethodName := ⟨RX8, "rents", "(II)I"⟩
abbrev cX8_hold : ByteArray := prog_1_method_21_code
def yX8_hold : MethodName := ⟨RX8, "hold", "(II)I"⟩
abbrev cX8_isSpan : ByteArray := prog_1_method_22_code
def yX8_isSpan : MethodName := ⟨RX8, "isSpan", "(II)Z"⟩
abbrev cX8_fires : ByteArray := prog_1_method_23_code
def yX8_fires : MethodName := ⟨RX8, "fires", "(II)I"⟩
abbrev cX8_gainOfFires : ByteArray := prog_1_method_24_code
def yX8_gainOfFires : MethodName := ⟨RX8, "gainOfFires", "(II)I"⟩
abbrev cX8_share : ByteArray := prog_1_method_25_code
def yX8_share : MethodName := ⟨RX8, "share", "(IIZ)I"⟩
abbrev cX8_gainInAllOrders : ByteArray := prog_1_method_26_code
def yX8_gainInAllOrders : MethodName := ⟨RX8, "gainInAllOrders", "(I)I"⟩
abbrev cX8_orders : ByteArray := prog_1_method_27_code
def yX8_orders : MethodName := ⟨RX8, "orders", "(I)I"⟩
abbrev cX8_bestLaw : ByteArray := prog_1_method_28_code
def yX8_bestLaw : MethodName := ⟨RX8, "bestLaw", "(II)I"⟩
abbrev cX8_rentsByLaw : ByteArray := prog_1_method_29_code
def yX8_rentsByLaw : MethodName := ⟨RX8, "rentsByLaw", "(III)I"⟩
abbrev cX8_starless : ByteArray := prog_1_method_30_code
def yX8_starless : MethodName := ⟨RX8, "starless", "(I)I"⟩
abbrev cX8_rests : ByteArray := prog_1_method_31_code
def yX8_rests : MethodName := ⟨RX8, "rests", "(IIII)I"⟩
abbrev cX8_tryHeights : ByteArray := prog_1_method_32_code
def yX8_tryHeights : MethodName := ⟨RX8, "tryHeights", "(IIII)V"⟩
abbrev cX8_shine : ByteArray := prog_1_method_33_code
def yX8_shine : MethodName := ⟨RX8, "shine", "(IIZ)I"⟩
abbrev cX8_unshine : ByteArray := prog_1_method_34_code
def yX8_unshine : MethodName := ⟨RX8, "unshine", "()I"⟩
abbrev cX8_found : ByteArray := prog_1_method_35_code
def yX8_found : MethodName := ⟨RX8, "found", "(I)I"⟩
abbrev cX8_look : ByteArray := prog_1_method_36_code
def yX8_look : MethodName := ⟨RX8, "look", "()I"⟩
abbrev cX8_chance : ByteArray := prog_1_method_37_code
def yX8_chance : MethodName := ⟨RX8, "chance", "(IIIZ)I"⟩
abbrev cX8_fraction : ByteArray := prog_1_method_38_code
def yX8_fraction : MethodName := ⟨RX8, "fraction", "(IIZ)I"⟩
abbrev cX8_commonDivisor : ByteArray := prog_1_method_39_code
def yX8_commonDivisor : MethodName := ⟨RX8, "commonDivisor", "(II)I"⟩
abbrev cX8_seed : ByteArray := prog_1_method_40_code
def yX8_seed : MethodName := ⟨RX8, "seed", "(J)J"⟩
abbrev cX8_nights : ByteArray := prog_1_method_41_code
def yX8_nights : MethodName := ⟨RX8, "nights", "(I)I"⟩
abbrev cX8_keep : ByteArray := prog_1_method_42_code
def yX8_keep : MethodName := ⟨RX8, "keep", "(I)I"⟩
abbrev cX8_again : ByteArray := prog_1_method_43_code
def yX8_again : MethodName := ⟨RX8, "again", "(I)I"⟩
abbrev cX8_slotOf : ByteArray := prog_1_method_44_code
def yX8_slotOf : MethodName := ⟨RX8, "slotOf", "(I)LStarRight$Slot;"⟩
def RX9 : String := "StarRightModel"
def TX9 : u_T := fun k => match k with
  | 0 => ("StarRightModel", "thrown", "I", false)
  | 1 => ("StarRightModel", "text", "[I", true)
  | 2 => ("StarRightModel", "textSize", "I", false)
  | 3 => ("StarRightModel", "place", "I", false)
  | 4 => ("StarRightModel", "law", "I", false)
  | 5 => ("StarRightModel", "roofs", "I", false)
  | 6 => ("StarRightModel", "stars", "I", false)
  | 7 => ("StarRightModel", "cell", "[I", true)
  | 8 => ("StarRightModel", "rise", "[I", true)
  | 9 => ("StarRightModel", "speed", "[I", true)
  | 10 => ("StarRightModel", "worth", "[I", true)
  | 11 => ("StarRightModel", "readLaw", "I", false)
  | 12 => ("StarRightModel", "readRoofs", "I", false)
  | 13 => ("StarRightModel", "readStars", "I", false)
  | 14 => ("StarRightModel", "readRoof", "[I", true)
  | 15 => ("StarRightModel", "readStar", "[I", true)
  | 16 => ("StarRightModel", "page", "[I", true)
  | 17 => ("StarRightModel", "trial", "[I", true)
  | 18 => ("StarRightModel", "book", "[I", true)
  | 19 => ("StarRightModel", "acts", "I", false)
  | 20 => ("StarRightModel", "kept", "[I", true)
  | 21 => ("StarRightModel", "isKept", "[Z", true)
  | 22 => ("StarRightModel", "seen", "I", false)
  | 23 => ("StarRightModel", "seenCell", "[I", true)
  | 24 => ("StarRightModel", "seenHour", "[I", true)
  | 25 => ("StarRightModel", "seenShone", "[Z", true)
  | 26 => ("StarRightModel", "seed", "J", false)
  | 27 => ("StarRightModel", "value", "[I", true)
  | 28 => ("StarRightModel", "left", "[Z", true)
  | 29 => ("StarRightModel", "foundMany", "I", false)
  | 30 => ("StarRightModel", "foundFirst", "I", false)
  | 31 => ("StarRightModel", "restMany", "I", false)
  | 32 => ("StarRightModel", "restFirst", "I", false)
  | 33 => ("StarRightModel", "restOne", "I", false)
  | 34 => ("StarRightModel", "restTwo", "I", false)
  | 35 => ("StarRightModel", "fireBest", "I", false)
  | _ => ("StarRightModel", "fireMost", "I", false)
def tyX9 : Nat → FieldType := fun k => match k with
  | 0 => .int
  | 1 => .array .int
  | 2 => .int
  | 3 => .int
  | 4 => .int
  | 5 => .int
  | 6 => .int
  | 7 => .array .int
  | 8 => .array .int
  | 9 => .array .int
  | 10 => .array .int
  | 11 => .int
  | 12 => .int
  | 13 => .int
  | 14 => .array .int
  | 15 => .array .int
  | 16 => .array .int
  | 17 => .array .int
  | 18 => .array .int
  | 19 => .int
  | 20 => .array .int
  | 21 => .array .boolean
  | 22 => .int
  | 23 => .array .int
  | 24 => .array .int
  | 25 => .array .boolean
  | 26 => .long
  | 27 => .array .int
  | 28 => .array .boolean
  | 29 => .int
  | 30 => .int
  | 31 => .int
  | 32 => .int
  | 33 => .int
  | 34 => .int
  | 35 => .int
  | _ => .int
abbrev wsX90 : List Cond := u_ws RX9 TX9 37
theorem nmX9 : ∀ a, a < 37 → ∀ b, b < 37 → a ≠ b → (TX9 a).2.1 ≠ (TX9 b).2.1 := by decide +kernel
theorem tyX9_ok : ∀ k, k < 37 → parseFieldDescriptor (TX9 k).2.2.1 = some (tyX9 k) := by decide +kernel
abbrev cX9_init : ByteArray := prog_11_method_1_code
def yX9_init : MethodName := ⟨RX9, "<init>", "()V"⟩
abbrev cX9_in : ByteArray := prog_11_method_3_code
def yX9_in : MethodName := ⟨RX9, "in", "(JJJ)Z"⟩
abbrev cX9_has : ByteArray := prog_11_method_4_code
def yX9_has : MethodName := ⟨RX9, "has", "(II)Z"⟩
abbrev cX9_many : ByteArray := prog_11_method_5_code
def yX9_many : MethodName := ⟨RX9, "many", "(I)I"⟩
abbrev cX9_far : ByteArray := prog_11_method_6_code
def yX9_far : MethodName := ⟨RX9, "far", "(II)I"⟩
abbrev cX9_noRoof : ByteArray := prog_11_method_7_code
def yX9_noRoof : MethodName := ⟨RX9, "noRoof", "(I)Z"⟩
abbrev cX9_noStar : ByteArray := prog_11_method_8_code
def yX9_noStar : MethodName := ⟨RX9, "noStar", "(I)Z"⟩
abbrev cX9_all : ByteArray := prog_11_method_9_code
def yX9_all : MethodName := ⟨RX9, "all", "()I"⟩
abbrev cX9_write : ByteArray := prog_11_method_10_code
def yX9_write : MethodName := ⟨RX9, "write", "(I)I"⟩
abbrev cX9_wipe : ByteArray := prog_11_method_11_code
def yX9_wipe : MethodName := ⟨RX9, "wipe", "()I"⟩
abbrev cX9_figure : ByteArray := prog_11_method_12_code
def yX9_figure : MethodName := ⟨RX9, "figure", "(II)I"⟩
abbrev cX9_isTaken : ByteArray := prog_11_method_13_code
def yX9_isTaken : MethodName := ⟨RX9, "isTaken", "(I)Z"⟩
abbrev cX9_readRoof : ByteArray := prog_11_method_14_code
def yX9_readRoof : MethodName := ⟨RX9, "readRoof", "()Z"⟩
abbrev cX9_readStar : ByteArray := prog_11_method_15_code
def yX9_readStar : MethodName := ⟨RX9, "readStar", "()Z"⟩
abbrev cX9_readPart : ByteArray := prog_11_method_16_code
def yX9_readPart : MethodName := ⟨RX9, "readPart", "()Z"⟩
abbrev cX9_readNight : ByteArray := prog_11_method_17_code
def yX9_readNight : MethodName := ⟨RX9, "readNight", "()I"⟩
abbrev cX9_fault : ByteArray := prog_11_method_18_code
def yX9_fault : MethodName := ⟨RX9, "fault", "()I"⟩
abbrev cX9_night : ByteArray := prog_11_method_19_code
def yX9_night : MethodName := ⟨RX9, "night", "()I"⟩
abbrev cX9_isShaded : ByteArray := prog_11_method_20_code
def yX9_isShaded : MethodName := ⟨RX9, "isShaded", "([III)Z"⟩
abbrev cX9_doesSee : ByteArray := prog_11_method_21_code
def yX9_doesSee : MethodName := ⟨RX9, "doesSee", "([IIII)Z"⟩
abbrev cX9_over : ByteArray := prog_11_method_22_code
def yX9_over : MethodName := ⟨RX9, "over", "(II)I"⟩
abbrev cX9_holder : ByteArray := prog_11_method_23_code
def yX9_holder : MethodName := ⟨RX9, "holder", "([IIIII)I"⟩
abbrev cX9_pays : ByteArray := prog_11_method_24_code
def yX9_pays : MethodName := ⟨RX9, "pays", "(IIII)I"⟩
abbrev cX9_rentsOf : ByteArray := prog_11_method_25_code
def yX9_rentsOf : MethodName := ⟨RX9, "rentsOf", "([IIIIII)I"⟩
abbrev cX9_about : ByteArray := prog_11_method_26_code
def yX9_about : MethodName := ⟨RX9, "about", "(I)I"⟩
abbrev cX9_roof : ByteArray := prog_11_method_27_code
def yX9_roof : MethodName := ⟨RX9, "roof", "(II)I"⟩
abbrev cX9_star : ByteArray := prog_11_method_28_code
def yX9_star : MethodName := ⟨RX9, "star", "(II)I"⟩
abbrev cX9_purse : ByteArray := prog_11_method_29_code
def yX9_purse : MethodName := ⟨RX9, "purse", "(I)I"⟩
abbrev cX9_note : ByteArray := prog_11_method_30_code
def yX9_note : MethodName := ⟨RX9, "note", "()V"⟩
abbrev cX9_build : ByteArray := prog_11_method_31_code
def yX9_build : MethodName := ⟨RX9, "build", "(II)I"⟩
abbrev cX9_light : ByteArray := prog_11_method_32_code
def yX9_light : MethodName := ⟨RX9, "light", "(I)I"⟩
abbrev cX9_sell : ByteArray := prog_11_method_33_code
def yX9_sell : MethodName := ⟨RX9, "sell", "(II)I"⟩
abbrev cX9_clouds : ByteArray := prog_11_method_34_code
def yX9_clouds : MethodName := ⟨RX9, "clouds", "()I"⟩
abbrev cX9_hour : ByteArray := prog_11_method_35_code
def yX9_hour : MethodName := ⟨RX9, "hour", "()I"⟩
abbrev cX9_undo : ByteArray := prog_11_method_36_code
def yX9_undo : MethodName := ⟨RX9, "undo", "()I"⟩
abbrev cX9_begin : ByteArray := prog_11_method_37_code
def yX9_begin : MethodName := ⟨RX9, "begin", "()V"⟩
abbrev cX9_rents : ByteArray := prog_11_method_38_code
def yX9_rents : MethodName := ⟨RX9, "rents", "(II)I"⟩
abbrev cX9_hold : ByteArray := prog_11_method_39_code
def yX9_hold : MethodName := ⟨RX9, "hold", "(II)I"⟩
abbrev cX9_findFires : ByteArray := prog_11_method_40_code
def yX9_findFires : MethodName := ⟨RX9, "findFires", "(I)V"⟩
abbrev cX9_fires : ByteArray := prog_11_method_41_code
def yX9_fires : MethodName := ⟨RX9, "fires", "(II)I"⟩
abbrev cX9_orders : ByteArray := prog_11_method_42_code
def yX9_orders : MethodName := ⟨RX9, "orders", "(I)I"⟩
abbrev cX9_divisor : ByteArray := prog_11_method_43_code
def yX9_divisor : MethodName := ⟨RX9, "divisor", "(II)I"⟩
abbrev cX9_fraction : ByteArray := prog_11_method_44_code
def yX9_fraction : MethodName := ⟨RX9, "fraction", "(IIZ)I"⟩
abbrev cX9_share : ByteArray := prog_11_method_45_code
def yX9_share : MethodName := ⟨RX9, "share", "(IIZ)I"⟩
abbrev cX9_bestLaw : ByteArray := prog_11_method_46_code
def yX9_bestLaw : MethodName := ⟨RX9, "bestLaw", "(II)I"⟩
abbrev cX9_starless : ByteArray := prog_11_method_47_code
def yX9_starless : MethodName := ⟨RX9, "starless", "(I)I"⟩
abbrev cX9_layRest : ByteArray := prog_11_method_48_code
def yX9_layRest : MethodName := ⟨RX9, "layRest", "(IIIII)V"⟩
abbrev cX9_doesRest : ByteArray := prog_11_method_49_code
def yX9_doesRest : MethodName := ⟨RX9, "doesRest", "(IIIII)Z"⟩
abbrev cX9_rests : ByteArray := prog_11_method_50_code
def yX9_rests : MethodName := ⟨RX9, "rests", "(IIII)I"⟩
abbrev cX9_shine : ByteArray := prog_11_method_51_code
def yX9_shine : MethodName := ⟨RX9, "shine", "(IIZ)I"⟩
abbrev cX9_unshine : ByteArray := prog_11_method_52_code
def yX9_unshine : MethodName := ⟨RX9, "unshine", "()I"⟩
abbrev cX9_isOver : ByteArray := prog_11_method_53_code
def yX9_isOver : MethodName := ⟨RX9, "isOver", "(III)Z"⟩
abbrev cX9_find : ByteArray := prog_11_method_54_code
def yX9_find : MethodName := ⟨RX9, "find", "()V"⟩
abbrev cX9_found : ByteArray := prog_11_method_55_code
def yX9_found : MethodName := ⟨RX9, "found", "(I)I"⟩
abbrev cX9_look : ByteArray := prog_11_method_56_code
def yX9_look : MethodName := ⟨RX9, "look", "()I"⟩
abbrev cX9_chance : ByteArray := prog_11_method_57_code
def yX9_chance : MethodName := ⟨RX9, "chance", "(IIIZ)I"⟩
abbrev cX9_seed : ByteArray := prog_11_method_58_code
def yX9_seed : MethodName := ⟨RX9, "seed", "(J)J"⟩
abbrev cX9_nights : ByteArray := prog_11_method_59_code
def yX9_nights : MethodName := ⟨RX9, "nights", "(I)I"⟩
abbrev cX9_keep : ByteArray := prog_11_method_60_code
def yX9_keep : MethodName := ⟨RX9, "keep", "(I)I"⟩
abbrev cX9_again : ByteArray := prog_11_method_61_code
def yX9_again : MethodName := ⟨RX9, "again", "(I)I"⟩
def RJ6 : String := "java/lang/Integer"
def TJ6 : u_T := fun k => match k with
  | _ => ("", "", "", false)
def tyJ6 : Nat → FieldType := fun k => match k with
  | _ => .int
abbrev wsJ60 : List Cond := u_ws RJ6 TJ6 0
theorem nmJ6 : ∀ a, a < 0 → ∀ b, b < 0 → a ≠ b → (TJ6 a).2.1 ≠ (TJ6 b).2.1 := by decide +kernel
theorem tyJ6_ok : ∀ k, k < 0 → parseFieldDescriptor (TJ6 k).2.2.1 = some (tyJ6 k) := by decide +kernel
abbrev cJ6_bitCount_0f7a4 : ByteArray := prog_12_method_49_code
def yJ6_bitCount_0f7a4 : MethodName := ⟨RJ6, "bitCount", "(I)I"⟩
def RJ13 : String := "java/lang/Long"
def TJ13 : u_T := fun k => match k with
  | _ => ("", "", "", false)
def tyJ13 : Nat → FieldType := fun k => match k with
  | _ => .int
abbrev wsJ130 : List Cond := u_ws RJ13 TJ13 0
theorem nmJ13 : ∀ a, a < 0 → ∀ b, b < 0 → a ≠ b → (TJ13 a).2.1 ≠ (TJ13 b).2.1 := by decide +kernel
theorem tyJ13_ok : ∀ k, k < 0 → parseFieldDescriptor (TJ13 k).2.2.1 = some (tyJ13 k) := by decide +kernel
abbrev cJ13_bitCount_95d88 : ByteArray := prog_13_method_50_code
def yJ13_bitCount_95d88 : MethodName := ⟨RJ13, "bitCount", "(J)I"⟩
def RJ9 : String := "java/lang/Math"
def TJ9 : u_T := fun k => match k with
  | _ => ("", "", "", false)
def tyJ9 : Nat → FieldType := fun k => match k with
  | _ => .int
abbrev wsJ90 : List Cond := u_ws RJ9 TJ9 0
theorem nmJ9 : ∀ a, a < 0 → ∀ b, b < 0 → a ≠ b → (TJ9 a).2.1 ≠ (TJ9 b).2.1 := by decide +kernel
theorem tyJ9_ok : ∀ k, k < 0 → parseFieldDescriptor (TJ9 k).2.2.1 = some (tyJ9 k) := by decide +kernel
abbrev cJ9_abs_0f7a4 : ByteArray := prog_14_method_59_code
def yJ9_abs_0f7a4 : MethodName := ⟨RJ9, "abs", "(I)I"⟩
abbrev cJ9_max_7cf53 : ByteArray := prog_14_method_65_code
def yJ9_max_7cf53 : MethodName := ⟨RJ9, "max", "(II)I"⟩
def RJ10 : String := "java/lang/System"
def TJ10 : u_T := fun k => match k with
  | _ => ("", "", "", false)
def tyJ10 : Nat → FieldType := fun k => match k with
  | _ => .int
abbrev wsJ100 : List Cond := u_ws RJ10 TJ10 0
theorem nmJ10 : ∀ a, a < 0 → ∀ b, b < 0 → a ≠ b → (TJ10 a).2.1 ≠ (TJ10 b).2.1 := by decide +kernel
theorem tyJ10_ok : ∀ k, k < 0 → parseFieldDescriptor (TJ10 k).2.2.1 = some (tyJ10 k) := by decide +kernel
def RL : String := "StarRightLaw"
abbrev cL_law : ByteArray := code
def yL_law : MethodName := ⟨RL, "law", "([I)Z"⟩
abbrev vwCl : List vw_C := [(RX0, TX0, 4), (RX1, TX1, 2), (RX2, TX2, 3), (RX3, TX3, 2), (RX4, TX4, 4), (RX5, TX5, 2), (RX6, TX6, 8), (RX7, TX7, 4), (RX8, TX8, 13), (RX9, TX9, 37)]
