section
/-- a private method of a class that the tables say can be made, by its rows of tables_1 -/
def lw_okq (q : MethodName × Nat) : Prop := (q.1.cls ≠ "java/lang/invoke/MethodHandle" ∧ q.1.cls ≠ "java/lang/invoke/VarHandle") ∧ Cond.instantiable q.1.cls q.2 ∈ tables_1 ∧ Cond.privateMethod q.1 ∈ tables_1 ∧ Cond.instanceMethod q.1 ∈ tables_1
theorem lw_p0 : lw_okq (⟨"StarRight$Text", "byteAt", "(I)I"⟩, 2) := ⟨⟨by decide +kernel, by decide +kernel⟩, List.mem_of_getElem? (i := 24) (by decide +kernel), List.mem_of_getElem? (i := 262) (by decide +kernel), List.mem_of_getElem? (i := 263) (by decide +kernel)⟩
theorem lw_p1 : lw_okq (⟨"StarRight$Text", "hasDigit", "(III)Z"⟩, 2) := ⟨⟨by decide +kernel, by decide +kernel⟩, List.mem_of_getElem? (i := 24) (by decide +kernel), List.mem_of_getElem? (i := 266) (by decide +kernel), List.mem_of_getElem? (i := 267) (by decide +kernel)⟩
theorem lw_p2 : lw_okq (⟨"StarRight$Text", "digitAt", "(I)I"⟩, 2) := ⟨⟨by decide +kernel, by decide +kernel⟩, List.mem_of_getElem? (i := 24) (by decide +kernel), List.mem_of_getElem? (i := 270) (by decide +kernel), List.mem_of_getElem? (i := 271) (by decide +kernel)⟩
theorem lw_p3 : lw_okq (⟨"StarRight$Text", "faultInRoof", "(II)I"⟩, 2) := ⟨⟨by decide +kernel, by decide +kernel⟩, List.mem_of_getElem? (i := 24) (by decide +kernel), List.mem_of_getElem? (i := 274) (by decide +kernel), List.mem_of_getElem? (i := 275) (by decide +kernel)⟩
theorem lw_p4 : lw_okq (⟨"StarRight$Text", "faultInStar", "(I)I"⟩, 2) := ⟨⟨by decide +kernel, by decide +kernel⟩, List.mem_of_getElem? (i := 24) (by decide +kernel), List.mem_of_getElem? (i := 278) (by decide +kernel), List.mem_of_getElem? (i := 279) (by decide +kernel)⟩
theorem lw_p5 : lw_okq (⟨"StarRight$Town", "isShaded", "(II)Z"⟩, 8) := ⟨⟨by decide +kernel, by decide +kernel⟩, List.mem_of_getElem? (i := 63) (by decide +kernel), List.mem_of_getElem? (i := 326) (by decide +kernel), List.mem_of_getElem? (i := 327) (by decide +kernel)⟩
theorem lw_p6 : lw_okq (⟨"StarRight$Town", "distance", "(II)I"⟩, 8) := ⟨⟨by decide +kernel, by decide +kernel⟩, List.mem_of_getElem? (i := 63) (by decide +kernel), List.mem_of_getElem? (i := 334) (by decide +kernel), List.mem_of_getElem? (i := 335) (by decide +kernel)⟩
theorem lw_p7 : lw_okq (⟨"StarRight", "starsHeldNow", "(I)I"⟩, 13) := ⟨⟨by decide +kernel, by decide +kernel⟩, List.mem_of_getElem? (i := 16) (by decide +kernel), List.mem_of_getElem? (i := 351) (by decide +kernel), List.mem_of_getElem? (i := 352) (by decide +kernel)⟩
theorem lw_p8 : lw_okq (⟨"StarRight", "surveyTown", "()V"⟩, 13) := ⟨⟨by decide +kernel, by decide +kernel⟩, List.mem_of_getElem? (i := 16) (by decide +kernel), List.mem_of_getElem? (i := 355) (by decide +kernel), List.mem_of_getElem? (i := 356) (by decide +kernel)⟩
theorem lw_p9 : lw_okq (⟨"StarRight$Sight", "holderByLaw", "(LStarRight$Town;II)I"⟩, 3) := ⟨⟨by decide +kernel, by decide +kernel⟩, List.mem_of_getElem? (i := 120) (by decide +kernel), List.mem_of_getElem? (i := 368) (by decide +kernel), List.mem_of_getElem? (i := 369) (by decide +kernel)⟩
theorem lw_p10 : lw_okq (⟨"StarRight$Sight", "payTo", "(II)I"⟩, 3) := ⟨⟨by decide +kernel, by decide +kernel⟩, List.mem_of_getElem? (i := 120) (by decide +kernel), List.mem_of_getElem? (i := 403) (by decide +kernel), List.mem_of_getElem? (i := 404) (by decide +kernel)⟩
theorem lw_p11 : lw_okq (⟨"StarRight$Acts", "forgetFirst", "()V"⟩, 4) := ⟨⟨by decide +kernel, by decide +kernel⟩, List.mem_of_getElem? (i := 136) (by decide +kernel), List.mem_of_getElem? (i := 429) (by decide +kernel), List.mem_of_getElem? (i := 430) (by decide +kernel)⟩
theorem lw_p12 : lw_okq (⟨"StarRight", "payPurses", "(I)I"⟩, 13) := ⟨⟨by decide +kernel, by decide +kernel⟩, List.mem_of_getElem? (i := 16) (by decide +kernel), List.mem_of_getElem? (i := 456) (by decide +kernel), List.mem_of_getElem? (i := 457) (by decide +kernel)⟩
theorem lw_p13 : lw_okq (⟨"StarRight", "gainOfFires", "(II)I"⟩, 13) := ⟨⟨by decide +kernel, by decide +kernel⟩, List.mem_of_getElem? (i := 16) (by decide +kernel), List.mem_of_getElem? (i := 515) (by decide +kernel), List.mem_of_getElem? (i := 516) (by decide +kernel)⟩
theorem lw_p14 : lw_okq (⟨"StarRight", "gainInAllOrders", "(I)I"⟩, 13) := ⟨⟨by decide +kernel, by decide +kernel⟩, List.mem_of_getElem? (i := 16) (by decide +kernel), List.mem_of_getElem? (i := 523) (by decide +kernel), List.mem_of_getElem? (i := 524) (by decide +kernel)⟩
theorem lw_p15 : lw_okq (⟨"StarRight", "rentsByLaw", "(III)I"⟩, 13) := ⟨⟨by decide +kernel, by decide +kernel⟩, List.mem_of_getElem? (i := 16) (by decide +kernel), List.mem_of_getElem? (i := 543) (by decide +kernel), List.mem_of_getElem? (i := 544) (by decide +kernel)⟩
def lw_privs_1 : List (MethodName × Nat) := [(⟨"StarRight$Text", "byteAt", "(I)I"⟩, 2), (⟨"StarRight$Text", "hasDigit", "(III)Z"⟩, 2), (⟨"StarRight$Text", "digitAt", "(I)I"⟩, 2), (⟨"StarRight$Text", "faultInRoof", "(II)I"⟩, 2), (⟨"StarRight$Text", "faultInStar", "(I)I"⟩, 2), (⟨"StarRight$Town", "isShaded", "(II)Z"⟩, 8), (⟨"StarRight$Town", "distance", "(II)I"⟩, 8), (⟨"StarRight", "starsHeldNow", "(I)I"⟩, 13), (⟨"StarRight", "surveyTown", "()V"⟩, 13), (⟨"StarRight$Sight", "holderByLaw", "(LStarRight$Town;II)I"⟩, 3), (⟨"StarRight$Sight", "payTo", "(II)I"⟩, 3), (⟨"StarRight$Acts", "forgetFirst", "()V"⟩, 4), (⟨"StarRight", "payPurses", "(I)I"⟩, 13), (⟨"StarRight", "gainOfFires", "(II)I"⟩, 13), (⟨"StarRight", "gainInAllOrders", "(I)I"⟩, 13), (⟨"StarRight", "rentsByLaw", "(III)I"⟩, 13)]
theorem lw_r1 : ∀ q ∈ lw_privs_1, lw_okq q := List.forall_mem_cons.mpr ⟨lw_p0, List.forall_mem_cons.mpr ⟨lw_p1, List.forall_mem_cons.mpr ⟨lw_p2, List.forall_mem_cons.mpr ⟨lw_p3, List.forall_mem_cons.mpr ⟨lw_p4, List.forall_mem_cons.mpr ⟨lw_p5, List.forall_mem_cons.mpr ⟨lw_p6, List.forall_mem_cons.mpr ⟨lw_p7, List.forall_mem_cons.mpr ⟨lw_p8, List.forall_mem_cons.mpr ⟨lw_p9, List.forall_mem_cons.mpr ⟨lw_p10, List.forall_mem_cons.mpr ⟨lw_p11, List.forall_mem_cons.mpr ⟨lw_p12, List.forall_mem_cons.mpr ⟨lw_p13, List.forall_mem_cons.mpr ⟨lw_p14, List.forall_mem_cons.mpr ⟨lw_p15, fun _ h => absurd h List.not_mem_nil⟩⟩⟩⟩⟩⟩⟩⟩⟩⟩⟩⟩⟩⟩⟩⟩
theorem lw_p16 : lw_okq (⟨"StarRight", "tryHeights", "(IIII)V"⟩, 13) := ⟨⟨by decide +kernel, by decide +kernel⟩, List.mem_of_getElem? (i := 16) (by decide +kernel), List.mem_of_getElem? (i := 559) (by decide +kernel), List.mem_of_getElem? (i := 560) (by decide +kernel)⟩
theorem lw_p17 : lw_okq (⟨"StarRight$Contest", "isAtRest", "(I)Z"⟩, 2) := ⟨⟨by decide +kernel, by decide +kernel⟩, List.mem_of_getElem? (i := 180) (by decide +kernel), List.mem_of_getElem? (i := 577) (by decide +kernel), List.mem_of_getElem? (i := 578) (by decide +kernel)⟩
theorem lw_p18 : lw_okq (⟨"StarRight$Watch", "fits", "(I)Z"⟩, 4) := ⟨⟨by decide +kernel, by decide +kernel⟩, List.mem_of_getElem? (i := 159) (by decide +kernel), List.mem_of_getElem? (i := 616) (by decide +kernel), List.mem_of_getElem? (i := 617) (by decide +kernel)⟩
theorem lw_p19 : lw_okq (⟨"StarRight", "slotOf", "(I)LStarRight$Slot;"⟩, 13) := ⟨⟨by decide +kernel, by decide +kernel⟩, List.mem_of_getElem? (i := 16) (by decide +kernel), List.mem_of_getElem? (i := 667) (by decide +kernel), List.mem_of_getElem? (i := 668) (by decide +kernel)⟩
theorem lw_p20 : lw_okq (⟨"StarRightModel", "readNight", "()I"⟩, 37) := ⟨⟨by decide +kernel, by decide +kernel⟩, List.mem_of_getElem? (i := 675) (by decide +kernel), List.mem_of_getElem? (i := 809) (by decide +kernel), List.mem_of_getElem? (i := 810) (by decide +kernel)⟩
theorem lw_p21 : lw_okq (⟨"StarRightModel", "figure", "(II)I"⟩, 37) := ⟨⟨by decide +kernel, by decide +kernel⟩, List.mem_of_getElem? (i := 675) (by decide +kernel), List.mem_of_getElem? (i := 813) (by decide +kernel), List.mem_of_getElem? (i := 814) (by decide +kernel)⟩
theorem lw_p22 : lw_okq (⟨"StarRightModel", "readPart", "()Z"⟩, 37) := ⟨⟨by decide +kernel, by decide +kernel⟩, List.mem_of_getElem? (i := 675) (by decide +kernel), List.mem_of_getElem? (i := 817) (by decide +kernel), List.mem_of_getElem? (i := 818) (by decide +kernel)⟩
theorem lw_p23 : lw_okq (⟨"StarRightModel", "readRoof", "()Z"⟩, 37) := ⟨⟨by decide +kernel, by decide +kernel⟩, List.mem_of_getElem? (i := 675) (by decide +kernel), List.mem_of_getElem? (i := 821) (by decide +kernel), List.mem_of_getElem? (i := 822) (by decide +kernel)⟩
theorem lw_p24 : lw_okq (⟨"StarRightModel", "isTaken", "(I)Z"⟩, 37) := ⟨⟨by decide +kernel, by decide +kernel⟩, List.mem_of_getElem? (i := 675) (by decide +kernel), List.mem_of_getElem? (i := 825) (by decide +kernel), List.mem_of_getElem? (i := 826) (by decide +kernel)⟩
theorem lw_p25 : lw_okq (⟨"StarRightModel", "readStar", "()Z"⟩, 37) := ⟨⟨by decide +kernel, by decide +kernel⟩, List.mem_of_getElem? (i := 675) (by decide +kernel), List.mem_of_getElem? (i := 829) (by decide +kernel), List.mem_of_getElem? (i := 830) (by decide +kernel)⟩
theorem lw_p26 : lw_okq (⟨"StarRightModel", "all", "()I"⟩, 37) := ⟨⟨by decide +kernel, by decide +kernel⟩, List.mem_of_getElem? (i := 675) (by decide +kernel), List.mem_of_getElem? (i := 841) (by decide +kernel), List.mem_of_getElem? (i := 842) (by decide +kernel)⟩
theorem lw_p27 : lw_okq (⟨"StarRightModel", "isShaded", "([III)Z"⟩, 37) := ⟨⟨by decide +kernel, by decide +kernel⟩, List.mem_of_getElem? (i := 675) (by decide +kernel), List.mem_of_getElem? (i := 845) (by decide +kernel), List.mem_of_getElem? (i := 846) (by decide +kernel)⟩
theorem lw_p28 : lw_okq (⟨"StarRightModel", "noRoof", "(I)Z"⟩, 37) := ⟨⟨by decide +kernel, by decide +kernel⟩, List.mem_of_getElem? (i := 675) (by decide +kernel), List.mem_of_getElem? (i := 859) (by decide +kernel), List.mem_of_getElem? (i := 860) (by decide +kernel)⟩
theorem lw_p29 : lw_okq (⟨"StarRightModel", "doesSee", "([IIII)Z"⟩, 37) := ⟨⟨by decide +kernel, by decide +kernel⟩, List.mem_of_getElem? (i := 675) (by decide +kernel), List.mem_of_getElem? (i := 863) (by decide +kernel), List.mem_of_getElem? (i := 864) (by decide +kernel)⟩
theorem lw_p30 : lw_okq (⟨"StarRightModel", "holder", "([IIIII)I"⟩, 37) := ⟨⟨by decide +kernel, by decide +kernel⟩, List.mem_of_getElem? (i := 675) (by decide +kernel), List.mem_of_getElem? (i := 867) (by decide +kernel), List.mem_of_getElem? (i := 868) (by decide +kernel)⟩
theorem lw_p31 : lw_okq (⟨"StarRightModel", "over", "(II)I"⟩, 37) := ⟨⟨by decide +kernel, by decide +kernel⟩, List.mem_of_getElem? (i := 675) (by decide +kernel), List.mem_of_getElem? (i := 871) (by decide +kernel), List.mem_of_getElem? (i := 872) (by decide +kernel)⟩
def lw_privs_2 : List (MethodName × Nat) := [(⟨"StarRight", "tryHeights", "(IIII)V"⟩, 13), (⟨"StarRight$Contest", "isAtRest", "(I)Z"⟩, 2), (⟨"StarRight$Watch", "fits", "(I)Z"⟩, 4), (⟨"StarRight", "slotOf", "(I)LStarRight$Slot;"⟩, 13), (⟨"StarRightModel", "readNight", "()I"⟩, 37), (⟨"StarRightModel", "figure", "(II)I"⟩, 37), (⟨"StarRightModel", "readPart", "()Z"⟩, 37), (⟨"StarRightModel", "readRoof", "()Z"⟩, 37), (⟨"StarRightModel", "isTaken", "(I)Z"⟩, 37), (⟨"StarRightModel", "readStar", "()Z"⟩, 37), (⟨"StarRightModel", "all", "()I"⟩, 37), (⟨"StarRightModel", "isShaded", "([III)Z"⟩, 37), (⟨"StarRightModel", "noRoof", "(I)Z"⟩, 37), (⟨"StarRightModel", "doesSee", "([IIII)Z"⟩, 37), (⟨"StarRightModel", "holder", "([IIIII)I"⟩, 37), (⟨"StarRightModel", "over", "(II)I"⟩, 37)]
theorem lw_r2 : ∀ q ∈ lw_privs_2, lw_okq q := List.forall_mem_cons.mpr ⟨lw_p16, List.forall_mem_cons.mpr ⟨lw_p17, List.forall_mem_cons.mpr ⟨lw_p18, List.forall_mem_cons.mpr ⟨lw_p19, List.forall_mem_cons.mpr ⟨lw_p20, List.forall_mem_cons.mpr ⟨lw_p21, List.forall_mem_cons.mpr ⟨lw_p22, List.forall_mem_cons.mpr ⟨lw_p23, List.forall_mem_cons.mpr ⟨lw_p24, List.forall_mem_cons.mpr ⟨lw_p25, List.forall_mem_cons.mpr ⟨lw_p26, List.forall_mem_cons.mpr ⟨lw_p27, List.forall_mem_cons.mpr ⟨lw_p28, List.forall_mem_cons.mpr ⟨lw_p29, List.forall_mem_cons.mpr ⟨lw_p30, List.forall_mem_cons.mpr ⟨lw_p31, fun _ h => absurd h List.not_mem_nil⟩⟩⟩⟩⟩⟩⟩⟩⟩⟩⟩⟩⟩⟩⟩⟩
theorem lw_p32 : lw_okq (⟨"StarRightModel", "noStar", "(I)Z"⟩, 37) := ⟨⟨by decide +kernel, by decide +kernel⟩, List.mem_of_getElem? (i := 675) (by decide +kernel), List.mem_of_getElem? (i := 879) (by decide +kernel), List.mem_of_getElem? (i := 880) (by decide +kernel)⟩
theorem lw_p33 : lw_okq (⟨"StarRightModel", "pays", "(IIII)I"⟩, 37) := ⟨⟨by decide +kernel, by decide +kernel⟩, List.mem_of_getElem? (i := 675) (by decide +kernel), List.mem_of_getElem? (i := 883) (by decide +kernel), List.mem_of_getElem? (i := 884) (by decide +kernel)⟩
theorem lw_p34 : lw_okq (⟨"StarRightModel", "note", "()V"⟩, 37) := ⟨⟨by decide +kernel, by decide +kernel⟩, List.mem_of_getElem? (i := 675) (by decide +kernel), List.mem_of_getElem? (i := 897) (by decide +kernel), List.mem_of_getElem? (i := 898) (by decide +kernel)⟩
theorem lw_p35 : lw_okq (⟨"StarRightModel", "rentsOf", "([IIIIII)I"⟩, 37) := ⟨⟨by decide +kernel, by decide +kernel⟩, List.mem_of_getElem? (i := 675) (by decide +kernel), List.mem_of_getElem? (i := 917) (by decide +kernel), List.mem_of_getElem? (i := 918) (by decide +kernel)⟩
theorem lw_p36 : lw_okq (⟨"StarRightModel", "findFires", "(I)V"⟩, 37) := ⟨⟨by decide +kernel, by decide +kernel⟩, List.mem_of_getElem? (i := 675) (by decide +kernel), List.mem_of_getElem? (i := 943) (by decide +kernel), List.mem_of_getElem? (i := 944) (by decide +kernel)⟩
theorem lw_p37 : lw_okq (⟨"StarRightModel", "begin", "()V"⟩, 37) := ⟨⟨by decide +kernel, by decide +kernel⟩, List.mem_of_getElem? (i := 675) (by decide +kernel), List.mem_of_getElem? (i := 947) (by decide +kernel), List.mem_of_getElem? (i := 948) (by decide +kernel)⟩
theorem lw_p38 : lw_okq (⟨"StarRightModel", "doesRest", "(IIIII)Z"⟩, 37) := ⟨⟨by decide +kernel, by decide +kernel⟩, List.mem_of_getElem? (i := 675) (by decide +kernel), List.mem_of_getElem? (i := 976) (by decide +kernel), List.mem_of_getElem? (i := 977) (by decide +kernel)⟩
theorem lw_p39 : lw_okq (⟨"StarRightModel", "layRest", "(IIIII)V"⟩, 37) := ⟨⟨by decide +kernel, by decide +kernel⟩, List.mem_of_getElem? (i := 675) (by decide +kernel), List.mem_of_getElem? (i := 980) (by decide +kernel), List.mem_of_getElem? (i := 981) (by decide +kernel)⟩
theorem lw_p40 : lw_okq (⟨"StarRightModel", "find", "()V"⟩, 37) := ⟨⟨by decide +kernel, by decide +kernel⟩, List.mem_of_getElem? (i := 675) (by decide +kernel), List.mem_of_getElem? (i := 996) (by decide +kernel), List.mem_of_getElem? (i := 997) (by decide +kernel)⟩
def lw_privs_3 : List (MethodName × Nat) := [(⟨"StarRightModel", "noStar", "(I)Z"⟩, 37), (⟨"StarRightModel", "pays", "(IIII)I"⟩, 37), (⟨"StarRightModel", "note", "()V"⟩, 37), (⟨"StarRightModel", "rentsOf", "([IIIIII)I"⟩, 37), (⟨"StarRightModel", "findFires", "(I)V"⟩, 37), (⟨"StarRightModel", "begin", "()V"⟩, 37), (⟨"StarRightModel", "doesRest", "(IIIII)Z"⟩, 37), (⟨"StarRightModel", "layRest", "(IIIII)V"⟩, 37), (⟨"StarRightModel", "find", "()V"⟩, 37)]
theorem lw_r3 : ∀ q ∈ lw_privs_3, lw_okq q := List.forall_mem_cons.mpr ⟨lw_p32, List.forall_mem_cons.mpr ⟨lw_p33, List.forall_mem_cons.mpr ⟨lw_p34, List.forall_mem_cons.mpr ⟨lw_p35, List.forall_mem_cons.mpr ⟨lw_p36, List.forall_mem_cons.mpr ⟨lw_p37, List.forall_mem_cons.mpr ⟨lw_p38, List.forall_mem_cons.mpr ⟨lw_p39, List.forall_mem_cons.mpr ⟨lw_p40, fun _ h => absurd h List.not_mem_nil⟩⟩⟩⟩⟩⟩⟩⟩⟩
def lw_privs : List (MethodName × Nat) := lw_privs_1 ++ (lw_privs_2 ++ (lw_privs_3))
def lw_tbl : List Cond := k2_sels lw_privs ++ tables_1
theorem lw_privs_ok : ∀ q ∈ lw_privs, lw_okq q := by
  show ∀ q ∈ lw_privs_1 ++ (lw_privs_2 ++ (lw_privs_3)), lw_okq q
  exact List.forall_mem_append.mpr ⟨lw_r1, List.forall_mem_append.mpr ⟨lw_r2, lw_r3⟩⟩
/-! ===== BEGIN words of one list among another's, by their places ===== -/
theorem goodIn_r {big : List Cond} (ws : List Cond) (ps : List Nat) (hp : ws = ps.filterMap (fun i => big[i]?)) (h : ws.all goodWord = true) : GoodIn big ws := by
  intro w hw
  have h1 := List.all_eq_true.mp h w hw
  rw [hp] at hw
  obtain ⟨i, -, hi⟩ := List.mem_filterMap.mp hw
  have hm : w ∈ big := by first | exact List.mem_of_getElem? hi | exact List.getElem?_mem hi
  exact ⟨hm, good_of_word h1⟩
theorem goodIn_app {big a b : List Cond} (ha : GoodIn big a) (hb : GoodIn big b) : GoodIn big (a ++ b) := fun w h => (List.mem_append.mp h).elim (ha w) (hb w)
theorem goodIn_ca {big a b : List Cond} {c : Cond} (ha : GoodIn big (c :: a)) (hb : GoodIn big b) : GoodIn big (c :: (a ++ b)) := fun w h => (List.mem_cons.mp h).elim (fun e => ha w (List.mem_cons.mpr (Or.inl e))) (fun h => (List.mem_append.mp h).elim (fun h => ha w (List.mem_cons.mpr (Or.inr h))) (hb w))
theorem goodIn_sub {big ws : List Cond} (hm : ∀ w ∈ ws, w ∈ big) (h : ws.all goodWord = true) : GoodIn big ws := fun w hw => ⟨hm w hw, good_of_word (List.all_eq_true.mp h w hw)⟩
/-! ===== END ===== -/

/-! ===== BEGIN printed: names, fields, word lists, decode rows ===== -/
def RX0 : String := "StarRight$Acts"
def TX0 : u_T := fun k => match k with
  | 0 => ("StarRight$Acts", "kind", "[I", true)
  | 1 => ("StarRight$Acts", "roof", "[I", true)
  | 2 => ("StarRight$Acts", "was", "[I", true)
  | _ => ("StarRight$Acts", "count", "I", false)
def tyX0 : Nat → FieldType := fun k => match k with
  | 0 => .array .int
  | 1 => .array .int
  | 2 => .array .int
  | _ => .int
abbrev wsX00 : List Cond := u_ws RX0 TX0 4
theorem nmX0 : ∀ a, a < 4 → ∀ b, b < 4 → a ≠ b → (TX0 a).2.1 ≠ (TX0 b).2.1 := by decide +kernel
theorem tyX0_ok : ∀ k, k < 4 → parseFieldDescriptor (TX0 k).2.2.1 = some (tyX0 k) := by decide +kernel
abbrev cX0_init : ByteArray := prog_2_method_1_code
def yX0_init : MethodName := ⟨RX0, "<init>", "()V"⟩
abbrev cX0_clear : ByteArray := prog_2_method_2_code
def yX0_clear : MethodName := ⟨RX0, "clear", "()V"⟩
abbrev cX0_add : ByteArray := prog_2_method_3_code
def yX0_add : MethodName := ⟨RX0, "add", "(III)V"⟩
abbrev cX0_forgetFirst : ByteArray := prog_2_method_4_code
def yX0_forgetFirst : MethodName := ⟨RX0, "forgetFirst", "()V"⟩
abbrev cX0_takeLast : ByteArray := prog_2_method_5_code
def yX0_takeLast : MethodName := ⟨RX0, "takeLast", "()I"⟩
def RX1 : String := "StarRight$Contest"
def TX1 : u_T := fun k => match k with
  | 0 => ("StarRight$Contest", "gain", "[I", true)
  | _ => ("StarRight$Contest", "otherGain", "[I", true)
def tyX1 : Nat → FieldType := fun k => match k with
  | 0 => .array .int
  | _ => .array .int
abbrev wsX10 : List Cond := u_ws RX1 TX1 2
theorem nmX1 : ∀ a, a < 2 → ∀ b, b < 2 → a ≠ b → (TX1 a).2.1 ≠ (TX1 b).2.1 := by decide +kernel
theorem tyX1_ok : ∀ k, k < 2 → parseFieldDescriptor (TX1 k).2.2.1 = some (tyX1 k) := by decide +kernel
abbrev cX1_init : ByteArray := prog_3_method_1_code
def yX1_init : MethodName := ⟨RX1, "<init>", "()V"⟩
abbrev cX1_heightOfFirst : ByteArray := prog_3_method_2_code
def yX1_heightOfFirst : MethodName := ⟨RX1, "heightOfFirst", "(I)I"⟩
abbrev cX1_heightOfOther : ByteArray := prog_3_method_3_code
def yX1_heightOfOther : MethodName := ⟨RX1, "heightOfOther", "(I)I"⟩
abbrev cX1_put : ByteArray := prog_3_method_4_code
def yX1_put : MethodName := ⟨RX1, "put", "(III)V"⟩
abbrev cX1_isAtRest : ByteArray := prog_3_method_5_code
def yX1_isAtRest : MethodName := ⟨RX1, "isAtRest", "(I)Z"⟩
abbrev cX1_pairsAtRest : ByteArray := prog_3_method_6_code
def yX1_pairsAtRest : MethodName := ⟨RX1, "pairsAtRest", "()I"⟩
abbrev cX1_firstAtRest : ByteArray := prog_3_method_7_code
def yX1_firstAtRest : MethodName := ⟨RX1, "firstAtRest", "()I"⟩
def RX2 : String := "StarRight$Sight"
def TX2 : u_T := fun k => match k with
  | 0 => ("StarRight$Sight", "seen", "[I", true)
  | 1 => ("StarRight$Sight", "smoke", "[I", true)
  | _ => ("StarRight$Sight", "holder", "[I", true)
def tyX2 : Nat → FieldType := fun k => match k with
  | 0 => .array .int
  | 1 => .array .int
  | _ => .array .int
abbrev wsX20 : List Cond := u_ws RX2 TX2 3
theorem nmX2 : ∀ a, a < 3 → ∀ b, b < 3 → a ≠ b → (TX2 a).2.1 ≠ (TX2 b).2.1 := by decide +kernel
theorem tyX2_ok : ∀ k, k < 3 → parseFieldDescriptor (TX2 k).2.2.1 = some (tyX2 k) := by decide +kernel
abbrev cX2_init : ByteArray := prog_4_method_1_code
def yX2_init : MethodName := ⟨RX2, "<init>", "()V"⟩
abbrev cX2_survey : ByteArray := prog_4_method_2_code
def yX2_survey : MethodName := ⟨RX2, "survey", "(LStarRight$Town;II)V"⟩
abbrev cX2_holderByLaw : ByteArray := prog_4_method_3_code
def yX2_holderByLaw : MethodName := ⟨RX2, "holderByLaw", "(LStarRight$Town;II)I"⟩
abbrev cX2_cellsSeenBy : ByteArray := prog_4_method_4_code
def yX2_cellsSeenBy : MethodName := ⟨RX2, "cellsSeenBy", "(I)I"⟩
abbrev cX2_holderOver : ByteArray := prog_4_method_5_code
def yX2_holderOver : MethodName := ⟨RX2, "holderOver", "(I)I"⟩
abbrev cX2_holders : ByteArray := prog_4_method_6_code
def yX2_holders : MethodName := ⟨RX2, "holders", "(LStarRight$Stars;II)I"⟩
abbrev cX2_payOf : ByteArray := prog_4_method_7_code
def yX2_payOf : MethodName := ⟨RX2, "payOf", "(LStarRight$Stars;II)I"⟩
abbrev cX2_payTo : ByteArray := prog_4_method_8_code
def yX2_payTo : MethodName := ⟨RX2, "payTo", "(II)I"⟩
abbrev cX2_paidAt : ByteArray := prog_4_method_9_code
def yX2_paidAt : MethodName := ⟨RX2, "paidAt", "(LStarRight$Stars;II)I"⟩
abbrev cX2_takings : ByteArray := prog_4_method_10_code
def yX2_takings : MethodName := ⟨RX2, "takings", "(LStarRight$Town;LStarRight$Stars;II)I"⟩
def RX3 : String := "StarRight$Slot"
def TX3 : u_T := fun k => match k with
  | 0 => ("StarRight$Slot", "town", "LStarRight$Town;", true)
  | _ => ("StarRight$Slot", "kept", "Z", false)
def tyX3 : Nat → FieldType := fun k => match k with
  | 0 => .object "StarRight$Town"
  | _ => .boolean
abbrev wsX30 : List Cond := u_ws RX3 TX3 2
theorem nmX3 : ∀ a, a < 2 → ∀ b, b < 2 → a ≠ b → (TX3 a).2.1 ≠ (TX3 b).2.1 := by decide +kernel
theorem tyX3_ok : ∀ k, k < 2 → parseFieldDescriptor (TX3 k).2.2.1 = some (tyX3 k) := by decide +kernel
abbrev cX3_init : ByteArray := prog_5_method_1_code
def yX3_init : MethodName := ⟨RX3, "<init>", "()V"⟩
def RX4 : String := "StarRight$Stars"
def TX4 : u_T := fun k => match k with
  | 0 => ("StarRight$Stars", "rise", "[I", true)
  | 1 => ("StarRight$Stars", "speed", "[I", true)
  | 2 => ("StarRight$Stars", "worth", "[I", true)
  | _ => ("StarRight$Stars", "count", "I", false)
def tyX4 : Nat → FieldType := fun k => match k with
  | 0 => .array .int
  | 1 => .array .int
  | 2 => .array .int
  | _ => .int
abbrev wsX40 : List Cond := u_ws RX4 TX4 4
theorem nmX4 : ∀ a, a < 4 → ∀ b, b < 4 → a ≠ b → (TX4 a).2.1 ≠ (TX4 b).2.1 := by decide +kernel
theorem tyX4_ok : ∀ k, k < 4 → parseFieldDescriptor (TX4 k).2.2.1 = some (tyX4 k) := by decide +kernel
abbrev cX4_init : ByteArray := prog_6_method_1_code
def yX4_init : MethodName := ⟨RX4, "<init>", "()V"⟩
abbrev cX4_clear : ByteArray := prog_6_method_2_code
def yX4_clear : MethodName := ⟨RX4, "clear", "()V"⟩
abbrev cX4_addStar : ByteArray := prog_6_method_3_code
def yX4_addStar : MethodName := ⟨RX4, "addStar", "(III)V"⟩
abbrev cX4_hasStar : ByteArray := prog_6_method_4_code
def yX4_hasStar : MethodName := ⟨RX4, "hasStar", "(I)Z"⟩
abbrev cX4_cellAt : ByteArray := prog_6_method_5_code
def yX4_cellAt : MethodName := ⟨RX4, "cellAt", "(II)I"⟩
abbrev cX4_walkedTo : ByteArray := prog_6_method_6_code
def yX4_walkedTo : MethodName := ⟨RX4, "walkedTo", "(III)I"⟩
abbrev cX4_cellsPassed : ByteArray := prog_6_method_7_code
def yX4_cellsPassed : MethodName := ⟨RX4, "cellsPassed", "(III)I"⟩
def RX5 : String := "StarRight$Text"
def TX5 : u_T := fun k => match k with
  | 0 => ("StarRight$Text", "bytes", "[I", true)
  | _ => ("StarRight$Text", "length", "I", false)
def tyX5 : Nat → FieldType := fun k => match k with
  | 0 => .array .int
  | _ => .int
abbrev wsX50 : List Cond := u_ws RX5 TX5 2
theorem nmX5 : ∀ a, a < 2 → ∀ b, b < 2 → a ≠ b → (TX5 a).2.1 ≠ (TX5 b).2.1 := by decide +kernel
theorem tyX5_ok : ∀ k, k < 2 → parseFieldDescriptor (TX5 k).2.2.1 = some (tyX5 k) := by decide +kernel
abbrev cX5_init : ByteArray := prog_7_method_1_code
def yX5_init : MethodName := ⟨RX5, "<init>", "()V"⟩
abbrev cX5_isFull : ByteArray := prog_7_method_2_code
def yX5_isFull : MethodName := ⟨RX5, "isFull", "()Z"⟩
abbrev cX5_add : ByteArray := prog_7_method_3_code
def yX5_add : MethodName := ⟨RX5, "add", "(I)I"⟩
abbrev cX5_clear : ByteArray := prog_7_method_4_code
def yX5_clear : MethodName := ⟨RX5, "clear", "()I"⟩
abbrev cX5_byteAt : ByteArray := prog_7_method_5_code
def yX5_byteAt : MethodName := ⟨RX5, "byteAt", "(I)I"⟩
abbrev cX5_digitAt : ByteArray := prog_7_method_6_code
def yX5_digitAt : MethodName := ⟨RX5, "digitAt", "(I)I"⟩
abbrev cX5_hasDigit : ByteArray := prog_7_method_7_code
def yX5_hasDigit : MethodName := ⟨RX5, "hasDigit", "(III)Z"⟩
abbrev cX5_firstFault : ByteArray := prog_7_method_8_code
def yX5_firstFault : MethodName := ⟨RX5, "firstFault", "()I"⟩
abbrev cX5_faultInRoof : ByteArray := prog_7_method_9_code
def yX5_faultInRoof : MethodName := ⟨RX5, "faultInRoof", "(II)I"⟩
abbrev cX5_faultInStar : ByteArray := prog_7_method_10_code
def yX5_faultInStar : MethodName := ⟨RX5, "faultInStar", "(I)I"⟩
abbrev cX5_law : ByteArray := prog_7_method_11_code
def yX5_law : MethodName := ⟨RX5, "law", "()I"⟩
abbrev cX5_tellParts : ByteArray := prog_7_method_12_code
def yX5_tellParts : MethodName := ⟨RX5, "tellParts", "(LStarRight$Town;LStarRight$Stars;)V"⟩
def RX6 : String := "StarRight$Town"
def TX6 : u_T := fun k => match k with
  | 0 => ("StarRight$Town", "cell", "[I", true)
  | 1 => ("StarRight$Town", "height", "[I", true)
  | 2 => ("StarRight$Town", "owner", "[I", true)
  | 3 => ("StarRight$Town", "purses", "[I", true)
  | 4 => ("StarRight$Town", "roofs", "I", false)
  | 5 => ("StarRight$Town", "smoking", "I", false)
  | 6 => ("StarRight$Town", "now", "I", false)
  | _ => ("StarRight$Town", "cloudy", "Z", false)
def tyX6 : Nat → FieldType := fun k => match k with
  | 0 => .array .int
  | 1 => .array .int
  | 2 => .array .int
  | 3 => .array .int
  | 4 => .int
  | 5 => .int
  | 6 => .int
  | _ => .boolean
abbrev wsX60 : List Cond := u_ws RX6 TX6 8
theorem nmX6 : ∀ a, a < 8 → ∀ b, b < 8 → a ≠ b → (TX6 a).2.1 ≠ (TX6 b).2.1 := by decide +kernel
theorem tyX6_ok : ∀ k, k < 8 → parseFieldDescriptor (TX6 k).2.2.1 = some (tyX6 k) := by decide +kernel
abbrev cX6_init : ByteArray := prog_8_method_1_code
def yX6_init : MethodName := ⟨RX6, "<init>", "()V"⟩
abbrev cX6_clear : ByteArray := prog_8_method_2_code
def yX6_clear : MethodName := ⟨RX6, "clear", "()V"⟩
abbrev cX6_copyOf : ByteArray := prog_8_method_3_code
def yX6_copyOf : MethodName := ⟨RX6, "copyOf", "(LStarRight$Town;)V"⟩
abbrev cX6_addRoof : ByteArray := prog_8_method_4_code
def yX6_addRoof : MethodName := ⟨RX6, "addRoof", "(IIII)V"⟩
abbrev cX6_hasRoof : ByteArray := prog_8_method_5_code
def yX6_hasRoof : MethodName := ⟨RX6, "hasRoof", "(I)Z"⟩
abbrev cX6_setHeight : ByteArray := prog_8_method_6_code
def yX6_setHeight : MethodName := ⟨RX6, "setHeight", "(II)V"⟩
abbrev cX6_setOwner : ByteArray := prog_8_method_7_code
def yX6_setOwner : MethodName := ⟨RX6, "setOwner", "(II)V"⟩
abbrev cX6_everyRoof : ByteArray := prog_8_method_8_code
def yX6_everyRoof : MethodName := ⟨RX6, "everyRoof", "()I"⟩
abbrev cX6_roofsOf : ByteArray := prog_8_method_9_code
def yX6_roofsOf : MethodName := ⟨RX6, "roofsOf", "(I)I"⟩
abbrev cX6_shadedRoofs : ByteArray := prog_8_method_10_code
def yX6_shadedRoofs : MethodName := ⟨RX6, "shadedRoofs", "()I"⟩
abbrev cX6_distance : ByteArray := prog_8_method_11_code
def yX6_distance : MethodName := ⟨RX6, "distance", "(II)I"⟩
abbrev cX6_isShaded : ByteArray := prog_8_method_12_code
def yX6_isShaded : MethodName := ⟨RX6, "isShaded", "(II)Z"⟩
abbrev cX6_cellsSeen : ByteArray := prog_8_method_13_code
def yX6_cellsSeen : MethodName := ⟨RX6, "cellsSeen", "(II)I"⟩
abbrev cX6_smokeAround : ByteArray := prog_8_method_14_code
def yX6_smokeAround : MethodName := ⟨RX6, "smokeAround", "(II)I"⟩
abbrev cX6_goesAhead : ByteArray := prog_8_method_15_code
def yX6_goesAhead : MethodName := ⟨RX6, "goesAhead", "(IIII)Z"⟩
def RX7 : String := "StarRight$Watch"
def TX7 : u_T := fun k => match k with
  | 0 => ("StarRight$Watch", "cell", "[I", true)
  | 1 => ("StarRight$Watch", "hour", "[I", true)
  | 2 => ("StarRight$Watch", "shone", "[Z", true)
  | _ => ("StarRight$Watch", "count", "I", false)
def tyX7 : Nat → FieldType := fun k => match k with
  | 0 => .array .int
  | 1 => .array .int
  | 2 => .array .boolean
  | _ => .int
abbrev wsX70 : List Cond := u_ws RX7 TX7 4
theorem nmX7 : ∀ a, a < 4 → ∀ b, b < 4 → a ≠ b → (TX7 a).2.1 ≠ (TX7 b).2.1 := by decide +kernel
theorem tyX7_ok : ∀ k, k < 4 → parseFieldDescriptor (TX7 k).2.2.1 = some (tyX7 k) := by decide +kernel
abbrev cX7_init : ByteArray := prog_9_method_1_code
def yX7_init : MethodName := ⟨RX7, "<init>", "()V"⟩
abbrev cX7_isFull : ByteArray := prog_9_method_2_code
def yX7_isFull : MethodName := ⟨RX7, "isFull", "()Z"⟩
abbrev cX7_add : ByteArray := prog_9_method_3_code
def yX7_add : MethodName := ⟨RX7, "add", "(IIZ)I"⟩
abbrev cX7_clear : ByteArray := prog_9_method_4_code
def yX7_clear : MethodName := ⟨RX7, "clear", "()I"⟩
abbrev cX7_isOver : ByteArray := prog_9_method_5_code
def yX7_isOver : MethodName := ⟨RX7, "isOver", "(III)Z"⟩
abbrev cX7_fits : ByteArray := prog_9_method_6_code
def yX7_fits : MethodName := ⟨RX7, "fits", "(I)Z"⟩
abbrev cX7_fittingStars : ByteArray := prog_9_method_7_code
def yX7_fittingStars : MethodName := ⟨RX7, "fittingStars", "()J"⟩
abbrev cX7_firstOf : ByteArray := prog_9_method_8_code
def yX7_firstOf : MethodName := ⟨RX7, "firstOf", "(J)I"⟩
abbrev cX7_bestLook : ByteArray := prog_9_method_9_code
def yX7_bestLook : MethodName := ⟨RX7, "bestLook", "()I"⟩
abbrev cX7_greaterPart : ByteArray := prog_9_method_10_code
def yX7_greaterPart : MethodName := ⟨RX7, "greaterPart", "(JII)I"⟩
def RX8 : String := "StarRight"
def TX8 : u_T := fun k => match k with
  | 0 => ("StarRight", "text", "LStarRight$Text;", true)
  | 1 => ("StarRight", "stars", "LStarRight$Stars;", true)
  | 2 => ("StarRight", "town", "LStarRight$Town;", true)
  | 3 => ("StarRight", "trial", "LStarRight$Town;", true)
  | 4 => ("StarRight", "slot0", "LStarRight$Slot;", true)
  | 5 => ("StarRight", "slot1", "LStarRight$Slot;", true)
  | 6 => ("StarRight", "sight", "LStarRight$Sight;", true)
  | 7 => ("StarRight", "acts", "LStarRight$Acts;", true)
  | 8 => ("StarRight", "watch", "LStarRight$Watch;", true)
  | 9 => ("StarRight", "contest", "LStarRight$Contest;", true)
  | 10 => ("StarRight", "rentsBySet", "[I", true)
  | 11 => ("StarRight", "law", "I", false)
  | _ => ("StarRight", "theSeed", "J", false)
def tyX8 : Nat → FieldType := fun k => match k with
  | 0 => .object "StarRight$Text"
  | 1 => .object "StarRight$Stars"
  | 2 => .object "StarRight$Town"
  | 3 => .object "StarRight$Town"
  | 4 => .object "StarRight$Slot"
  | 5 => .object "StarRight$Slot"
  | 6 => .object "StarRight$Sight"
  | 7 => .object "StarRight$Acts"
  | 8 => .object "StarRight$Watch"
  | 9 => .object "StarRight$Contest"
  | 10 => .array .int
  | 11 => .int
  | _ => .long
abbrev wsX80 : List Cond := u_ws RX8 TX8 13
theorem nmX8 : ∀ a, a < 13 → ∀ b, b < 13 → a ≠ b → (TX8 a).2.1 ≠ (TX8 b).2.1 := by decide +kernel
theorem tyX8_ok : ∀ k, k < 13 → parseFieldDescriptor (TX8 k).2.2.1 = some (tyX8 k) := by decide +kernel
abbrev cX8_init : ByteArray := prog_1_method_1_code
def yX8_init : MethodName := ⟨RX8, "<init>", "()V"⟩
abbrev cX8_write : ByteArray := prog_1_method_2_code
def yX8_write : MethodName := ⟨RX8, "write", "(I)I"⟩
abbrev cX8_wipe : ByteArray := prog_1_method_3_code
def yX8_wipe : MethodName := ⟨RX8, "wipe", "()I"⟩
abbrev cX8_fault : ByteArray := prog_1_method_4_code
def yX8_fault : MethodName := ⟨RX8, "fault", "()I"⟩
abbrev cX8_night : ByteArray := prog_1_method_5_code
def yX8_night : MethodName := ⟨RX8, "night", "()I"⟩
abbrev cX8_about : ByteArray := prog_1_method_6_code
def yX8_about : MethodName := ⟨RX8, "about", "(I)I"⟩
abbrev cX8_roof : ByteArray := prog_1_method_7_code
def yX8_roof : MethodName := ⟨RX8, "roof", "(II)I"⟩
abbrev cX8_starsHeldNow : ByteArray := prog_1_method_8_code
def yX8_starsHeldNow : MethodName := ⟨RX8, "starsHeldNow", "(I)I"⟩
abbrev cX8_star : ByteArray := prog_1_method_9_code
def yX8_star : MethodName := ⟨RX8, "star", "(II)I"⟩
abbrev cX8_purse : ByteArray := prog_1_method_10_code
def yX8_purse : MethodName := ⟨RX8, "purse", "(I)I"⟩
abbrev cX8_isLandlord : ByteArray := prog_1_method_11_code
def yX8_isLandlord : MethodName := ⟨RX8, "isLandlord", "(I)Z"⟩
abbrev cX8_surveyTown : ByteArray := prog_1_method_12_code
def yX8_surveyTown : MethodName := ⟨RX8, "surveyTown", "()V"⟩
abbrev cX8_build : ByteArray := prog_1_method_13_code
def yX8_build : MethodName := ⟨RX8, "build", "(II)I"⟩
abbrev cX8_light : ByteArray := prog_1_method_14_code
def yX8_light : MethodName := ⟨RX8, "light", "(I)I"⟩
abbrev cX8_sell : ByteArray := prog_1_method_15_code
def yX8_sell : MethodName := ⟨RX8, "sell", "(II)I"⟩
abbrev cX8_clouds : ByteArray := prog_1_method_16_code
def yX8_clouds : MethodName := ⟨RX8, "clouds", "()I"⟩
abbrev cX8_hour : ByteArray := prog_1_method_17_code
def yX8_hour : MethodName := ⟨RX8, "hour", "()I"⟩
abbrev cX8_undo : ByteArray := prog_1_method_18_code
def yX8_undo : MethodName := ⟨RX8, "undo", "()I"⟩
abbrev cX8_payPurses : ByteArray := prog_1_method_19_code
def yX8_payPurses : MethodName := ⟨RX8, "payPurses", "(I)I"⟩
abbrev cX8_rents : ByteArray := prog_1_method_20_code
def yX8_rents : MethodName := ⟨RX8, "rents", "(II)I"⟩
abbrev cX8_hold : ByteArray := prog_1_method_21_code
def yX8_hold : MethodName := ⟨RX8, "hold", "(II)I"⟩
abbrev cX8_isSpan : ByteArray := prog_1_method_22_code
def yX8_isSpan : MethodName := ⟨RX8, "isSpan", "(II)Z"⟩
abbrev cX8_fires : ByteArray := prog_1_method_23_code
def yX8_fires : MethodName := ⟨RX8, "fires", "(II)I"⟩
abbrev cX8_gainOfFires : ByteArray := prog_1_method_24_code
def yX8_gainOfFires : MethodName := ⟨RX8, "gainOfFires", "(II)I"⟩
abbrev cX8_share : ByteArray := prog_1_method_25_code
def yX8_share : MethodName := ⟨RX8, "share", "(IIZ)I"⟩
abbrev cX8_gainInAllOrders : ByteArray := prog_1_method_26_code
def yX8_gainInAllOrders : MethodName := ⟨RX8, "gainInAllOrders", "(I)I"⟩
abbrev cX8_orders : ByteArray := prog_1_method_27_code
def yX8_orders : MethodName := ⟨RX8, "orders", "(I)I"⟩
abbrev cX8_bestLaw : ByteArray := prog_1_method_28_code
def yX8_bestLaw : MethodName := ⟨RX8, "bestLaw", "(II)I"⟩
abbrev cX8_rentsByLaw : ByteArray := prog_1_method_29_code
def yX8_rentsByLaw : MethodName := ⟨RX8, "rentsByLaw", "(III)I"⟩
abbrev cX8_starless : ByteArray := prog_1_method_30_code
def yX8_starless : MethodName := ⟨RX8, "starless", "(I)I"⟩
abbrev cX8_rests : ByteArray := prog_1_method_31_code
def yX8_rests : MethodName := ⟨RX8, "rests", "(IIII)I"⟩
abbrev cX8_tryHeights : ByteArray := prog_1_method_32_code
def yX8_tryHeights : MethodName := ⟨RX8, "tryHeights", "(IIII)V"⟩
abbrev cX8_shine : ByteArray := prog_1_method_33_code
def yX8_shine : MethodName := ⟨RX8, "shine", "(IIZ)I"⟩
abbrev cX8_unshine : ByteArray := prog_1_method_34_code
def yX8_unshine : MethodName := ⟨RX8, "unshine", "()I"⟩
abbrev cX8_found : ByteArray := prog_1_method_35_code
def yX8_found : MethodName := ⟨RX8, "found", "(I)I"⟩
abbrev cX8_look : ByteArray := prog_1_method_36_code
def yX8_look : MethodName := ⟨RX8, "look", "()I"⟩
abbrev cX8_chance : ByteArray := prog_1_method_37_code
def yX8_chance : MethodName := ⟨RX8, "chance", "(IIIZ)I"⟩
abbrev cX8_fraction : ByteArray := prog_1_method_38_code
def yX8_fraction : MethodName := ⟨RX8, "fraction", "(IIZ)I"⟩
abbrev cX8_commonDivisor : ByteArray := prog_1_method_39_code
def yX8_commonDivisor : MethodName := ⟨RX8, "commonDivisor", "(II)I"⟩
abbrev cX8_seed : ByteArray := prog_1_method_40_code
def yX8_seed : MethodName := ⟨RX8, "seed", "(J)J"⟩
abbrev cX8_nights : ByteArray := prog_1_method_41_code
def yX8_nights : MethodName := ⟨RX8, "nights", "(I)I"⟩
abbrev cX8_keep : ByteArray := prog_1_method_42_code
def yX8_keep : MethodName := ⟨RX8, "keep", "(I)I"⟩
abbrev cX8_again : ByteArray := prog_1_method_43_code
def yX8_again : MethodName := ⟨RX8, "again", "(I)I"⟩
abbrev cX8_slotOf : ByteArray := prog_1_method_44_code
def yX8_slotOf : MethodName := ⟨RX8, "slotOf", "(I)LStarRight$Slot;"⟩
def RX9 : String := "StarRightModel"
def TX9 : u_T := fun k => match k with
  | 0 => ("StarRightModel", "thrown", "I", false)
  | 1 => ("StarRightModel", "text", "[I", true)
  | 2 => ("StarRightModel", "textSize", "I", false)
  | 3 => ("StarRightModel", "place", "I", false)
  | 4 => ("StarRightModel", "law", "I", false)
  | 5 => ("StarRightModel", "roofs", "I", false)
  | 6 => ("StarRightModel", "stars", "I", false)
  | 7 => ("StarRightModel", "cell", "[I", true)
  | 8 => ("StarRightModel", "rise", "[I", true)
  | 9 => ("StarRightModel", "speed", "[I", true)
  | 10 => ("StarRightModel", "worth", "[I", true)
  | 11 => ("StarRightModel", "readLaw", "I", false)
  | 12 => ("StarRightModel", "readRoofs", "I", false)
  | 13 => ("StarRightModel", "readStars", "I", false)
  | 14 => ("StarRightModel", "readRoof", "[I", true)
  | 15 => ("StarRightModel", "readStar", "[I", true)
  | 16 => ("StarRightModel", "page", "[I", true)
  | 17 => ("StarRightModel", "trial", "[I", true)
  | 18 => ("StarRightModel", "book", "[I", true)
  | 19 => ("StarRightModel", "acts", "I", false)
  | 20 => ("StarRightModel", "kept", "[I", true)
  | 21 => ("StarRightModel", "isKept", "[Z", true)
  | 22 => ("StarRightModel", "seen", "I", false)
  | 23 => ("StarRightModel", "seenCell", "[I", true)
  | 24 => ("StarRightModel", "seenHour", "[I", true)
  | 25 => ("StarRightModel", "seenShone", "[Z", true)
  | 26 => ("StarRightModel", "seed", "J", false)
  | 27 => ("StarRightModel", "value", "[I", true)
  | 28 => ("StarRightModel", "left", "[Z", true)
  | 29 => ("StarRightModel", "foundMany", "I", false)
  | 30 => ("StarRightModel", "foundFirst", "I", false)
  | 31 => ("StarRightModel", "restMany", "I", false)
  | 32 => ("StarRightModel", "restFirst", "I", false)
  | 33 => ("StarRightModel", "restOne", "I", false)
  | 34 => ("StarRightModel", "restTwo", "I", false)
  | 35 => ("StarRightModel", "fireBest", "I", false)
  | _ => ("StarRightModel", "fireMost", "I", false)
def tyX9 : Nat → FieldType := fun k => match k with
  | 0 => .int
  | 1 => .array .int
  | 2 => .int
  | 3 => .int
  | 4 => .int
  | 5 => .int
  | 6 => .int
  | 7 => .array .int
  | 8 => .array .int
  | 9 => .array .int
  | 10 => .array .int
  | 11 => .int
  | 12 => .int
  | 13 => .int
  | 14 => .array .int
  | 15 => .array .int
  | 16 => .array .int
  | 17 => .array .int
  | 18 => .array .int
  | 19 => .int
  | 20 => .array .int
  | 21 => .array .boolean
  | 22 => .int
  | 23 => .array .int
  | 24 => .array .int
  | 25 => .array .boolean
  | 26 => .long
  | 27 => .array .int
  | 28 => .array .boolean
  | 29 => .int
  | 30 => .int
  | 31 => .int
  | 32 => .int
  | 33 => .int
  | 34 => .int
  | 35 => .int
  | _ => .int
abbrev wsX90 : List Cond := u_ws RX9 TX9 37
theorem nmX9 : ∀ a, a < 37 → ∀ b, b < 37 → a ≠ b → (TX9 a).2.1 ≠ (TX9 b).2.1 := by decide +kernel
theorem tyX9_ok : ∀ k, k < 37 → parseFieldDescriptor (TX9 k).2.2.1 = some (tyX9 k) := by decide +kernel
abbrev cX9_init : ByteArray := prog_11_method_1_code
def yX9_init : MethodName := ⟨RX9, "<init>", "()V"⟩
abbrev cX9_in : ByteArray := prog_11_method_3_code
def yX9_in : MethodName := ⟨RX9, "in", "(JJJ)Z"⟩
abbrev cX9_has : ByteArray := prog_11_method_4_code
def yX9_has : MethodName := ⟨RX9, "has", "(II)Z"⟩
abbrev cX9_many : ByteArray := prog_11_method_5_code
def yX9_many : MethodName := ⟨RX9, "many", "(I)I"⟩
abbrev cX9_far : ByteArray := prog_11_method_6_code
def yX9_far : MethodName := ⟨RX9, "far", "(II)I"⟩
abbrev cX9_noRoof : ByteArray := prog_11_method_7_code
def yX9_noRoof : MethodName := ⟨RX9, "noRoof", "(I)Z"⟩
abbrev cX9_noStar : ByteArray := prog_11_method_8_code
def yX9_noStar : MethodName := ⟨RX9, "noStar", "(I)Z"⟩
abbrev cX9_all : ByteArray := prog_11_method_9_code
def yX9_all : MethodName := ⟨RX9, "all", "()I"⟩
abbrev cX9_write : ByteArray := prog_11_method_10_code
def yX9_write : MethodName := ⟨RX9, "write", "(I)I"⟩
abbrev cX9_wipe : ByteArray := prog_11_method_11_code
def yX9_wipe : MethodName := ⟨RX9, "wipe", "()I"⟩
abbrev cX9_figure : ByteArray := prog_11_method_12_code
def yX9_figure : MethodName := ⟨RX9, "figure", "(II)I"⟩
abbrev cX9_isTaken : ByteArray := prog_11_method_13_code
def yX9_isTaken : MethodName := ⟨RX9, "isTaken", "(I)Z"⟩
abbrev cX9_readRoof : ByteArray := prog_11_method_14_code
def yX9_readRoof : MethodName := ⟨RX9, "readRoof", "()Z"⟩
abbrev cX9_readStar : ByteArray := prog_11_method_15_code
def yX9_readStar : MethodName := ⟨RX9, "readStar", "()Z"⟩
abbrev cX9_readPart : ByteArray := prog_11_method_16_code
def yX9_readPart : MethodName := ⟨RX9, "readPart", "()Z"⟩
abbrev cX9_readNight : ByteArray := prog_11_method_17_code
def yX9_readNight : MethodName := ⟨RX9, "readNight", "()I"⟩
abbrev cX9_fault : ByteArray := prog_11_method_18_code
def yX9_fault : MethodName := ⟨RX9, "fault", "()I"⟩
abbrev cX9_night : ByteArray := prog_11_method_19_code
def yX9_night : MethodName := ⟨RX9, "night", "()I"⟩
abbrev cX9_isShaded : ByteArray := prog_11_method_20_code
def yX9_isShaded : MethodName := ⟨RX9, "isShaded", "([III)Z"⟩
abbrev cX9_doesSee : ByteArray := prog_11_method_21_code
def yX9_doesSee : MethodName := ⟨RX9, "doesSee", "([IIII)Z"⟩
abbrev cX9_over : ByteArray := prog_11_method_22_code
def yX9_over : MethodName := ⟨RX9, "over", "(II)I"⟩
abbrev cX9_holder : ByteArray := prog_11_method_23_code
def yX9_holder : MethodName := ⟨RX9, "holder", "([IIIII)I"⟩
abbrev cX9_pays : ByteArray := prog_11_method_24_code
def yX9_pays : MethodName := ⟨RX9, "pays", "(IIII)I"⟩
abbrev cX9_rentsOf : ByteArray := prog_11_method_25_code
def yX9_rentsOf : MethodName := ⟨RX9, "rentsOf", "([IIIIII)I"⟩
abbrev cX9_about : ByteArray := prog_11_method_26_code
def yX9_about : MethodName := ⟨RX9, "about", "(I)I"⟩
abbrev cX9_roof : ByteArray := prog_11_method_27_code
def yX9_roof : MethodName := ⟨RX9, "roof", "(II)I"⟩
abbrev cX9_star : ByteArray := prog_11_method_28_code
def yX9_star : MethodName := ⟨RX9, "star", "(II)I"⟩
abbrev cX9_purse : ByteArray := prog_11_method_29_code
def yX9_purse : MethodName := ⟨RX9, "purse", "(I)I"⟩
abbrev cX9_note : ByteArray := prog_11_method_30_code
def yX9_note : MethodName := ⟨RX9, "note", "()V"⟩
abbrev cX9_build : ByteArray := prog_11_method_31_code
def yX9_build : MethodName := ⟨RX9, "build", "(II)I"⟩
abbrev cX9_light : ByteArray := prog_11_method_32_code
def yX9_light : MethodName := ⟨RX9, "light", "(I)I"⟩
abbrev cX9_sell : ByteArray := prog_11_method_33_code
def yX9_sell : MethodName := ⟨RX9, "sell", "(II)I"⟩
abbrev cX9_clouds : ByteArray := prog_11_method_34_code
def yX9_clouds : MethodName := ⟨RX9, "clouds", "()I"⟩
abbrev cX9_hour : ByteArray := prog_11_method_35_code
def yX9_hour : MethodName := ⟨RX9, "hour", "()I"⟩
abbrev cX9_undo : ByteArray := prog_11_method_36_code
def yX9_undo : MethodName := ⟨RX9, "undo", "()I"⟩
abbrev cX9_begin : ByteArray := prog_11_method_37_code
def yX9_begin : MethodName := ⟨RX9, "begin", "()V"⟩
abbrev cX9_rents : ByteArray := prog_11_method_38_code
def yX9_rents : MethodName := ⟨RX9, "rents", "(II)I"⟩
abbrev cX9_hold : ByteArray := prog_11_method_39_code
def yX9_hold : MethodName := ⟨RX9, "hold", "(II)I"⟩
abbrev cX9_findFires : ByteArray := prog_11_method_40_code
def yX9_findFires : MethodName := ⟨RX9, "findFires", "(I)V"⟩
abbrev cX9_fires : ByteArray := prog_11_method_41_code
def yX9_fires : MethodName := ⟨RX9, "fires", "(II)I"⟩
abbrev cX9_orders : ByteArray := prog_11_method_42_code
def yX9_orders : MethodName := ⟨RX9, "orders", "(I)I"⟩
abbrev cX9_divisor : ByteArray := prog_11_method_43_code
def yX9_divisor : MethodName := ⟨RX9, "divisor", "(II)I"⟩
abbrev cX9_fraction : ByteArray := prog_11_method_44_code
def yX9_fraction : MethodName := ⟨RX9, "fraction", "(IIZ)I"⟩
abbrev cX9_share : ByteArray := prog_11_method_45_code
def yX9_share : MethodName := ⟨RX9, "share", "(IIZ)I"⟩
abbrev cX9_bestLaw : ByteArray := prog_11_method_46_code
def yX9_bestLaw : MethodName := ⟨RX9, "bestLaw", "(II)I"⟩
abbrev cX9_starless : ByteArray := prog_11_method_47_code
def yX9_starless : MethodName := ⟨RX9, "starless", "(I)I"⟩
abbrev cX9_layRest : ByteArray := prog_11_method_48_code
def yX9_layRest : MethodName := ⟨RX9, "layRest", "(IIIII)V"⟩
abbrev cX9_doesRest : ByteArray := prog_11_method_49_code
def yX9_doesRest : MethodName := ⟨RX9, "doesRest", "(IIIII)Z"⟩
abbrev cX9_rests : ByteArray := prog_11_method_50_code
def yX9_rests : MethodName := ⟨RX9, "rests", "(IIII)I"⟩
abbrev cX9_shine : ByteArray := prog_11_method_51_code
def yX9_shine : MethodName := ⟨RX9, "shine", "(IIZ)I"⟩
abbrev cX9_unshine : ByteArray := prog_11_method_52_code
def yX9_unshine : MethodName := ⟨RX9, "unshine", "()I"⟩
abbrev cX9_isOver : ByteArray := prog_11_method_53_code
def yX9_isOver : MethodName := ⟨RX9, "isOver", "(III)Z"⟩
abbrev cX9_find : ByteArray := prog_11_method_54_code
def yX9_find : MethodName := ⟨RX9, "find", "()V"⟩
abbrev cX9_found : ByteArray := prog_11_method_55_code
def yX9_found : MethodName := ⟨RX9, "found", "(I)I"⟩
abbrev cX9_look : ByteArray := prog_11_method_56_code
def yX9_look : MethodName := ⟨RX9, "look", "()I"⟩
abbrev cX9_chance : ByteArray := prog_11_method_57_code
def yX9_chance : MethodName := ⟨RX9, "chance", "(IIIZ)I"⟩
abbrev cX9_seed : ByteArray := prog_11_method_58_code
def yX9_seed : MethodName := ⟨RX9, "seed", "(J)J"⟩
abbrev cX9_nights : ByteArray := prog_11_method_59_code
def yX9_nights : MethodName := ⟨RX9, "nights", "(I)I"⟩
abbrev cX9_keep : ByteArray := prog_11_method_60_code
def yX9_keep : MethodName := ⟨RX9, "keep", "(I)I"⟩
abbrev cX9_again : ByteArray := prog_11_method_61_code
def yX9_again : MethodName := ⟨RX9, "again", "(I)I"⟩
def RJ6 : String := "java/lang/Integer"
def TJ6 : u_T := fun k => match k with
  | _ => ("", "", "", false)
def tyJ6 : Nat → FieldType := fun k => match k with
  | _ => .int
abbrev wsJ60 : List Cond := u_ws RJ6 TJ6 0
theorem nmJ6 : ∀ a, a < 0 → ∀ b, b < 0 → a ≠ b → (TJ6 a).2.1 ≠ (TJ6 b).2.1 := by decide +kernel
theorem tyJ6_ok : ∀ k, k < 0 → parseFieldDescriptor (TJ6 k).2.2.1 = some (tyJ6 k) := by decide +kernel
abbrev cJ6_bitCount_0f7a4 : ByteArray := prog_12_method_49_code
def yJ6_bitCount_0f7a4 : MethodName := ⟨RJ6, "bitCount", "(I)I"⟩
def RJ13 : String := "java/lang/Long"
def TJ13 : u_T := fun k => match k with
  | _ => ("", "", "", false)
def tyJ13 : Nat → FieldType := fun k => match k with
  | _ => .int
abbrev wsJ130 : List Cond := u_ws RJ13 TJ13 0
theorem nmJ13 : ∀ a, a < 0 → ∀ b, b < 0 → a ≠ b → (TJ13 a).2.1 ≠ (TJ13 b).2.1 := by decide +kernel
theorem tyJ13_ok : ∀ k, k < 0 → parseFieldDescriptor (TJ13 k).2.2.1 = some (tyJ13 k) := by decide +kernel
abbrev cJ13_bitCount_95d88 : ByteArray := prog_13_method_50_code
def yJ13_bitCount_95d88 : MethodName := ⟨RJ13, "bitCount", "(J)I"⟩
def RJ9 : String := "java/lang/Math"
def TJ9 : u_T := fun k => match k with
  | _ => ("", "", "", false)
def tyJ9 : Nat → FieldType := fun k => match k with
  | _ => .int
abbrev wsJ90 : List Cond := u_ws RJ9 TJ9 0
theorem nmJ9 : ∀ a, a < 0 → ∀ b, b < 0 → a ≠ b → (TJ9 a).2.1 ≠ (TJ9 b).2.1 := by decide +kernel
theorem tyJ9_ok : ∀ k, k < 0 → parseFieldDescriptor (TJ9 k).2.2.1 = some (tyJ9 k) := by decide +kernel
abbrev cJ9_abs_0f7a4 : ByteArray := prog_14_method_59_code
def yJ9_abs_0f7a4 : MethodName := ⟨RJ9, "abs", "(I)I"⟩
abbrev cJ9_max_7cf53 : ByteArray := prog_14_method_65_code
def yJ9_max_7cf53 : MethodName := ⟨RJ9, "max", "(II)I"⟩
def RJ10 : String := "java/lang/System"
def TJ10 : u_T := fun k => match k with
  | _ => ("", "", "", false)
def tyJ10 : Nat → FieldType := fun k => match k with
  | _ => .int
abbrev wsJ100 : List Cond := u_ws RJ10 TJ10 0
theorem nmJ10 : ∀ a, a < 0 → ∀ b, b < 0 → a ≠ b → (TJ10 a).2.1 ≠ (TJ10 b).2.1 := by decide +kernel
theorem tyJ10_ok : ∀ k, k < 0 → parseFieldDescriptor (TJ10 k).2.2.1 = some (tyJ10 k) := by decide +kernel
def RL : String := "StarRightLaw"
abbrev cL_law : ByteArray := code
def yL_law : MethodName := ⟨RL, "law", "([I)Z"⟩
abbrev vwCl : List vw_C := [(RX0, TX0, 4), (RX1, TX1, 2), (RX2, TX2, 3), (RX3, TX3, 2), (RX4, TX4, 4), (RX5, TX5, 2), (RX6, TX6, 8), (RX7, TX7, 4), (RX8, TX8, 13), (RX9, TX9, 37)]
end
section
/-- the tables' words that any state keeps -/
def TB : List Cond := lw_tbl.filter goodWord
theorem tb_sub : ∀ w ∈ TB, w ∈ lw_tbl := fun w h => (List.mem_filter.mp h).1
theorem tb_good : ∀ w ∈ TB, (w.onTables && w.keeps) = true ∨ ∃ ty, w = .arrayClass ty := fun w h => good_of_word (List.mem_filter.mp h).2
theorem tb_in {w : Cond} (i : Nat) (h : tables_1[i]? = some w) (h2 : goodWord w = true) : w ∈ TB := List.mem_filter.mpr ⟨List.mem_append_right _ (List.mem_of_getElem? h), h2⟩
theorem tb_inP {w : Cond} (h : w ∈ k2_sels lw_privs) (h2 : goodWord w = true) : w ∈ TB := List.mem_filter.mpr ⟨List.mem_append_left _ h, h2⟩
theorem tw_0 : (Jvm.Cond.initialized "StarRightLaw") ∈ TB := tb_in 0 (by decide +kernel) rfl
theorem tw_1 : (Jvm.Cond.initialized "StarRight") ∈ TB := tb_in 1 (by decide +kernel) rfl
theorem tw_2 : (Jvm.Cond.initialized "StarRight$Text") ∈ TB := tb_in 2 (by decide +kernel) rfl
theorem tw_3 : (Jvm.Cond.initialized "StarRight$Stars") ∈ TB := tb_in 3 (by decide +kernel) rfl
theorem tw_4 : (Jvm.Cond.initialized "StarRight$Town") ∈ TB := tb_in 4 (by decide +kernel) rfl
theorem tw_5 : (Jvm.Cond.initialized "StarRight$Slot") ∈ TB := tb_in 5 (by decide +kernel) rfl
theorem tw_6 : (Jvm.Cond.initialized "StarRight$Sight") ∈ TB := tb_in 6 (by decide +kernel) rfl
theorem tw_7 : (Jvm.Cond.initialized "StarRight$Acts") ∈ TB := tb_in 7 (by decide +kernel) rfl
theorem tw_8 : (Jvm.Cond.initialized "StarRight$Watch") ∈ TB := tb_in 8 (by decide +kernel) rfl
theorem tw_9 : (Jvm.Cond.initialized "StarRight$Contest") ∈ TB := tb_in 9 (by decide +kernel) rfl
theorem tw_10 : (Jvm.Cond.initialized "StarRightModel") ∈ TB := tb_in 10 (by decide +kernel) rfl
theorem tw_11 : (Jvm.Cond.initialized "java/lang/Math") ∈ TB := tb_in 11 (by decide +kernel) rfl
theorem tw_12 : (Jvm.Cond.initialized "java/lang/System") ∈ TB := tb_in 12 (by decide +kernel) rfl
theorem tw_13 : (Jvm.Cond.initialized "java/lang/Integer") ∈ TB := tb_in 13 (by decide +kernel) rfl
theorem tw_14 : (Jvm.Cond.initialized "java/lang/Long") ∈ TB := tb_in 14 (by decide +kernel) rfl
theorem tw_15 : (Jvm.Cond.classLink "StarRightLaw" (7 : Nat) "StarRight") ∈ TB := tb_in 15 (by decide +kernel) rfl
theorem tw_16 : (Jvm.Cond.instantiable "StarRight" (13 : Nat)) ∈ TB := tb_in 16 (by decide +kernel) rfl
theorem tw_17 : (Jvm.Cond.methodLink "StarRightLaw" (9 : Nat) ({ cls := "StarRight", name := "<init>", desc := "()V" } : Jvm.MethodName)) ∈ TB := tb_in 17 (by decide +kernel) rfl
theorem tw_18 : (Jvm.Cond.instanceMethod ({ cls := "StarRight", name := "<init>", desc := "()V" } : Jvm.MethodName)) ∈ TB := tb_in 18 (by decide +kernel) rfl
theorem tw_19 : (Jvm.Cond.code ({ cls := "StarRight", name := "<init>", desc := "()V" } : Jvm.MethodName) prog_1_method_1_code (1 : Nat) (Option.none : Option Jvm.ClassFile.FieldType)) ∈ TB := tb_in 19 (by decide +kernel) rfl
theorem tw_20 : (Jvm.Cond.methodLink "StarRight" (3 : Nat) ({ cls := "java/lang/Object", name := "<init>", desc := "()V" } : Jvm.MethodName)) ∈ TB := tb_in 20 (by decide +kernel) rfl
theorem tw_21 : (Jvm.Cond.instanceMethod ({ cls := "java/lang/Object", name := "<init>", desc := "()V" } : Jvm.MethodName)) ∈ TB := tb_in 21 (by decide +kernel) rfl
theorem tw_22 : (Jvm.Cond.code ({ cls := "java/lang/Object", name := "<init>", desc := "()V" } : Jvm.MethodName) object_method_1_code (1 : Nat) (Option.none : Option Jvm.ClassFile.FieldType)) ∈ TB := tb_in 22 (by decide +kernel) rfl
theorem tw_23 : (Jvm.Cond.classLink "StarRight" (9 : Nat) "StarRight$Text") ∈ TB := tb_in 23 (by decide +kernel) rfl
theorem tw_24 : (Jvm.Cond.instantiable "StarRight$Text" (2 : Nat)) ∈ TB := tb_in 24 (by decide +kernel) rfl
theorem tw_26 : (Jvm.Cond.instanceMethod ({ cls := "StarRight$Text", name := "<init>", desc := "()V" } : Jvm.MethodName)) ∈ TB := tb_in 26 (by decide +kernel) rfl
theorem tw_27 : (Jvm.Cond.code ({ cls := "StarRight$Text", name := "<init>", desc := "()V" } : Jvm.MethodName) prog_7_method_1_code (1 : Nat) (Option.none : Option Jvm.ClassFile.FieldType)) ∈ TB := tb_in 27 (by decide +kernel) rfl
theorem tw_28 : (Jvm.Cond.methodLink "StarRight$Text" (3 : Nat) ({ cls := "java/lang/Object", name := "<init>", desc := "()V" } : Jvm.MethodName)) ∈ TB := tb_in 28 (by decide +kernel) rfl
theorem tw_29 : (Jvm.Cond.fieldLink "StarRight$Text" (9 : Nat) "StarRight$Text" "bytes" "[I") ∈ TB := tb_in 29 (by decide +kernel) rfl
theorem tw_30 : (Jvm.Cond.fieldLink "StarRight$Text" (15 : Nat) "StarRight$Text" "length" "I") ∈ TB := tb_in 30 (by decide +kernel) rfl
theorem tw_32 : (Jvm.Cond.laysFinal "StarRight$Text" "StarRight$Text" "bytes" "[I") ∈ TB := tb_in 32 (by decide +kernel) rfl
theorem tw_34 : (Jvm.Cond.lays "StarRight$Text" "StarRight$Text" "length" "I") ∈ TB := tb_in 34 (by decide +kernel) rfl
theorem tw_38 : (Jvm.Cond.classLink "StarRight" (16 : Nat) "StarRight$Stars") ∈ TB := tb_in 38 (by decide +kernel) rfl
theorem tw_39 : (Jvm.Cond.instantiable "StarRight$Stars" (4 : Nat)) ∈ TB := tb_in 39 (by decide +kernel) rfl
theorem tw_41 : (Jvm.Cond.instanceMethod ({ cls := "StarRight$Stars", name := "<init>", desc := "()V" } : Jvm.MethodName)) ∈ TB := tb_in 41 (by decide +kernel) rfl
theorem tw_42 : (Jvm.Cond.code ({ cls := "StarRight$Stars", name := "<init>", desc := "()V" } : Jvm.MethodName) prog_6_method_1_code (1 : Nat) (Option.none : Option Jvm.ClassFile.FieldType)) ∈ TB := tb_in 42 (by decide +kernel) rfl
theorem tw_43 : (Jvm.Cond.methodLink "StarRight$Stars" (3 : Nat) ({ cls := "java/lang/Object", name := "<init>", desc := "()V" } : Jvm.MethodName)) ∈ TB := tb_in 43 (by decide +kernel) rfl
theorem tw_44 : (Jvm.Cond.fieldLink "StarRight$Stars" (9 : Nat) "StarRight$Stars" "rise" "[I") ∈ TB := tb_in 44 (by decide +kernel) rfl
theorem tw_45 : (Jvm.Cond.fieldLink "StarRight$Stars" (15 : Nat) "StarRight$Stars" "speed" "[I") ∈ TB := tb_in 45 (by decide +kernel) rfl
theorem tw_47 : (Jvm.Cond.fieldLink "StarRight$Stars" (18 : Nat) "StarRight$Stars" "worth" "[I") ∈ TB := tb_in 47 (by decide +kernel) rfl
theorem tw_50 : (Jvm.Cond.fieldLink "StarRight$Stars" (21 : Nat) "StarRight$Stars" "count" "I") ∈ TB := tb_in 50 (by decide +kernel) rfl
theorem tw_53 : (Jvm.Cond.laysFinal "StarRight$Stars" "StarRight$Stars" "rise" "[I") ∈ TB := tb_in 53 (by decide +kernel) rfl
theorem tw_55 : (Jvm.Cond.laysFinal "StarRight$Stars" "StarRight$Stars" "speed" "[I") ∈ TB := tb_in 55 (by decide +kernel) rfl
theorem tw_57 : (Jvm.Cond.laysFinal "StarRight$Stars" "StarRight$Stars" "worth" "[I") ∈ TB := tb_in 57 (by decide +kernel) rfl
theorem tw_59 : (Jvm.Cond.lays "StarRight$Stars" "StarRight$Stars" "count" "I") ∈ TB := tb_in 59 (by decide +kernel) rfl
theorem tw_62 : (Jvm.Cond.classLink "StarRight" (23 : Nat) "StarRight$Town") ∈ TB := tb_in 62 (by decide +kernel) rfl
theorem tw_63 : (Jvm.Cond.instantiable "StarRight$Town" (8 : Nat)) ∈ TB := tb_in 63 (by decide +kernel) rfl
theorem tw_65 : (Jvm.Cond.instanceMethod ({ cls := "StarRight$Town", name := "<init>", desc := "()V" } : Jvm.MethodName)) ∈ TB := tb_in 65 (by decide +kernel) rfl
theorem tw_66 : (Jvm.Cond.code ({ cls := "StarRight$Town", name := "<init>", desc := "()V" } : Jvm.MethodName) prog_8_method_1_code (1 : Nat) (Option.none : Option Jvm.ClassFile.FieldType)) ∈ TB := tb_in 66 (by decide +kernel) rfl
theorem tw_67 : (Jvm.Cond.methodLink "StarRight$Town" (3 : Nat) ({ cls := "java/lang/Object", name := "<init>", desc := "()V" } : Jvm.MethodName)) ∈ TB := tb_in 67 (by decide +kernel) rfl
theorem tw_68 : (Jvm.Cond.fieldLink "StarRight$Town" (9 : Nat) "StarRight$Town" "cell" "[I") ∈ TB := tb_in 68 (by decide +kernel) rfl
theorem tw_70 : (Jvm.Cond.fieldLink "StarRight$Town" (15 : Nat) "StarRight$Town" "height" "[I") ∈ TB := tb_in 70 (by decide +kernel) rfl
theorem tw_72 : (Jvm.Cond.fieldLink "StarRight$Town" (18 : Nat) "StarRight$Town" "owner" "[I") ∈ TB := tb_in 72 (by decide +kernel) rfl
theorem tw_74 : (Jvm.Cond.fieldLink "StarRight$Town" (21 : Nat) "StarRight$Town" "purses" "[I") ∈ TB := tb_in 74 (by decide +kernel) rfl
theorem tw_76 : (Jvm.Cond.fieldLink "StarRight$Town" (24 : Nat) "StarRight$Town" "roofs" "I") ∈ TB := tb_in 76 (by decide +kernel) rfl
theorem tw_78 : (Jvm.Cond.fieldLink "StarRight$Town" (28 : Nat) "StarRight$Town" "smoking" "I") ∈ TB := tb_in 78 (by decide +kernel) rfl
theorem tw_80 : (Jvm.Cond.fieldLink "StarRight$Town" (31 : Nat) "StarRight$Town" "now" "I") ∈ TB := tb_in 80 (by decide +kernel) rfl
theorem tw_83 : (Jvm.Cond.fieldLink "StarRight$Town" (34 : Nat) "StarRight$Town" "cloudy" "Z") ∈ TB := tb_in 83 (by decide +kernel) rfl
theorem tw_86 : (Jvm.Cond.laysFinal "StarRight$Town" "StarRight$Town" "cell" "[I") ∈ TB := tb_in 86 (by decide +kernel) rfl
theorem tw_88 : (Jvm.Cond.laysFinal "StarRight$Town" "StarRight$Town" "height" "[I") ∈ TB := tb_in 88 (by decide +kernel) rfl
theorem tw_90 : (Jvm.Cond.laysFinal "StarRight$Town" "StarRight$Town" "owner" "[I") ∈ TB := tb_in 90 (by decide +kernel) rfl
theorem tw_92 : (Jvm.Cond.laysFinal "StarRight$Town" "StarRight$Town" "purses" "[I") ∈ TB := tb_in 92 (by decide +kernel) rfl
theorem tw_94 : (Jvm.Cond.lays "StarRight$Town" "StarRight$Town" "roofs" "I") ∈ TB := tb_in 94 (by decide +kernel) rfl
theorem tw_96 : (Jvm.Cond.lays "StarRight$Town" "StarRight$Town" "smoking" "I") ∈ TB := tb_in 96 (by decide +kernel) rfl
theorem tw_98 : (Jvm.Cond.lays "StarRight$Town" "StarRight$Town" "now" "I") ∈ TB := tb_in 98 (by decide +kernel) rfl
theorem tw_100 : (Jvm.Cond.lays "StarRight$Town" "StarRight$Town" "cloudy" "Z") ∈ TB := tb_in 100 (by decide +kernel) rfl
theorem tw_103 : (Jvm.Cond.classLink "StarRight" (33 : Nat) "StarRight$Slot") ∈ TB := tb_in 103 (by decide +kernel) rfl
theorem tw_104 : (Jvm.Cond.instantiable "StarRight$Slot" (2 : Nat)) ∈ TB := tb_in 104 (by decide +kernel) rfl
theorem tw_106 : (Jvm.Cond.instanceMethod ({ cls := "StarRight$Slot", name := "<init>", desc := "()V" } : Jvm.MethodName)) ∈ TB := tb_in 106 (by decide +kernel) rfl
theorem tw_107 : (Jvm.Cond.code ({ cls := "StarRight$Slot", name := "<init>", desc := "()V" } : Jvm.MethodName) prog_5_method_1_code (1 : Nat) (Option.none : Option Jvm.ClassFile.FieldType)) ∈ TB := tb_in 107 (by decide +kernel) rfl
theorem tw_108 : (Jvm.Cond.methodLink "StarRight$Slot" (1 : Nat) ({ cls := "java/lang/Object", name := "<init>", desc := "()V" } : Jvm.MethodName)) ∈ TB := tb_in 108 (by decide +kernel) rfl
theorem tw_109 : (Jvm.Cond.classLink "StarRight$Slot" (7 : Nat) "StarRight$Town") ∈ TB := tb_in 109 (by decide +kernel) rfl
theorem tw_111 : (Jvm.Cond.fieldLink "StarRight$Slot" (10 : Nat) "StarRight$Slot" "town" "LStarRight$Town;") ∈ TB := tb_in 111 (by decide +kernel) rfl
theorem tw_114 : (Jvm.Cond.laysFinal "StarRight$Slot" "StarRight$Slot" "town" "LStarRight$Town;") ∈ TB := tb_in 114 (by decide +kernel) rfl
theorem tw_116 : (Jvm.Cond.lays "StarRight$Slot" "StarRight$Slot" "kept" "Z") ∈ TB := tb_in 116 (by decide +kernel) rfl
theorem tw_119 : (Jvm.Cond.classLink "StarRight" (43 : Nat) "StarRight$Sight") ∈ TB := tb_in 119 (by decide +kernel) rfl
theorem tw_120 : (Jvm.Cond.instantiable "StarRight$Sight" (3 : Nat)) ∈ TB := tb_in 120 (by decide +kernel) rfl
theorem tw_122 : (Jvm.Cond.instanceMethod ({ cls := "StarRight$Sight", name := "<init>", desc := "()V" } : Jvm.MethodName)) ∈ TB := tb_in 122 (by decide +kernel) rfl
theorem tw_123 : (Jvm.Cond.code ({ cls := "StarRight$Sight", name := "<init>", desc := "()V" } : Jvm.MethodName) prog_4_method_1_code (1 : Nat) (Option.none : Option Jvm.ClassFile.FieldType)) ∈ TB := tb_in 123 (by decide +kernel) rfl
theorem tw_124 : (Jvm.Cond.methodLink "StarRight$Sight" (3 : Nat) ({ cls := "java/lang/Object", name := "<init>", desc := "()V" } : Jvm.MethodName)) ∈ TB := tb_in 124 (by decide +kernel) rfl
theorem tw_125 : (Jvm.Cond.fieldLink "StarRight$Sight" (9 : Nat) "StarRight$Sight" "seen" "[I") ∈ TB := tb_in 125 (by decide +kernel) rfl
theorem tw_126 : (Jvm.Cond.fieldLink "StarRight$Sight" (15 : Nat) "StarRight$Sight" "smoke" "[I") ∈ TB := tb_in 126 (by decide +kernel) rfl
theorem tw_127 : (Jvm.Cond.fieldLink "StarRight$Sight" (18 : Nat) "StarRight$Sight" "holder" "[I") ∈ TB := tb_in 127 (by decide +kernel) rfl
theorem tw_128 : (Jvm.Cond.laysFinal "StarRight$Sight" "StarRight$Sight" "seen" "[I") ∈ TB := tb_in 128 (by decide +kernel) rfl
theorem tw_130 : (Jvm.Cond.laysFinal "StarRight$Sight" "StarRight$Sight" "smoke" "[I") ∈ TB := tb_in 130 (by decide +kernel) rfl
theorem tw_132 : (Jvm.Cond.laysFinal "StarRight$Sight" "StarRight$Sight" "holder" "[I") ∈ TB := tb_in 132 (by decide +kernel) rfl
theorem tw_135 : (Jvm.Cond.classLink "StarRight" (50 : Nat) "StarRight$Acts") ∈ TB := tb_in 135 (by decide +kernel) rfl
theorem tw_136 : (Jvm.Cond.instantiable "StarRight$Acts" (4 : Nat)) ∈ TB := tb_in 136 (by decide +kernel) rfl
theorem tw_138 : (Jvm.Cond.instanceMethod ({ cls := "StarRight$Acts", name := "<init>", desc := "()V" } : Jvm.MethodName)) ∈ TB := tb_in 138 (by decide +kernel) rfl
theorem tw_139 : (Jvm.Cond.code ({ cls := "StarRight$Acts", name := "<init>", desc := "()V" } : Jvm.MethodName) prog_2_method_1_code (1 : Nat) (Option.none : Option Jvm.ClassFile.FieldType)) ∈ TB := tb_in 139 (by decide +kernel) rfl
theorem tw_140 : (Jvm.Cond.methodLink "StarRight$Acts" (3 : Nat) ({ cls := "java/lang/Object", name := "<init>", desc := "()V" } : Jvm.MethodName)) ∈ TB := tb_in 140 (by decide +kernel) rfl
theorem tw_141 : (Jvm.Cond.fieldLink "StarRight$Acts" (9 : Nat) "StarRight$Acts" "kind" "[I") ∈ TB := tb_in 141 (by decide +kernel) rfl
theorem tw_143 : (Jvm.Cond.fieldLink "StarRight$Acts" (15 : Nat) "StarRight$Acts" "roof" "[I") ∈ TB := tb_in 143 (by decide +kernel) rfl
theorem tw_145 : (Jvm.Cond.fieldLink "StarRight$Acts" (18 : Nat) "StarRight$Acts" "was" "[I") ∈ TB := tb_in 145 (by decide +kernel) rfl
theorem tw_147 : (Jvm.Cond.fieldLink "StarRight$Acts" (21 : Nat) "StarRight$Acts" "count" "I") ∈ TB := tb_in 147 (by decide +kernel) rfl
theorem tw_149 : (Jvm.Cond.laysFinal "StarRight$Acts" "StarRight$Acts" "kind" "[I") ∈ TB := tb_in 149 (by decide +kernel) rfl
theorem tw_151 : (Jvm.Cond.laysFinal "StarRight$Acts" "StarRight$Acts" "roof" "[I") ∈ TB := tb_in 151 (by decide +kernel) rfl
theorem tw_153 : (Jvm.Cond.laysFinal "StarRight$Acts" "StarRight$Acts" "was" "[I") ∈ TB := tb_in 153 (by decide +kernel) rfl
theorem tw_155 : (Jvm.Cond.lays "StarRight$Acts" "StarRight$Acts" "count" "I") ∈ TB := tb_in 155 (by decide +kernel) rfl
theorem tw_158 : (Jvm.Cond.classLink "StarRight" (57 : Nat) "StarRight$Watch") ∈ TB := tb_in 158 (by decide +kernel) rfl
theorem tw_159 : (Jvm.Cond.instantiable "StarRight$Watch" (4 : Nat)) ∈ TB := tb_in 159 (by decide +kernel) rfl
theorem tw_161 : (Jvm.Cond.instanceMethod ({ cls := "StarRight$Watch", name := "<init>", desc := "()V" } : Jvm.MethodName)) ∈ TB := tb_in 161 (by decide +kernel) rfl
theorem tw_162 : (Jvm.Cond.code ({ cls := "StarRight$Watch", name := "<init>", desc := "()V" } : Jvm.MethodName) prog_9_method_1_code (1 : Nat) (Option.none : Option Jvm.ClassFile.FieldType)) ∈ TB := tb_in 162 (by decide +kernel) rfl
theorem tw_163 : (Jvm.Cond.methodLink "StarRight$Watch" (3 : Nat) ({ cls := "java/lang/Object", name := "<init>", desc := "()V" } : Jvm.MethodName)) ∈ TB := tb_in 163 (by decide +kernel) rfl
theorem tw_164 : (Jvm.Cond.fieldLink "StarRight$Watch" (9 : Nat) "StarRight$Watch" "cell" "[I") ∈ TB := tb_in 164 (by decide +kernel) rfl
theorem tw_165 : (Jvm.Cond.fieldLink "StarRight$Watch" (15 : Nat) "StarRight$Watch" "hour" "[I") ∈ TB := tb_in 165 (by decide +kernel) rfl
theorem tw_166 : (Jvm.Cond.fieldLink "StarRight$Watch" (18 : Nat) "StarRight$Watch" "shone" "[Z") ∈ TB := tb_in 166 (by decide +kernel) rfl
theorem tw_167 : (Jvm.Cond.fieldLink "StarRight$Watch" (22 : Nat) "StarRight$Watch" "count" "I") ∈ TB := tb_in 167 (by decide +kernel) rfl
theorem tw_169 : (Jvm.Cond.laysFinal "StarRight$Watch" "StarRight$Watch" "cell" "[I") ∈ TB := tb_in 169 (by decide +kernel) rfl
theorem tw_171 : (Jvm.Cond.laysFinal "StarRight$Watch" "StarRight$Watch" "hour" "[I") ∈ TB := tb_in 171 (by decide +kernel) rfl
theorem tw_173 : (Jvm.Cond.laysFinal "StarRight$Watch" "StarRight$Watch" "shone" "[Z") ∈ TB := tb_in 173 (by decide +kernel) rfl
theorem tw_175 : (Jvm.Cond.lays "StarRight$Watch" "StarRight$Watch" "count" "I") ∈ TB := tb_in 175 (by decide +kernel) rfl
theorem tw_179 : (Jvm.Cond.classLink "StarRight" (64 : Nat) "StarRight$Contest") ∈ TB := tb_in 179 (by decide +kernel) rfl
theorem tw_180 : (Jvm.Cond.instantiable "StarRight$Contest" (2 : Nat)) ∈ TB := tb_in 180 (by decide +kernel) rfl
theorem tw_182 : (Jvm.Cond.instanceMethod ({ cls := "StarRight$Contest", name := "<init>", desc := "()V" } : Jvm.MethodName)) ∈ TB := tb_in 182 (by decide +kernel) rfl
theorem tw_183 : (Jvm.Cond.code ({ cls := "StarRight$Contest", name := "<init>", desc := "()V" } : Jvm.MethodName) prog_3_method_1_code (1 : Nat) (Option.none : Option Jvm.ClassFile.FieldType)) ∈ TB := tb_in 183 (by decide +kernel) rfl
theorem tw_184 : (Jvm.Cond.methodLink "StarRight$Contest" (3 : Nat) ({ cls := "java/lang/Object", name := "<init>", desc := "()V" } : Jvm.MethodName)) ∈ TB := tb_in 184 (by decide +kernel) rfl
theorem tw_185 : (Jvm.Cond.fieldLink "StarRight$Contest" (11 : Nat) "StarRight$Contest" "gain" "[I") ∈ TB := tb_in 185 (by decide +kernel) rfl
theorem tw_186 : (Jvm.Cond.fieldLink "StarRight$Contest" (15 : Nat) "StarRight$Contest" "otherGain" "[I") ∈ TB := tb_in 186 (by decide +kernel) rfl
theorem tw_187 : (Jvm.Cond.laysFinal "StarRight$Contest" "StarRight$Contest" "gain" "[I") ∈ TB := tb_in 187 (by decide +kernel) rfl
theorem tw_189 : (Jvm.Cond.laysFinal "StarRight$Contest" "StarRight$Contest" "otherGain" "[I") ∈ TB := tb_in 189 (by decide +kernel) rfl
theorem tw_192 : (Jvm.Cond.fieldLink "StarRight" (12 : Nat) "StarRight" "text" "LStarRight$Text;") ∈ TB := tb_in 192 (by decide +kernel) rfl
theorem tw_193 : (Jvm.Cond.fieldLink "StarRight" (19 : Nat) "StarRight" "stars" "LStarRight$Stars;") ∈ TB := tb_in 193 (by decide +kernel) rfl
theorem tw_194 : (Jvm.Cond.fieldLink "StarRight" (26 : Nat) "StarRight" "town" "LStarRight$Town;") ∈ TB := tb_in 194 (by decide +kernel) rfl
theorem tw_195 : (Jvm.Cond.fieldLink "StarRight" (30 : Nat) "StarRight" "trial" "LStarRight$Town;") ∈ TB := tb_in 195 (by decide +kernel) rfl
theorem tw_196 : (Jvm.Cond.fieldLink "StarRight" (36 : Nat) "StarRight" "slot0" "LStarRight$Slot;") ∈ TB := tb_in 196 (by decide +kernel) rfl
theorem tw_197 : (Jvm.Cond.fieldLink "StarRight" (40 : Nat) "StarRight" "slot1" "LStarRight$Slot;") ∈ TB := tb_in 197 (by decide +kernel) rfl
theorem tw_198 : (Jvm.Cond.fieldLink "StarRight" (46 : Nat) "StarRight" "sight" "LStarRight$Sight;") ∈ TB := tb_in 198 (by decide +kernel) rfl
theorem tw_199 : (Jvm.Cond.fieldLink "StarRight" (53 : Nat) "StarRight" "acts" "LStarRight$Acts;") ∈ TB := tb_in 199 (by decide +kernel) rfl
theorem tw_200 : (Jvm.Cond.fieldLink "StarRight" (60 : Nat) "StarRight" "watch" "LStarRight$Watch;") ∈ TB := tb_in 200 (by decide +kernel) rfl
theorem tw_201 : (Jvm.Cond.fieldLink "StarRight" (67 : Nat) "StarRight" "contest" "LStarRight$Contest;") ∈ TB := tb_in 201 (by decide +kernel) rfl
theorem tw_202 : (Jvm.Cond.fieldLink "StarRight" (71 : Nat) "StarRight" "rentsBySet" "[I") ∈ TB := tb_in 202 (by decide +kernel) rfl
theorem tw_203 : (Jvm.Cond.fieldLink "StarRight" (101 : Nat) "StarRight" "law" "I") ∈ TB := tb_in 203 (by decide +kernel) rfl
theorem tw_204 : (Jvm.Cond.fieldLink "StarRight" (306 : Nat) "StarRight" "theSeed" "J") ∈ TB := tb_in 204 (by decide +kernel) rfl
theorem tw_205 : (Jvm.Cond.laysFinal "StarRight" "StarRight" "text" "LStarRight$Text;") ∈ TB := tb_in 205 (by decide +kernel) rfl
theorem tw_207 : (Jvm.Cond.laysFinal "StarRight" "StarRight" "stars" "LStarRight$Stars;") ∈ TB := tb_in 207 (by decide +kernel) rfl
theorem tw_209 : (Jvm.Cond.laysFinal "StarRight" "StarRight" "town" "LStarRight$Town;") ∈ TB := tb_in 209 (by decide +kernel) rfl
theorem tw_211 : (Jvm.Cond.laysFinal "StarRight" "StarRight" "trial" "LStarRight$Town;") ∈ TB := tb_in 211 (by decide +kernel) rfl
theorem tw_213 : (Jvm.Cond.laysFinal "StarRight" "StarRight" "slot0" "LStarRight$Slot;") ∈ TB := tb_in 213 (by decide +kernel) rfl
theorem tw_215 : (Jvm.Cond.laysFinal "StarRight" "StarRight" "slot1" "LStarRight$Slot;") ∈ TB := tb_in 215 (by decide +kernel) rfl
theorem tw_217 : (Jvm.Cond.laysFinal "StarRight" "StarRight" "sight" "LStarRight$Sight;") ∈ TB := tb_in 217 (by decide +kernel) rfl
theorem tw_219 : (Jvm.Cond.laysFinal "StarRight" "StarRight" "acts" "LStarRight$Acts;") ∈ TB := tb_in 219 (by decide +kernel) rfl
theorem tw_221 : (Jvm.Cond.laysFinal "StarRight" "StarRight" "watch" "LStarRight$Watch;") ∈ TB := tb_in 221 (by decide +kernel) rfl
theorem tw_223 : (Jvm.Cond.laysFinal "StarRight" "StarRight" "contest" "LStarRight$Contest;") ∈ TB := tb_in 223 (by decide +kernel) rfl
theorem tw_225 : (Jvm.Cond.laysFinal "StarRight" "StarRight" "rentsBySet" "[I") ∈ TB := tb_in 225 (by decide +kernel) rfl
theorem tw_227 : (Jvm.Cond.lays "StarRight" "StarRight" "law" "I") ∈ TB := tb_in 227 (by decide +kernel) rfl
theorem tw_229 : (Jvm.Cond.lays "StarRight" "StarRight" "theSeed" "J") ∈ TB := tb_in 229 (by decide +kernel) rfl
theorem tw_232 : (Jvm.Cond.methodLink "StarRightLaw" (13 : Nat) ({ cls := "StarRight", name := "write", desc := "(I)I" } : Jvm.MethodName)) ∈ TB := tb_in 232 (by decide +kernel) rfl
theorem tw_233 : (Jvm.Cond.instanceMethod ({ cls := "StarRight", name := "write", desc := "(I)I" } : Jvm.MethodName)) ∈ TB := tb_in 233 (by decide +kernel) rfl
theorem tw_234 : (Jvm.Cond.selects "StarRight" ({ cls := "StarRight", name := "write", desc := "(I)I" } : Jvm.MethodName) ({ cls := "StarRight", name := "write", desc := "(I)I" } : Jvm.MethodName)) ∈ TB := tb_in 234 (by decide +kernel) rfl
theorem tw_235 : (Jvm.Cond.code ({ cls := "StarRight", name := "write", desc := "(I)I" } : Jvm.MethodName) prog_1_method_2_code (2 : Nat) (Option.some Jvm.ClassFile.FieldType.int)) ∈ TB := tb_in 235 (by decide +kernel) rfl
theorem tw_236 : (Jvm.Cond.methodLink "StarRight" (75 : Nat) ({ cls := "StarRight$Text", name := "isFull", desc := "()Z" } : Jvm.MethodName)) ∈ TB := tb_in 236 (by decide +kernel) rfl
theorem tw_237 : (Jvm.Cond.instanceMethod ({ cls := "StarRight$Text", name := "isFull", desc := "()Z" } : Jvm.MethodName)) ∈ TB := tb_in 237 (by decide +kernel) rfl
theorem tw_238 : (Jvm.Cond.selects "StarRight$Text" ({ cls := "StarRight$Text", name := "isFull", desc := "()Z" } : Jvm.MethodName) ({ cls := "StarRight$Text", name := "isFull", desc := "()Z" } : Jvm.MethodName)) ∈ TB := tb_in 238 (by decide +kernel) rfl
theorem tw_239 : (Jvm.Cond.code ({ cls := "StarRight$Text", name := "isFull", desc := "()Z" } : Jvm.MethodName) prog_7_method_2_code (1 : Nat) (Option.some Jvm.ClassFile.FieldType.boolean)) ∈ TB := tb_in 239 (by decide +kernel) rfl
theorem tw_240 : (Jvm.Cond.methodLink "StarRight" (79 : Nat) ({ cls := "StarRight$Text", name := "add", desc := "(I)I" } : Jvm.MethodName)) ∈ TB := tb_in 240 (by decide +kernel) rfl
theorem tw_241 : (Jvm.Cond.instanceMethod ({ cls := "StarRight$Text", name := "add", desc := "(I)I" } : Jvm.MethodName)) ∈ TB := tb_in 241 (by decide +kernel) rfl
theorem tw_242 : (Jvm.Cond.selects "StarRight$Text" ({ cls := "StarRight$Text", name := "add", desc := "(I)I" } : Jvm.MethodName) ({ cls := "StarRight$Text", name := "add", desc := "(I)I" } : Jvm.MethodName)) ∈ TB := tb_in 242 (by decide +kernel) rfl
theorem tw_243 : (Jvm.Cond.code ({ cls := "StarRight$Text", name := "add", desc := "(I)I" } : Jvm.MethodName) prog_7_method_3_code (2 : Nat) (Option.some Jvm.ClassFile.FieldType.int)) ∈ TB := tb_in 243 (by decide +kernel) rfl
theorem tw_244 : (Jvm.Cond.methodLink "StarRight$Text" (19 : Nat) ({ cls := "StarRight$Text", name := "isFull", desc := "()Z" } : Jvm.MethodName)) ∈ TB := tb_in 244 (by decide +kernel) rfl
theorem tw_245 : (Jvm.Cond.methodLink "StarRightLaw" (18 : Nat) ({ cls := "StarRight", name := "wipe", desc := "()I" } : Jvm.MethodName)) ∈ TB := tb_in 245 (by decide +kernel) rfl
theorem tw_246 : (Jvm.Cond.instanceMethod ({ cls := "StarRight", name := "wipe", desc := "()I" } : Jvm.MethodName)) ∈ TB := tb_in 246 (by decide +kernel) rfl
theorem tw_247 : (Jvm.Cond.selects "StarRight" ({ cls := "StarRight", name := "wipe", desc := "()I" } : Jvm.MethodName) ({ cls := "StarRight", name := "wipe", desc := "()I" } : Jvm.MethodName)) ∈ TB := tb_in 247 (by decide +kernel) rfl
theorem tw_248 : (Jvm.Cond.code ({ cls := "StarRight", name := "wipe", desc := "()I" } : Jvm.MethodName) prog_1_method_3_code (1 : Nat) (Option.some Jvm.ClassFile.FieldType.int)) ∈ TB := tb_in 248 (by decide +kernel) rfl
theorem tw_249 : (Jvm.Cond.methodLink "StarRight" (83 : Nat) ({ cls := "StarRight$Text", name := "clear", desc := "()I" } : Jvm.MethodName)) ∈ TB := tb_in 249 (by decide +kernel) rfl
theorem tw_250 : (Jvm.Cond.instanceMethod ({ cls := "StarRight$Text", name := "clear", desc := "()I" } : Jvm.MethodName)) ∈ TB := tb_in 250 (by decide +kernel) rfl
theorem tw_251 : (Jvm.Cond.selects "StarRight$Text" ({ cls := "StarRight$Text", name := "clear", desc := "()I" } : Jvm.MethodName) ({ cls := "StarRight$Text", name := "clear", desc := "()I" } : Jvm.MethodName)) ∈ TB := tb_in 251 (by decide +kernel) rfl
theorem tw_252 : (Jvm.Cond.code ({ cls := "StarRight$Text", name := "clear", desc := "()I" } : Jvm.MethodName) prog_7_method_4_code (2 : Nat) (Option.some Jvm.ClassFile.FieldType.int)) ∈ TB := tb_in 252 (by decide +kernel) rfl
theorem tw_253 : (Jvm.Cond.methodLink "StarRightLaw" (23 : Nat) ({ cls := "StarRight", name := "fault", desc := "()I" } : Jvm.MethodName)) ∈ TB := tb_in 253 (by decide +kernel) rfl
theorem tw_254 : (Jvm.Cond.instanceMethod ({ cls := "StarRight", name := "fault", desc := "()I" } : Jvm.MethodName)) ∈ TB := tb_in 254 (by decide +kernel) rfl
theorem tw_255 : (Jvm.Cond.selects "StarRight" ({ cls := "StarRight", name := "fault", desc := "()I" } : Jvm.MethodName) ({ cls := "StarRight", name := "fault", desc := "()I" } : Jvm.MethodName)) ∈ TB := tb_in 255 (by decide +kernel) rfl
theorem tw_256 : (Jvm.Cond.code ({ cls := "StarRight", name := "fault", desc := "()I" } : Jvm.MethodName) prog_1_method_4_code (1 : Nat) (Option.some Jvm.ClassFile.FieldType.int)) ∈ TB := tb_in 256 (by decide +kernel) rfl
theorem tw_257 : (Jvm.Cond.methodLink "StarRight" (87 : Nat) ({ cls := "StarRight$Text", name := "firstFault", desc := "()I" } : Jvm.MethodName)) ∈ TB := tb_in 257 (by decide +kernel) rfl
theorem tw_258 : (Jvm.Cond.instanceMethod ({ cls := "StarRight$Text", name := "firstFault", desc := "()I" } : Jvm.MethodName)) ∈ TB := tb_in 258 (by decide +kernel) rfl
theorem tw_259 : (Jvm.Cond.selects "StarRight$Text" ({ cls := "StarRight$Text", name := "firstFault", desc := "()I" } : Jvm.MethodName) ({ cls := "StarRight$Text", name := "firstFault", desc := "()I" } : Jvm.MethodName)) ∈ TB := tb_in 259 (by decide +kernel) rfl
theorem tw_260 : (Jvm.Cond.code ({ cls := "StarRight$Text", name := "firstFault", desc := "()I" } : Jvm.MethodName) prog_7_method_8_code (6 : Nat) (Option.some Jvm.ClassFile.FieldType.int)) ∈ TB := tb_in 260 (by decide +kernel) rfl
theorem tw_261 : (Jvm.Cond.methodLink "StarRight$Text" (23 : Nat) ({ cls := "StarRight$Text", name := "byteAt", desc := "(I)I" } : Jvm.MethodName)) ∈ TB := tb_in 261 (by decide +kernel) rfl
theorem tw_263 : (Jvm.Cond.instanceMethod ({ cls := "StarRight$Text", name := "byteAt", desc := "(I)I" } : Jvm.MethodName)) ∈ TB := tb_in 263 (by decide +kernel) rfl
theorem tw_264 : (Jvm.Cond.code ({ cls := "StarRight$Text", name := "byteAt", desc := "(I)I" } : Jvm.MethodName) prog_7_method_5_code (2 : Nat) (Option.some Jvm.ClassFile.FieldType.int)) ∈ TB := tb_in 264 (by decide +kernel) rfl
theorem tw_265 : (Jvm.Cond.methodLink "StarRight$Text" (30 : Nat) ({ cls := "StarRight$Text", name := "hasDigit", desc := "(III)Z" } : Jvm.MethodName)) ∈ TB := tb_in 265 (by decide +kernel) rfl
theorem tw_267 : (Jvm.Cond.instanceMethod ({ cls := "StarRight$Text", name := "hasDigit", desc := "(III)Z" } : Jvm.MethodName)) ∈ TB := tb_in 267 (by decide +kernel) rfl
theorem tw_268 : (Jvm.Cond.code ({ cls := "StarRight$Text", name := "hasDigit", desc := "(III)Z" } : Jvm.MethodName) prog_7_method_7_code (4 : Nat) (Option.some Jvm.ClassFile.FieldType.boolean)) ∈ TB := tb_in 268 (by decide +kernel) rfl
theorem tw_269 : (Jvm.Cond.methodLink "StarRight$Text" (27 : Nat) ({ cls := "StarRight$Text", name := "digitAt", desc := "(I)I" } : Jvm.MethodName)) ∈ TB := tb_in 269 (by decide +kernel) rfl
theorem tw_271 : (Jvm.Cond.instanceMethod ({ cls := "StarRight$Text", name := "digitAt", desc := "(I)I" } : Jvm.MethodName)) ∈ TB := tb_in 271 (by decide +kernel) rfl
theorem tw_272 : (Jvm.Cond.code ({ cls := "StarRight$Text", name := "digitAt", desc := "(I)I" } : Jvm.MethodName) prog_7_method_6_code (2 : Nat) (Option.some Jvm.ClassFile.FieldType.int)) ∈ TB := tb_in 272 (by decide +kernel) rfl
theorem tw_273 : (Jvm.Cond.methodLink "StarRight$Text" (34 : Nat) ({ cls := "StarRight$Text", name := "faultInRoof", desc := "(II)I" } : Jvm.MethodName)) ∈ TB := tb_in 273 (by decide +kernel) rfl
theorem tw_275 : (Jvm.Cond.instanceMethod ({ cls := "StarRight$Text", name := "faultInRoof", desc := "(II)I" } : Jvm.MethodName)) ∈ TB := tb_in 275 (by decide +kernel) rfl
theorem tw_276 : (Jvm.Cond.code ({ cls := "StarRight$Text", name := "faultInRoof", desc := "(II)I" } : Jvm.MethodName) prog_7_method_9_code (3 : Nat) (Option.some Jvm.ClassFile.FieldType.int)) ∈ TB := tb_in 276 (by decide +kernel) rfl
theorem tw_277 : (Jvm.Cond.methodLink "StarRight$Text" (38 : Nat) ({ cls := "StarRight$Text", name := "faultInStar", desc := "(I)I" } : Jvm.MethodName)) ∈ TB := tb_in 277 (by decide +kernel) rfl
theorem tw_279 : (Jvm.Cond.instanceMethod ({ cls := "StarRight$Text", name := "faultInStar", desc := "(I)I" } : Jvm.MethodName)) ∈ TB := tb_in 279 (by decide +kernel) rfl
theorem tw_280 : (Jvm.Cond.code ({ cls := "StarRight$Text", name := "faultInStar", desc := "(I)I" } : Jvm.MethodName) prog_7_method_10_code (2 : Nat) (Option.some Jvm.ClassFile.FieldType.int)) ∈ TB := tb_in 280 (by decide +kernel) rfl
theorem tw_281 : (Jvm.Cond.methodLink "StarRightLaw" (27 : Nat) ({ cls := "StarRight", name := "night", desc := "()I" } : Jvm.MethodName)) ∈ TB := tb_in 281 (by decide +kernel) rfl
theorem tw_282 : (Jvm.Cond.instanceMethod ({ cls := "StarRight", name := "night", desc := "()I" } : Jvm.MethodName)) ∈ TB := tb_in 282 (by decide +kernel) rfl
theorem tw_283 : (Jvm.Cond.selects "StarRight" ({ cls := "StarRight", name := "night", desc := "()I" } : Jvm.MethodName) ({ cls := "StarRight", name := "night", desc := "()I" } : Jvm.MethodName)) ∈ TB := tb_in 283 (by decide +kernel) rfl
theorem tw_284 : (Jvm.Cond.code ({ cls := "StarRight", name := "night", desc := "()I" } : Jvm.MethodName) prog_1_method_5_code (1 : Nat) (Option.some Jvm.ClassFile.FieldType.int)) ∈ TB := tb_in 284 (by decide +kernel) rfl
theorem tw_285 : (Jvm.Cond.methodLink "StarRight" (90 : Nat) ({ cls := "StarRight$Town", name := "clear", desc := "()V" } : Jvm.MethodName)) ∈ TB := tb_in 285 (by decide +kernel) rfl
theorem tw_286 : (Jvm.Cond.instanceMethod ({ cls := "StarRight$Town", name := "clear", desc := "()V" } : Jvm.MethodName)) ∈ TB := tb_in 286 (by decide +kernel) rfl
theorem tw_287 : (Jvm.Cond.selects "StarRight$Town" ({ cls := "StarRight$Town", name := "clear", desc := "()V" } : Jvm.MethodName) ({ cls := "StarRight$Town", name := "clear", desc := "()V" } : Jvm.MethodName)) ∈ TB := tb_in 287 (by decide +kernel) rfl
theorem tw_288 : (Jvm.Cond.code ({ cls := "StarRight$Town", name := "clear", desc := "()V" } : Jvm.MethodName) prog_8_method_2_code (2 : Nat) (Option.none : Option Jvm.ClassFile.FieldType)) ∈ TB := tb_in 288 (by decide +kernel) rfl
theorem tw_289 : (Jvm.Cond.methodLink "StarRight" (92 : Nat) ({ cls := "StarRight$Stars", name := "clear", desc := "()V" } : Jvm.MethodName)) ∈ TB := tb_in 289 (by decide +kernel) rfl
theorem tw_290 : (Jvm.Cond.instanceMethod ({ cls := "StarRight$Stars", name := "clear", desc := "()V" } : Jvm.MethodName)) ∈ TB := tb_in 290 (by decide +kernel) rfl
theorem tw_291 : (Jvm.Cond.selects "StarRight$Stars" ({ cls := "StarRight$Stars", name := "clear", desc := "()V" } : Jvm.MethodName) ({ cls := "StarRight$Stars", name := "clear", desc := "()V" } : Jvm.MethodName)) ∈ TB := tb_in 291 (by decide +kernel) rfl
theorem tw_292 : (Jvm.Cond.code ({ cls := "StarRight$Stars", name := "clear", desc := "()V" } : Jvm.MethodName) prog_6_method_2_code (1 : Nat) (Option.none : Option Jvm.ClassFile.FieldType)) ∈ TB := tb_in 292 (by decide +kernel) rfl
theorem tw_293 : (Jvm.Cond.methodLink "StarRight" (93 : Nat) ({ cls := "StarRight$Acts", name := "clear", desc := "()V" } : Jvm.MethodName)) ∈ TB := tb_in 293 (by decide +kernel) rfl
theorem tw_294 : (Jvm.Cond.instanceMethod ({ cls := "StarRight$Acts", name := "clear", desc := "()V" } : Jvm.MethodName)) ∈ TB := tb_in 294 (by decide +kernel) rfl
theorem tw_295 : (Jvm.Cond.selects "StarRight$Acts" ({ cls := "StarRight$Acts", name := "clear", desc := "()V" } : Jvm.MethodName) ({ cls := "StarRight$Acts", name := "clear", desc := "()V" } : Jvm.MethodName)) ∈ TB := tb_in 295 (by decide +kernel) rfl
theorem tw_296 : (Jvm.Cond.code ({ cls := "StarRight$Acts", name := "clear", desc := "()V" } : Jvm.MethodName) prog_2_method_2_code (1 : Nat) (Option.none : Option Jvm.ClassFile.FieldType)) ∈ TB := tb_in 296 (by decide +kernel) rfl
theorem tw_297 : (Jvm.Cond.methodLink "StarRight" (98 : Nat) ({ cls := "StarRight$Text", name := "law", desc := "()I" } : Jvm.MethodName)) ∈ TB := tb_in 297 (by decide +kernel) rfl
theorem tw_298 : (Jvm.Cond.instanceMethod ({ cls := "StarRight$Text", name := "law", desc := "()I" } : Jvm.MethodName)) ∈ TB := tb_in 298 (by decide +kernel) rfl
theorem tw_299 : (Jvm.Cond.selects "StarRight$Text" ({ cls := "StarRight$Text", name := "law", desc := "()I" } : Jvm.MethodName) ({ cls := "StarRight$Text", name := "law", desc := "()I" } : Jvm.MethodName)) ∈ TB := tb_in 299 (by decide +kernel) rfl
theorem tw_300 : (Jvm.Cond.code ({ cls := "StarRight$Text", name := "law", desc := "()I" } : Jvm.MethodName) prog_7_method_11_code (1 : Nat) (Option.some Jvm.ClassFile.FieldType.int)) ∈ TB := tb_in 300 (by decide +kernel) rfl
theorem tw_301 : (Jvm.Cond.methodLink "StarRight" (104 : Nat) ({ cls := "StarRight$Text", name := "tellParts", desc := "(LStarRight$Town;LStarRight$Stars;)V" } : Jvm.MethodName)) ∈ TB := tb_in 301 (by decide +kernel) rfl
theorem tw_302 : (Jvm.Cond.instanceMethod ({ cls := "StarRight$Text", name := "tellParts", desc := "(LStarRight$Town;LStarRight$Stars;)V" } : Jvm.MethodName)) ∈ TB := tb_in 302 (by decide +kernel) rfl
theorem tw_303 : (Jvm.Cond.selects "StarRight$Text" ({ cls := "StarRight$Text", name := "tellParts", desc := "(LStarRight$Town;LStarRight$Stars;)V" } : Jvm.MethodName) ({ cls := "StarRight$Text", name := "tellParts", desc := "(LStarRight$Town;LStarRight$Stars;)V" } : Jvm.MethodName)) ∈ TB := tb_in 303 (by decide +kernel) rfl
theorem tw_304 : (Jvm.Cond.code ({ cls := "StarRight$Text", name := "tellParts", desc := "(LStarRight$Town;LStarRight$Stars;)V" } : Jvm.MethodName) prog_7_method_12_code (4 : Nat) (Option.none : Option Jvm.ClassFile.FieldType)) ∈ TB := tb_in 304 (by decide +kernel) rfl
theorem tw_305 : (Jvm.Cond.methodLink "StarRight$Text" (41 : Nat) ({ cls := "StarRight$Town", name := "addRoof", desc := "(IIII)V" } : Jvm.MethodName)) ∈ TB := tb_in 305 (by decide +kernel) rfl
theorem tw_306 : (Jvm.Cond.instanceMethod ({ cls := "StarRight$Town", name := "addRoof", desc := "(IIII)V" } : Jvm.MethodName)) ∈ TB := tb_in 306 (by decide +kernel) rfl
theorem tw_307 : (Jvm.Cond.selects "StarRight$Town" ({ cls := "StarRight$Town", name := "addRoof", desc := "(IIII)V" } : Jvm.MethodName) ({ cls := "StarRight$Town", name := "addRoof", desc := "(IIII)V" } : Jvm.MethodName)) ∈ TB := tb_in 307 (by decide +kernel) rfl
theorem tw_308 : (Jvm.Cond.code ({ cls := "StarRight$Town", name := "addRoof", desc := "(IIII)V" } : Jvm.MethodName) prog_8_method_4_code (5 : Nat) (Option.none : Option Jvm.ClassFile.FieldType)) ∈ TB := tb_in 308 (by decide +kernel) rfl
theorem tw_309 : (Jvm.Cond.methodLink "StarRight$Text" (47 : Nat) ({ cls := "StarRight$Stars", name := "addStar", desc := "(III)V" } : Jvm.MethodName)) ∈ TB := tb_in 309 (by decide +kernel) rfl
theorem tw_310 : (Jvm.Cond.instanceMethod ({ cls := "StarRight$Stars", name := "addStar", desc := "(III)V" } : Jvm.MethodName)) ∈ TB := tb_in 310 (by decide +kernel) rfl
theorem tw_311 : (Jvm.Cond.selects "StarRight$Stars" ({ cls := "StarRight$Stars", name := "addStar", desc := "(III)V" } : Jvm.MethodName) ({ cls := "StarRight$Stars", name := "addStar", desc := "(III)V" } : Jvm.MethodName)) ∈ TB := tb_in 311 (by decide +kernel) rfl
theorem tw_312 : (Jvm.Cond.code ({ cls := "StarRight$Stars", name := "addStar", desc := "(III)V" } : Jvm.MethodName) prog_6_method_3_code (4 : Nat) (Option.none : Option Jvm.ClassFile.FieldType)) ∈ TB := tb_in 312 (by decide +kernel) rfl
theorem tw_313 : (Jvm.Cond.methodLink "StarRightLaw" (31 : Nat) ({ cls := "StarRight", name := "about", desc := "(I)I" } : Jvm.MethodName)) ∈ TB := tb_in 313 (by decide +kernel) rfl
theorem tw_314 : (Jvm.Cond.instanceMethod ({ cls := "StarRight", name := "about", desc := "(I)I" } : Jvm.MethodName)) ∈ TB := tb_in 314 (by decide +kernel) rfl
theorem tw_315 : (Jvm.Cond.selects "StarRight" ({ cls := "StarRight", name := "about", desc := "(I)I" } : Jvm.MethodName) ({ cls := "StarRight", name := "about", desc := "(I)I" } : Jvm.MethodName)) ∈ TB := tb_in 315 (by decide +kernel) rfl
theorem tw_316 : (Jvm.Cond.code ({ cls := "StarRight", name := "about", desc := "(I)I" } : Jvm.MethodName) prog_1_method_6_code (2 : Nat) (Option.some Jvm.ClassFile.FieldType.int)) ∈ TB := tb_in 316 (by decide +kernel) rfl
theorem tw_317 : (Jvm.Cond.methodLink "StarRight" (123 : Nat) ({ cls := "StarRight$Town", name := "shadedRoofs", desc := "()I" } : Jvm.MethodName)) ∈ TB := tb_in 317 (by decide +kernel) rfl
theorem tw_318 : (Jvm.Cond.instanceMethod ({ cls := "StarRight$Town", name := "shadedRoofs", desc := "()I" } : Jvm.MethodName)) ∈ TB := tb_in 318 (by decide +kernel) rfl
theorem tw_319 : (Jvm.Cond.selects "StarRight$Town" ({ cls := "StarRight$Town", name := "shadedRoofs", desc := "()I" } : Jvm.MethodName) ({ cls := "StarRight$Town", name := "shadedRoofs", desc := "()I" } : Jvm.MethodName)) ∈ TB := tb_in 319 (by decide +kernel) rfl
theorem tw_320 : (Jvm.Cond.code ({ cls := "StarRight$Town", name := "shadedRoofs", desc := "()I" } : Jvm.MethodName) prog_8_method_10_code (3 : Nat) (Option.some Jvm.ClassFile.FieldType.int)) ∈ TB := tb_in 320 (by decide +kernel) rfl
theorem tw_321 : (Jvm.Cond.methodLink "StarRight$Town" (48 : Nat) ({ cls := "StarRight$Town", name := "everyRoof", desc := "()I" } : Jvm.MethodName)) ∈ TB := tb_in 321 (by decide +kernel) rfl
theorem tw_322 : (Jvm.Cond.instanceMethod ({ cls := "StarRight$Town", name := "everyRoof", desc := "()I" } : Jvm.MethodName)) ∈ TB := tb_in 322 (by decide +kernel) rfl
theorem tw_323 : (Jvm.Cond.selects "StarRight$Town" ({ cls := "StarRight$Town", name := "everyRoof", desc := "()I" } : Jvm.MethodName) ({ cls := "StarRight$Town", name := "everyRoof", desc := "()I" } : Jvm.MethodName)) ∈ TB := tb_in 323 (by decide +kernel) rfl
theorem tw_324 : (Jvm.Cond.code ({ cls := "StarRight$Town", name := "everyRoof", desc := "()I" } : Jvm.MethodName) prog_8_method_8_code (1 : Nat) (Option.some Jvm.ClassFile.FieldType.int)) ∈ TB := tb_in 324 (by decide +kernel) rfl
theorem tw_325 : (Jvm.Cond.methodLink "StarRight$Town" (52 : Nat) ({ cls := "StarRight$Town", name := "isShaded", desc := "(II)Z" } : Jvm.MethodName)) ∈ TB := tb_in 325 (by decide +kernel) rfl
theorem tw_327 : (Jvm.Cond.instanceMethod ({ cls := "StarRight$Town", name := "isShaded", desc := "(II)Z" } : Jvm.MethodName)) ∈ TB := tb_in 327 (by decide +kernel) rfl
theorem tw_328 : (Jvm.Cond.code ({ cls := "StarRight$Town", name := "isShaded", desc := "(II)Z" } : Jvm.MethodName) prog_8_method_12_code (5 : Nat) (Option.some Jvm.ClassFile.FieldType.boolean)) ∈ TB := tb_in 328 (by decide +kernel) rfl
theorem tw_329 : (Jvm.Cond.methodLink "StarRight$Town" (44 : Nat) ({ cls := "StarRight$Town", name := "hasRoof", desc := "(I)Z" } : Jvm.MethodName)) ∈ TB := tb_in 329 (by decide +kernel) rfl
theorem tw_330 : (Jvm.Cond.instanceMethod ({ cls := "StarRight$Town", name := "hasRoof", desc := "(I)Z" } : Jvm.MethodName)) ∈ TB := tb_in 330 (by decide +kernel) rfl
theorem tw_331 : (Jvm.Cond.selects "StarRight$Town" ({ cls := "StarRight$Town", name := "hasRoof", desc := "(I)Z" } : Jvm.MethodName) ({ cls := "StarRight$Town", name := "hasRoof", desc := "(I)Z" } : Jvm.MethodName)) ∈ TB := tb_in 331 (by decide +kernel) rfl
theorem tw_332 : (Jvm.Cond.code ({ cls := "StarRight$Town", name := "hasRoof", desc := "(I)Z" } : Jvm.MethodName) prog_8_method_5_code (2 : Nat) (Option.some Jvm.ClassFile.FieldType.boolean)) ∈ TB := tb_in 332 (by decide +kernel) rfl
theorem tw_333 : (Jvm.Cond.methodLink "StarRight$Town" (62 : Nat) ({ cls := "StarRight$Town", name := "distance", desc := "(II)I" } : Jvm.MethodName)) ∈ TB := tb_in 333 (by decide +kernel) rfl
theorem tw_335 : (Jvm.Cond.instanceMethod ({ cls := "StarRight$Town", name := "distance", desc := "(II)I" } : Jvm.MethodName)) ∈ TB := tb_in 335 (by decide +kernel) rfl
theorem tw_336 : (Jvm.Cond.code ({ cls := "StarRight$Town", name := "distance", desc := "(II)I" } : Jvm.MethodName) prog_8_method_11_code (3 : Nat) (Option.some Jvm.ClassFile.FieldType.int)) ∈ TB := tb_in 336 (by decide +kernel) rfl
theorem tw_337 : (Jvm.Cond.methodLink "StarRight$Town" (56 : Nat) ({ cls := "java/lang/Math", name := "abs", desc := "(I)I" } : Jvm.MethodName)) ∈ TB := tb_in 337 (by decide +kernel) rfl
theorem tw_338 : (Jvm.Cond.static ({ cls := "java/lang/Math", name := "abs", desc := "(I)I" } : Jvm.MethodName)) ∈ TB := tb_in 338 (by decide +kernel) rfl
theorem tw_339 : (Jvm.Cond.code ({ cls := "java/lang/Math", name := "abs", desc := "(I)I" } : Jvm.MethodName) prog_14_method_59_code (1 : Nat) (Option.some Jvm.ClassFile.FieldType.int)) ∈ TB := tb_in 339 (by decide +kernel) rfl
theorem tw_340 : (Jvm.Cond.methodLink "StarRightLaw" (35 : Nat) ({ cls := "StarRight", name := "roof", desc := "(II)I" } : Jvm.MethodName)) ∈ TB := tb_in 340 (by decide +kernel) rfl
theorem tw_341 : (Jvm.Cond.instanceMethod ({ cls := "StarRight", name := "roof", desc := "(II)I" } : Jvm.MethodName)) ∈ TB := tb_in 341 (by decide +kernel) rfl
theorem tw_342 : (Jvm.Cond.selects "StarRight" ({ cls := "StarRight", name := "roof", desc := "(II)I" } : Jvm.MethodName) ({ cls := "StarRight", name := "roof", desc := "(II)I" } : Jvm.MethodName)) ∈ TB := tb_in 342 (by decide +kernel) rfl
theorem tw_343 : (Jvm.Cond.code ({ cls := "StarRight", name := "roof", desc := "(II)I" } : Jvm.MethodName) prog_1_method_7_code (3 : Nat) (Option.some Jvm.ClassFile.FieldType.int)) ∈ TB := tb_in 343 (by decide +kernel) rfl
theorem tw_344 : (Jvm.Cond.methodLink "StarRight" (131 : Nat) ({ cls := "StarRight$Town", name := "hasRoof", desc := "(I)Z" } : Jvm.MethodName)) ∈ TB := tb_in 344 (by decide +kernel) rfl
theorem tw_345 : (Jvm.Cond.methodLink "StarRight" (144 : Nat) ({ cls := "StarRight$Town", name := "everyRoof", desc := "()I" } : Jvm.MethodName)) ∈ TB := tb_in 345 (by decide +kernel) rfl
theorem tw_346 : (Jvm.Cond.methodLink "StarRight" (147 : Nat) ({ cls := "StarRight$Town", name := "cellsSeen", desc := "(II)I" } : Jvm.MethodName)) ∈ TB := tb_in 346 (by decide +kernel) rfl
theorem tw_347 : (Jvm.Cond.instanceMethod ({ cls := "StarRight$Town", name := "cellsSeen", desc := "(II)I" } : Jvm.MethodName)) ∈ TB := tb_in 347 (by decide +kernel) rfl
theorem tw_348 : (Jvm.Cond.selects "StarRight$Town" ({ cls := "StarRight$Town", name := "cellsSeen", desc := "(II)I" } : Jvm.MethodName) ({ cls := "StarRight$Town", name := "cellsSeen", desc := "(II)I" } : Jvm.MethodName)) ∈ TB := tb_in 348 (by decide +kernel) rfl
theorem tw_349 : (Jvm.Cond.code ({ cls := "StarRight$Town", name := "cellsSeen", desc := "(II)I" } : Jvm.MethodName) prog_8_method_13_code (6 : Nat) (Option.some Jvm.ClassFile.FieldType.int)) ∈ TB := tb_in 349 (by decide +kernel) rfl
theorem tw_350 : (Jvm.Cond.methodLink "StarRight" (151 : Nat) ({ cls := "StarRight", name := "starsHeldNow", desc := "(I)I" } : Jvm.MethodName)) ∈ TB := tb_in 350 (by decide +kernel) rfl
theorem tw_352 : (Jvm.Cond.instanceMethod ({ cls := "StarRight", name := "starsHeldNow", desc := "(I)I" } : Jvm.MethodName)) ∈ TB := tb_in 352 (by decide +kernel) rfl
theorem tw_353 : (Jvm.Cond.code ({ cls := "StarRight", name := "starsHeldNow", desc := "(I)I" } : Jvm.MethodName) prog_1_method_8_code (4 : Nat) (Option.some Jvm.ClassFile.FieldType.int)) ∈ TB := tb_in 353 (by decide +kernel) rfl
theorem tw_354 : (Jvm.Cond.methodLink "StarRight" (154 : Nat) ({ cls := "StarRight", name := "surveyTown", desc := "()V" } : Jvm.MethodName)) ∈ TB := tb_in 354 (by decide +kernel) rfl
theorem tw_356 : (Jvm.Cond.instanceMethod ({ cls := "StarRight", name := "surveyTown", desc := "()V" } : Jvm.MethodName)) ∈ TB := tb_in 356 (by decide +kernel) rfl
theorem tw_357 : (Jvm.Cond.code ({ cls := "StarRight", name := "surveyTown", desc := "()V" } : Jvm.MethodName) prog_1_method_12_code (1 : Nat) (Option.none : Option Jvm.ClassFile.FieldType)) ∈ TB := tb_in 357 (by decide +kernel) rfl
theorem tw_358 : (Jvm.Cond.methodLink "StarRight" (182 : Nat) ({ cls := "StarRight$Sight", name := "survey", desc := "(LStarRight$Town;II)V" } : Jvm.MethodName)) ∈ TB := tb_in 358 (by decide +kernel) rfl
theorem tw_359 : (Jvm.Cond.instanceMethod ({ cls := "StarRight$Sight", name := "survey", desc := "(LStarRight$Town;II)V" } : Jvm.MethodName)) ∈ TB := tb_in 359 (by decide +kernel) rfl
theorem tw_360 : (Jvm.Cond.selects "StarRight$Sight" ({ cls := "StarRight$Sight", name := "survey", desc := "(LStarRight$Town;II)V" } : Jvm.MethodName) ({ cls := "StarRight$Sight", name := "survey", desc := "(LStarRight$Town;II)V" } : Jvm.MethodName)) ∈ TB := tb_in 360 (by decide +kernel) rfl
theorem tw_361 : (Jvm.Cond.code ({ cls := "StarRight$Sight", name := "survey", desc := "(LStarRight$Town;II)V" } : Jvm.MethodName) prog_4_method_2_code (6 : Nat) (Option.none : Option Jvm.ClassFile.FieldType)) ∈ TB := tb_in 361 (by decide +kernel) rfl
theorem tw_362 : (Jvm.Cond.methodLink "StarRight$Sight" (21 : Nat) ({ cls := "StarRight$Town", name := "cellsSeen", desc := "(II)I" } : Jvm.MethodName)) ∈ TB := tb_in 362 (by decide +kernel) rfl
theorem tw_363 : (Jvm.Cond.methodLink "StarRight$Sight" (27 : Nat) ({ cls := "StarRight$Town", name := "smokeAround", desc := "(II)I" } : Jvm.MethodName)) ∈ TB := tb_in 363 (by decide +kernel) rfl
theorem tw_364 : (Jvm.Cond.instanceMethod ({ cls := "StarRight$Town", name := "smokeAround", desc := "(II)I" } : Jvm.MethodName)) ∈ TB := tb_in 364 (by decide +kernel) rfl
theorem tw_365 : (Jvm.Cond.selects "StarRight$Town" ({ cls := "StarRight$Town", name := "smokeAround", desc := "(II)I" } : Jvm.MethodName) ({ cls := "StarRight$Town", name := "smokeAround", desc := "(II)I" } : Jvm.MethodName)) ∈ TB := tb_in 365 (by decide +kernel) rfl
theorem tw_366 : (Jvm.Cond.code ({ cls := "StarRight$Town", name := "smokeAround", desc := "(II)I" } : Jvm.MethodName) prog_8_method_14_code (6 : Nat) (Option.some Jvm.ClassFile.FieldType.int)) ∈ TB := tb_in 366 (by decide +kernel) rfl
theorem tw_367 : (Jvm.Cond.methodLink "StarRight$Sight" (30 : Nat) ({ cls := "StarRight$Sight", name := "holderByLaw", desc := "(LStarRight$Town;II)I" } : Jvm.MethodName)) ∈ TB := tb_in 367 (by decide +kernel) rfl
theorem tw_369 : (Jvm.Cond.instanceMethod ({ cls := "StarRight$Sight", name := "holderByLaw", desc := "(LStarRight$Town;II)I" } : Jvm.MethodName)) ∈ TB := tb_in 369 (by decide +kernel) rfl
theorem tw_370 : (Jvm.Cond.code ({ cls := "StarRight$Sight", name := "holderByLaw", desc := "(LStarRight$Town;II)I" } : Jvm.MethodName) prog_4_method_3_code (7 : Nat) (Option.some Jvm.ClassFile.FieldType.int)) ∈ TB := tb_in 370 (by decide +kernel) rfl
theorem tw_371 : (Jvm.Cond.methodLink "StarRight$Sight" (34 : Nat) ({ cls := "StarRight$Town", name := "goesAhead", desc := "(IIII)Z" } : Jvm.MethodName)) ∈ TB := tb_in 371 (by decide +kernel) rfl
theorem tw_372 : (Jvm.Cond.instanceMethod ({ cls := "StarRight$Town", name := "goesAhead", desc := "(IIII)Z" } : Jvm.MethodName)) ∈ TB := tb_in 372 (by decide +kernel) rfl
theorem tw_373 : (Jvm.Cond.selects "StarRight$Town" ({ cls := "StarRight$Town", name := "goesAhead", desc := "(IIII)Z" } : Jvm.MethodName) ({ cls := "StarRight$Town", name := "goesAhead", desc := "(IIII)Z" } : Jvm.MethodName)) ∈ TB := tb_in 373 (by decide +kernel) rfl
theorem tw_374 : (Jvm.Cond.code ({ cls := "StarRight$Town", name := "goesAhead", desc := "(IIII)Z" } : Jvm.MethodName) prog_8_method_15_code (6 : Nat) (Option.some Jvm.ClassFile.FieldType.boolean)) ∈ TB := tb_in 374 (by decide +kernel) rfl
theorem tw_375 : (Jvm.Cond.methodLink "StarRight" (157 : Nat) ({ cls := "StarRight$Stars", name := "cellAt", desc := "(II)I" } : Jvm.MethodName)) ∈ TB := tb_in 375 (by decide +kernel) rfl
theorem tw_376 : (Jvm.Cond.instanceMethod ({ cls := "StarRight$Stars", name := "cellAt", desc := "(II)I" } : Jvm.MethodName)) ∈ TB := tb_in 376 (by decide +kernel) rfl
theorem tw_377 : (Jvm.Cond.selects "StarRight$Stars" ({ cls := "StarRight$Stars", name := "cellAt", desc := "(II)I" } : Jvm.MethodName) ({ cls := "StarRight$Stars", name := "cellAt", desc := "(II)I" } : Jvm.MethodName)) ∈ TB := tb_in 377 (by decide +kernel) rfl
theorem tw_378 : (Jvm.Cond.code ({ cls := "StarRight$Stars", name := "cellAt", desc := "(II)I" } : Jvm.MethodName) prog_6_method_5_code (3 : Nat) (Option.some Jvm.ClassFile.FieldType.int)) ∈ TB := tb_in 378 (by decide +kernel) rfl
theorem tw_379 : (Jvm.Cond.methodLink "StarRight$Stars" (25 : Nat) ({ cls := "StarRight$Stars", name := "hasStar", desc := "(I)Z" } : Jvm.MethodName)) ∈ TB := tb_in 379 (by decide +kernel) rfl
theorem tw_380 : (Jvm.Cond.instanceMethod ({ cls := "StarRight$Stars", name := "hasStar", desc := "(I)Z" } : Jvm.MethodName)) ∈ TB := tb_in 380 (by decide +kernel) rfl
theorem tw_381 : (Jvm.Cond.selects "StarRight$Stars" ({ cls := "StarRight$Stars", name := "hasStar", desc := "(I)Z" } : Jvm.MethodName) ({ cls := "StarRight$Stars", name := "hasStar", desc := "(I)Z" } : Jvm.MethodName)) ∈ TB := tb_in 381 (by decide +kernel) rfl
theorem tw_382 : (Jvm.Cond.code ({ cls := "StarRight$Stars", name := "hasStar", desc := "(I)Z" } : Jvm.MethodName) prog_6_method_4_code (2 : Nat) (Option.some Jvm.ClassFile.FieldType.boolean)) ∈ TB := tb_in 382 (by decide +kernel) rfl
theorem tw_383 : (Jvm.Cond.methodLink "StarRight$Stars" (29 : Nat) ({ cls := "StarRight$Stars", name := "walkedTo", desc := "(III)I" } : Jvm.MethodName)) ∈ TB := tb_in 383 (by decide +kernel) rfl
theorem tw_384 : (Jvm.Cond.static ({ cls := "StarRight$Stars", name := "walkedTo", desc := "(III)I" } : Jvm.MethodName)) ∈ TB := tb_in 384 (by decide +kernel) rfl
theorem tw_385 : (Jvm.Cond.code ({ cls := "StarRight$Stars", name := "walkedTo", desc := "(III)I" } : Jvm.MethodName) prog_6_method_6_code (3 : Nat) (Option.some Jvm.ClassFile.FieldType.int)) ∈ TB := tb_in 385 (by decide +kernel) rfl
theorem tw_386 : (Jvm.Cond.methodLink "StarRight" (160 : Nat) ({ cls := "StarRight$Sight", name := "holderOver", desc := "(I)I" } : Jvm.MethodName)) ∈ TB := tb_in 386 (by decide +kernel) rfl
theorem tw_387 : (Jvm.Cond.instanceMethod ({ cls := "StarRight$Sight", name := "holderOver", desc := "(I)I" } : Jvm.MethodName)) ∈ TB := tb_in 387 (by decide +kernel) rfl
theorem tw_388 : (Jvm.Cond.selects "StarRight$Sight" ({ cls := "StarRight$Sight", name := "holderOver", desc := "(I)I" } : Jvm.MethodName) ({ cls := "StarRight$Sight", name := "holderOver", desc := "(I)I" } : Jvm.MethodName)) ∈ TB := tb_in 388 (by decide +kernel) rfl
theorem tw_389 : (Jvm.Cond.code ({ cls := "StarRight$Sight", name := "holderOver", desc := "(I)I" } : Jvm.MethodName) prog_4_method_5_code (2 : Nat) (Option.some Jvm.ClassFile.FieldType.int)) ∈ TB := tb_in 389 (by decide +kernel) rfl
theorem tw_390 : (Jvm.Cond.methodLink "StarRightLaw" (40 : Nat) ({ cls := "StarRight", name := "star", desc := "(II)I" } : Jvm.MethodName)) ∈ TB := tb_in 390 (by decide +kernel) rfl
theorem tw_391 : (Jvm.Cond.instanceMethod ({ cls := "StarRight", name := "star", desc := "(II)I" } : Jvm.MethodName)) ∈ TB := tb_in 391 (by decide +kernel) rfl
theorem tw_392 : (Jvm.Cond.selects "StarRight" ({ cls := "StarRight", name := "star", desc := "(II)I" } : Jvm.MethodName) ({ cls := "StarRight", name := "star", desc := "(II)I" } : Jvm.MethodName)) ∈ TB := tb_in 392 (by decide +kernel) rfl
theorem tw_393 : (Jvm.Cond.code ({ cls := "StarRight", name := "star", desc := "(II)I" } : Jvm.MethodName) prog_1_method_9_code (3 : Nat) (Option.some Jvm.ClassFile.FieldType.int)) ∈ TB := tb_in 393 (by decide +kernel) rfl
theorem tw_394 : (Jvm.Cond.methodLink "StarRight" (163 : Nat) ({ cls := "StarRight$Stars", name := "hasStar", desc := "(I)Z" } : Jvm.MethodName)) ∈ TB := tb_in 394 (by decide +kernel) rfl
theorem tw_395 : (Jvm.Cond.methodLink "StarRight" (172 : Nat) ({ cls := "StarRight$Sight", name := "payOf", desc := "(LStarRight$Stars;II)I" } : Jvm.MethodName)) ∈ TB := tb_in 395 (by decide +kernel) rfl
theorem tw_396 : (Jvm.Cond.instanceMethod ({ cls := "StarRight$Sight", name := "payOf", desc := "(LStarRight$Stars;II)I" } : Jvm.MethodName)) ∈ TB := tb_in 396 (by decide +kernel) rfl
theorem tw_397 : (Jvm.Cond.selects "StarRight$Sight" ({ cls := "StarRight$Sight", name := "payOf", desc := "(LStarRight$Stars;II)I" } : Jvm.MethodName) ({ cls := "StarRight$Sight", name := "payOf", desc := "(LStarRight$Stars;II)I" } : Jvm.MethodName)) ∈ TB := tb_in 397 (by decide +kernel) rfl
theorem tw_398 : (Jvm.Cond.code ({ cls := "StarRight$Sight", name := "payOf", desc := "(LStarRight$Stars;II)I" } : Jvm.MethodName) prog_4_method_7_code (4 : Nat) (Option.some Jvm.ClassFile.FieldType.int)) ∈ TB := tb_in 398 (by decide +kernel) rfl
theorem tw_399 : (Jvm.Cond.methodLink "StarRight$Sight" (51 : Nat) ({ cls := "StarRight$Stars", name := "hasStar", desc := "(I)Z" } : Jvm.MethodName)) ∈ TB := tb_in 399 (by decide +kernel) rfl
theorem tw_400 : (Jvm.Cond.methodLink "StarRight$Sight" (44 : Nat) ({ cls := "StarRight$Stars", name := "cellAt", desc := "(II)I" } : Jvm.MethodName)) ∈ TB := tb_in 400 (by decide +kernel) rfl
theorem tw_401 : (Jvm.Cond.methodLink "StarRight$Sight" (47 : Nat) ({ cls := "StarRight$Sight", name := "holderOver", desc := "(I)I" } : Jvm.MethodName)) ∈ TB := tb_in 401 (by decide +kernel) rfl
theorem tw_402 : (Jvm.Cond.methodLink "StarRight$Sight" (58 : Nat) ({ cls := "StarRight$Sight", name := "payTo", desc := "(II)I" } : Jvm.MethodName)) ∈ TB := tb_in 402 (by decide +kernel) rfl
theorem tw_404 : (Jvm.Cond.instanceMethod ({ cls := "StarRight$Sight", name := "payTo", desc := "(II)I" } : Jvm.MethodName)) ∈ TB := tb_in 404 (by decide +kernel) rfl
theorem tw_405 : (Jvm.Cond.code ({ cls := "StarRight$Sight", name := "payTo", desc := "(II)I" } : Jvm.MethodName) prog_4_method_8_code (3 : Nat) (Option.some Jvm.ClassFile.FieldType.int)) ∈ TB := tb_in 405 (by decide +kernel) rfl
theorem tw_406 : (Jvm.Cond.methodLink "StarRight$Sight" (61 : Nat) ({ cls := "java/lang/Math", name := "max", desc := "(II)I" } : Jvm.MethodName)) ∈ TB := tb_in 406 (by decide +kernel) rfl
theorem tw_407 : (Jvm.Cond.static ({ cls := "java/lang/Math", name := "max", desc := "(II)I" } : Jvm.MethodName)) ∈ TB := tb_in 407 (by decide +kernel) rfl
theorem tw_408 : (Jvm.Cond.code ({ cls := "java/lang/Math", name := "max", desc := "(II)I" } : Jvm.MethodName) prog_14_method_65_code (2 : Nat) (Option.some Jvm.ClassFile.FieldType.int)) ∈ TB := tb_in 408 (by decide +kernel) rfl
theorem tw_409 : (Jvm.Cond.methodLink "StarRightLaw" (44 : Nat) ({ cls := "StarRight", name := "purse", desc := "(I)I" } : Jvm.MethodName)) ∈ TB := tb_in 409 (by decide +kernel) rfl
theorem tw_410 : (Jvm.Cond.instanceMethod ({ cls := "StarRight", name := "purse", desc := "(I)I" } : Jvm.MethodName)) ∈ TB := tb_in 410 (by decide +kernel) rfl
theorem tw_411 : (Jvm.Cond.selects "StarRight" ({ cls := "StarRight", name := "purse", desc := "(I)I" } : Jvm.MethodName) ({ cls := "StarRight", name := "purse", desc := "(I)I" } : Jvm.MethodName)) ∈ TB := tb_in 411 (by decide +kernel) rfl
theorem tw_412 : (Jvm.Cond.code ({ cls := "StarRight", name := "purse", desc := "(I)I" } : Jvm.MethodName) prog_1_method_10_code (2 : Nat) (Option.some Jvm.ClassFile.FieldType.int)) ∈ TB := tb_in 412 (by decide +kernel) rfl
theorem tw_413 : (Jvm.Cond.methodLink "StarRight" (176 : Nat) ({ cls := "StarRight", name := "isLandlord", desc := "(I)Z" } : Jvm.MethodName)) ∈ TB := tb_in 413 (by decide +kernel) rfl
theorem tw_414 : (Jvm.Cond.static ({ cls := "StarRight", name := "isLandlord", desc := "(I)Z" } : Jvm.MethodName)) ∈ TB := tb_in 414 (by decide +kernel) rfl
theorem tw_415 : (Jvm.Cond.code ({ cls := "StarRight", name := "isLandlord", desc := "(I)Z" } : Jvm.MethodName) prog_1_method_11_code (1 : Nat) (Option.some Jvm.ClassFile.FieldType.boolean)) ∈ TB := tb_in 415 (by decide +kernel) rfl
theorem tw_416 : (Jvm.Cond.methodLink "StarRightLaw" (48 : Nat) ({ cls := "StarRight", name := "build", desc := "(II)I" } : Jvm.MethodName)) ∈ TB := tb_in 416 (by decide +kernel) rfl
theorem tw_417 : (Jvm.Cond.instanceMethod ({ cls := "StarRight", name := "build", desc := "(II)I" } : Jvm.MethodName)) ∈ TB := tb_in 417 (by decide +kernel) rfl
theorem tw_418 : (Jvm.Cond.selects "StarRight" ({ cls := "StarRight", name := "build", desc := "(II)I" } : Jvm.MethodName) ({ cls := "StarRight", name := "build", desc := "(II)I" } : Jvm.MethodName)) ∈ TB := tb_in 418 (by decide +kernel) rfl
theorem tw_419 : (Jvm.Cond.code ({ cls := "StarRight", name := "build", desc := "(II)I" } : Jvm.MethodName) prog_1_method_13_code (4 : Nat) (Option.some Jvm.ClassFile.FieldType.int)) ∈ TB := tb_in 419 (by decide +kernel) rfl
theorem tw_420 : (Jvm.Cond.methodLink "StarRight" (186 : Nat) ({ cls := "StarRight$Town", name := "setHeight", desc := "(II)V" } : Jvm.MethodName)) ∈ TB := tb_in 420 (by decide +kernel) rfl
theorem tw_421 : (Jvm.Cond.instanceMethod ({ cls := "StarRight$Town", name := "setHeight", desc := "(II)V" } : Jvm.MethodName)) ∈ TB := tb_in 421 (by decide +kernel) rfl
theorem tw_422 : (Jvm.Cond.selects "StarRight$Town" ({ cls := "StarRight$Town", name := "setHeight", desc := "(II)V" } : Jvm.MethodName) ({ cls := "StarRight$Town", name := "setHeight", desc := "(II)V" } : Jvm.MethodName)) ∈ TB := tb_in 422 (by decide +kernel) rfl
theorem tw_423 : (Jvm.Cond.code ({ cls := "StarRight$Town", name := "setHeight", desc := "(II)V" } : Jvm.MethodName) prog_8_method_6_code (3 : Nat) (Option.none : Option Jvm.ClassFile.FieldType)) ∈ TB := tb_in 423 (by decide +kernel) rfl
theorem tw_424 : (Jvm.Cond.methodLink "StarRight" (190 : Nat) ({ cls := "StarRight$Acts", name := "add", desc := "(III)V" } : Jvm.MethodName)) ∈ TB := tb_in 424 (by decide +kernel) rfl
theorem tw_425 : (Jvm.Cond.instanceMethod ({ cls := "StarRight$Acts", name := "add", desc := "(III)V" } : Jvm.MethodName)) ∈ TB := tb_in 425 (by decide +kernel) rfl
theorem tw_426 : (Jvm.Cond.selects "StarRight$Acts" ({ cls := "StarRight$Acts", name := "add", desc := "(III)V" } : Jvm.MethodName) ({ cls := "StarRight$Acts", name := "add", desc := "(III)V" } : Jvm.MethodName)) ∈ TB := tb_in 426 (by decide +kernel) rfl
theorem tw_427 : (Jvm.Cond.code ({ cls := "StarRight$Acts", name := "add", desc := "(III)V" } : Jvm.MethodName) prog_2_method_3_code (4 : Nat) (Option.none : Option Jvm.ClassFile.FieldType)) ∈ TB := tb_in 427 (by decide +kernel) rfl
theorem tw_428 : (Jvm.Cond.methodLink "StarRight$Acts" (25 : Nat) ({ cls := "StarRight$Acts", name := "forgetFirst", desc := "()V" } : Jvm.MethodName)) ∈ TB := tb_in 428 (by decide +kernel) rfl
theorem tw_430 : (Jvm.Cond.instanceMethod ({ cls := "StarRight$Acts", name := "forgetFirst", desc := "()V" } : Jvm.MethodName)) ∈ TB := tb_in 430 (by decide +kernel) rfl
theorem tw_431 : (Jvm.Cond.code ({ cls := "StarRight$Acts", name := "forgetFirst", desc := "()V" } : Jvm.MethodName) prog_2_method_4_code (1 : Nat) (Option.none : Option Jvm.ClassFile.FieldType)) ∈ TB := tb_in 431 (by decide +kernel) rfl
theorem tw_432 : (Jvm.Cond.methodLink "StarRight$Acts" (28 : Nat) ({ cls := "java/lang/System", name := "arraycopy", desc := "(Ljava/lang/Object;ILjava/lang/Object;II)V" } : Jvm.MethodName)) ∈ TB := tb_in 432 (by decide +kernel) rfl
theorem tw_433 : (Jvm.Cond.static ({ cls := "java/lang/System", name := "arraycopy", desc := "(Ljava/lang/Object;ILjava/lang/Object;II)V" } : Jvm.MethodName)) ∈ TB := tb_in 433 (by decide +kernel) rfl
theorem tw_434 : (Jvm.Cond.native ({ cls := "java/lang/System", name := "arraycopy", desc := "(Ljava/lang/Object;ILjava/lang/Object;II)V" } : Jvm.MethodName)) ∈ TB := tb_in 434 (by decide +kernel) rfl
theorem tw_435 : (Jvm.Cond.methodLink "StarRightLaw" (52 : Nat) ({ cls := "StarRight", name := "light", desc := "(I)I" } : Jvm.MethodName)) ∈ TB := tb_in 435 (by decide +kernel) rfl
theorem tw_436 : (Jvm.Cond.instanceMethod ({ cls := "StarRight", name := "light", desc := "(I)I" } : Jvm.MethodName)) ∈ TB := tb_in 436 (by decide +kernel) rfl
theorem tw_437 : (Jvm.Cond.selects "StarRight" ({ cls := "StarRight", name := "light", desc := "(I)I" } : Jvm.MethodName) ({ cls := "StarRight", name := "light", desc := "(I)I" } : Jvm.MethodName)) ∈ TB := tb_in 437 (by decide +kernel) rfl
theorem tw_438 : (Jvm.Cond.code ({ cls := "StarRight", name := "light", desc := "(I)I" } : Jvm.MethodName) prog_1_method_14_code (2 : Nat) (Option.some Jvm.ClassFile.FieldType.int)) ∈ TB := tb_in 438 (by decide +kernel) rfl
theorem tw_439 : (Jvm.Cond.methodLink "StarRightLaw" (56 : Nat) ({ cls := "StarRight", name := "sell", desc := "(II)I" } : Jvm.MethodName)) ∈ TB := tb_in 439 (by decide +kernel) rfl
theorem tw_440 : (Jvm.Cond.instanceMethod ({ cls := "StarRight", name := "sell", desc := "(II)I" } : Jvm.MethodName)) ∈ TB := tb_in 440 (by decide +kernel) rfl
theorem tw_441 : (Jvm.Cond.selects "StarRight" ({ cls := "StarRight", name := "sell", desc := "(II)I" } : Jvm.MethodName) ({ cls := "StarRight", name := "sell", desc := "(II)I" } : Jvm.MethodName)) ∈ TB := tb_in 441 (by decide +kernel) rfl
theorem tw_442 : (Jvm.Cond.code ({ cls := "StarRight", name := "sell", desc := "(II)I" } : Jvm.MethodName) prog_1_method_15_code (4 : Nat) (Option.some Jvm.ClassFile.FieldType.int)) ∈ TB := tb_in 442 (by decide +kernel) rfl
theorem tw_443 : (Jvm.Cond.methodLink "StarRight" (193 : Nat) ({ cls := "StarRight$Town", name := "setOwner", desc := "(II)V" } : Jvm.MethodName)) ∈ TB := tb_in 443 (by decide +kernel) rfl
theorem tw_444 : (Jvm.Cond.instanceMethod ({ cls := "StarRight$Town", name := "setOwner", desc := "(II)V" } : Jvm.MethodName)) ∈ TB := tb_in 444 (by decide +kernel) rfl
theorem tw_445 : (Jvm.Cond.selects "StarRight$Town" ({ cls := "StarRight$Town", name := "setOwner", desc := "(II)V" } : Jvm.MethodName) ({ cls := "StarRight$Town", name := "setOwner", desc := "(II)V" } : Jvm.MethodName)) ∈ TB := tb_in 445 (by decide +kernel) rfl
theorem tw_446 : (Jvm.Cond.code ({ cls := "StarRight$Town", name := "setOwner", desc := "(II)V" } : Jvm.MethodName) prog_8_method_7_code (3 : Nat) (Option.none : Option Jvm.ClassFile.FieldType)) ∈ TB := tb_in 446 (by decide +kernel) rfl
theorem tw_447 : (Jvm.Cond.methodLink "StarRightLaw" (60 : Nat) ({ cls := "StarRight", name := "clouds", desc := "()I" } : Jvm.MethodName)) ∈ TB := tb_in 447 (by decide +kernel) rfl
theorem tw_448 : (Jvm.Cond.instanceMethod ({ cls := "StarRight", name := "clouds", desc := "()I" } : Jvm.MethodName)) ∈ TB := tb_in 448 (by decide +kernel) rfl
theorem tw_449 : (Jvm.Cond.selects "StarRight" ({ cls := "StarRight", name := "clouds", desc := "()I" } : Jvm.MethodName) ({ cls := "StarRight", name := "clouds", desc := "()I" } : Jvm.MethodName)) ∈ TB := tb_in 449 (by decide +kernel) rfl
theorem tw_450 : (Jvm.Cond.code ({ cls := "StarRight", name := "clouds", desc := "()I" } : Jvm.MethodName) prog_1_method_16_code (1 : Nat) (Option.some Jvm.ClassFile.FieldType.int)) ∈ TB := tb_in 450 (by decide +kernel) rfl
theorem tw_451 : (Jvm.Cond.methodLink "StarRightLaw" (64 : Nat) ({ cls := "StarRight", name := "hour", desc := "()I" } : Jvm.MethodName)) ∈ TB := tb_in 451 (by decide +kernel) rfl
theorem tw_452 : (Jvm.Cond.instanceMethod ({ cls := "StarRight", name := "hour", desc := "()I" } : Jvm.MethodName)) ∈ TB := tb_in 452 (by decide +kernel) rfl
theorem tw_453 : (Jvm.Cond.selects "StarRight" ({ cls := "StarRight", name := "hour", desc := "()I" } : Jvm.MethodName) ({ cls := "StarRight", name := "hour", desc := "()I" } : Jvm.MethodName)) ∈ TB := tb_in 453 (by decide +kernel) rfl
theorem tw_454 : (Jvm.Cond.code ({ cls := "StarRight", name := "hour", desc := "()I" } : Jvm.MethodName) prog_1_method_17_code (2 : Nat) (Option.some Jvm.ClassFile.FieldType.int)) ∈ TB := tb_in 454 (by decide +kernel) rfl
theorem tw_455 : (Jvm.Cond.methodLink "StarRight" (196 : Nat) ({ cls := "StarRight", name := "payPurses", desc := "(I)I" } : Jvm.MethodName)) ∈ TB := tb_in 455 (by decide +kernel) rfl
theorem tw_457 : (Jvm.Cond.instanceMethod ({ cls := "StarRight", name := "payPurses", desc := "(I)I" } : Jvm.MethodName)) ∈ TB := tb_in 457 (by decide +kernel) rfl
theorem tw_458 : (Jvm.Cond.code ({ cls := "StarRight", name := "payPurses", desc := "(I)I" } : Jvm.MethodName) prog_1_method_19_code (5 : Nat) (Option.some Jvm.ClassFile.FieldType.int)) ∈ TB := tb_in 458 (by decide +kernel) rfl
theorem tw_459 : (Jvm.Cond.methodLink "StarRight" (211 : Nat) ({ cls := "StarRight$Town", name := "roofsOf", desc := "(I)I" } : Jvm.MethodName)) ∈ TB := tb_in 459 (by decide +kernel) rfl
theorem tw_460 : (Jvm.Cond.instanceMethod ({ cls := "StarRight$Town", name := "roofsOf", desc := "(I)I" } : Jvm.MethodName)) ∈ TB := tb_in 460 (by decide +kernel) rfl
theorem tw_461 : (Jvm.Cond.selects "StarRight$Town" ({ cls := "StarRight$Town", name := "roofsOf", desc := "(I)I" } : Jvm.MethodName) ({ cls := "StarRight$Town", name := "roofsOf", desc := "(I)I" } : Jvm.MethodName)) ∈ TB := tb_in 461 (by decide +kernel) rfl
theorem tw_462 : (Jvm.Cond.code ({ cls := "StarRight$Town", name := "roofsOf", desc := "(I)I" } : Jvm.MethodName) prog_8_method_9_code (4 : Nat) (Option.some Jvm.ClassFile.FieldType.int)) ∈ TB := tb_in 462 (by decide +kernel) rfl
theorem tw_463 : (Jvm.Cond.methodLink "StarRight" (214 : Nat) ({ cls := "StarRight$Sight", name := "takings", desc := "(LStarRight$Town;LStarRight$Stars;II)I" } : Jvm.MethodName)) ∈ TB := tb_in 463 (by decide +kernel) rfl
theorem tw_464 : (Jvm.Cond.instanceMethod ({ cls := "StarRight$Sight", name := "takings", desc := "(LStarRight$Town;LStarRight$Stars;II)I" } : Jvm.MethodName)) ∈ TB := tb_in 464 (by decide +kernel) rfl
theorem tw_465 : (Jvm.Cond.selects "StarRight$Sight" ({ cls := "StarRight$Sight", name := "takings", desc := "(LStarRight$Town;LStarRight$Stars;II)I" } : Jvm.MethodName) ({ cls := "StarRight$Sight", name := "takings", desc := "(LStarRight$Town;LStarRight$Stars;II)I" } : Jvm.MethodName)) ∈ TB := tb_in 465 (by decide +kernel) rfl
theorem tw_466 : (Jvm.Cond.code ({ cls := "StarRight$Sight", name := "takings", desc := "(LStarRight$Town;LStarRight$Stars;II)I" } : Jvm.MethodName) prog_4_method_10_code (7 : Nat) (Option.some Jvm.ClassFile.FieldType.int)) ∈ TB := tb_in 466 (by decide +kernel) rfl
theorem tw_467 : (Jvm.Cond.methodLink "StarRight$Sight" (73 : Nat) ({ cls := "StarRight$Sight", name := "paidAt", desc := "(LStarRight$Stars;II)I" } : Jvm.MethodName)) ∈ TB := tb_in 467 (by decide +kernel) rfl
theorem tw_468 : (Jvm.Cond.instanceMethod ({ cls := "StarRight$Sight", name := "paidAt", desc := "(LStarRight$Stars;II)I" } : Jvm.MethodName)) ∈ TB := tb_in 468 (by decide +kernel) rfl
theorem tw_469 : (Jvm.Cond.selects "StarRight$Sight" ({ cls := "StarRight$Sight", name := "paidAt", desc := "(LStarRight$Stars;II)I" } : Jvm.MethodName) ({ cls := "StarRight$Sight", name := "paidAt", desc := "(LStarRight$Stars;II)I" } : Jvm.MethodName)) ∈ TB := tb_in 469 (by decide +kernel) rfl
theorem tw_470 : (Jvm.Cond.code ({ cls := "StarRight$Sight", name := "paidAt", desc := "(LStarRight$Stars;II)I" } : Jvm.MethodName) prog_4_method_9_code (7 : Nat) (Option.some Jvm.ClassFile.FieldType.int)) ∈ TB := tb_in 470 (by decide +kernel) rfl
theorem tw_471 : (Jvm.Cond.methodLink "StarRightLaw" (68 : Nat) ({ cls := "StarRight", name := "undo", desc := "()I" } : Jvm.MethodName)) ∈ TB := tb_in 471 (by decide +kernel) rfl
theorem tw_472 : (Jvm.Cond.instanceMethod ({ cls := "StarRight", name := "undo", desc := "()I" } : Jvm.MethodName)) ∈ TB := tb_in 472 (by decide +kernel) rfl
theorem tw_473 : (Jvm.Cond.selects "StarRight" ({ cls := "StarRight", name := "undo", desc := "()I" } : Jvm.MethodName) ({ cls := "StarRight", name := "undo", desc := "()I" } : Jvm.MethodName)) ∈ TB := tb_in 473 (by decide +kernel) rfl
theorem tw_474 : (Jvm.Cond.code ({ cls := "StarRight", name := "undo", desc := "()I" } : Jvm.MethodName) prog_1_method_18_code (3 : Nat) (Option.some Jvm.ClassFile.FieldType.int)) ∈ TB := tb_in 474 (by decide +kernel) rfl
theorem tw_475 : (Jvm.Cond.methodLink "StarRight" (199 : Nat) ({ cls := "StarRight$Acts", name := "takeLast", desc := "()I" } : Jvm.MethodName)) ∈ TB := tb_in 475 (by decide +kernel) rfl
theorem tw_476 : (Jvm.Cond.instanceMethod ({ cls := "StarRight$Acts", name := "takeLast", desc := "()I" } : Jvm.MethodName)) ∈ TB := tb_in 476 (by decide +kernel) rfl
theorem tw_477 : (Jvm.Cond.selects "StarRight$Acts" ({ cls := "StarRight$Acts", name := "takeLast", desc := "()I" } : Jvm.MethodName) ({ cls := "StarRight$Acts", name := "takeLast", desc := "()I" } : Jvm.MethodName)) ∈ TB := tb_in 477 (by decide +kernel) rfl
theorem tw_478 : (Jvm.Cond.code ({ cls := "StarRight$Acts", name := "takeLast", desc := "()I" } : Jvm.MethodName) prog_2_method_5_code (1 : Nat) (Option.some Jvm.ClassFile.FieldType.int)) ∈ TB := tb_in 478 (by decide +kernel) rfl
theorem tw_479 : (Jvm.Cond.methodLink "StarRightLaw" (72 : Nat) ({ cls := "StarRight", name := "rents", desc := "(II)I" } : Jvm.MethodName)) ∈ TB := tb_in 479 (by decide +kernel) rfl
theorem tw_480 : (Jvm.Cond.instanceMethod ({ cls := "StarRight", name := "rents", desc := "(II)I" } : Jvm.MethodName)) ∈ TB := tb_in 480 (by decide +kernel) rfl
theorem tw_481 : (Jvm.Cond.selects "StarRight" ({ cls := "StarRight", name := "rents", desc := "(II)I" } : Jvm.MethodName) ({ cls := "StarRight", name := "rents", desc := "(II)I" } : Jvm.MethodName)) ∈ TB := tb_in 481 (by decide +kernel) rfl
theorem tw_482 : (Jvm.Cond.code ({ cls := "StarRight", name := "rents", desc := "(II)I" } : Jvm.MethodName) prog_1_method_20_code (4 : Nat) (Option.some Jvm.ClassFile.FieldType.int)) ∈ TB := tb_in 482 (by decide +kernel) rfl
theorem tw_483 : (Jvm.Cond.methodLink "StarRightLaw" (76 : Nat) ({ cls := "StarRight", name := "hold", desc := "(II)I" } : Jvm.MethodName)) ∈ TB := tb_in 483 (by decide +kernel) rfl
theorem tw_484 : (Jvm.Cond.instanceMethod ({ cls := "StarRight", name := "hold", desc := "(II)I" } : Jvm.MethodName)) ∈ TB := tb_in 484 (by decide +kernel) rfl
theorem tw_485 : (Jvm.Cond.selects "StarRight" ({ cls := "StarRight", name := "hold", desc := "(II)I" } : Jvm.MethodName) ({ cls := "StarRight", name := "hold", desc := "(II)I" } : Jvm.MethodName)) ∈ TB := tb_in 485 (by decide +kernel) rfl
theorem tw_486 : (Jvm.Cond.code ({ cls := "StarRight", name := "hold", desc := "(II)I" } : Jvm.MethodName) prog_1_method_21_code (7 : Nat) (Option.some Jvm.ClassFile.FieldType.int)) ∈ TB := tb_in 486 (by decide +kernel) rfl
theorem tw_487 : (Jvm.Cond.methodLink "StarRight" (218 : Nat) ({ cls := "StarRight", name := "isSpan", desc := "(II)Z" } : Jvm.MethodName)) ∈ TB := tb_in 487 (by decide +kernel) rfl
theorem tw_488 : (Jvm.Cond.static ({ cls := "StarRight", name := "isSpan", desc := "(II)Z" } : Jvm.MethodName)) ∈ TB := tb_in 488 (by decide +kernel) rfl
theorem tw_489 : (Jvm.Cond.code ({ cls := "StarRight", name := "isSpan", desc := "(II)Z" } : Jvm.MethodName) prog_1_method_22_code (2 : Nat) (Option.some Jvm.ClassFile.FieldType.boolean)) ∈ TB := tb_in 489 (by decide +kernel) rfl
theorem tw_490 : (Jvm.Cond.methodLink "StarRight" (222 : Nat) ({ cls := "StarRight$Stars", name := "cellsPassed", desc := "(III)I" } : Jvm.MethodName)) ∈ TB := tb_in 490 (by decide +kernel) rfl
theorem tw_491 : (Jvm.Cond.instanceMethod ({ cls := "StarRight$Stars", name := "cellsPassed", desc := "(III)I" } : Jvm.MethodName)) ∈ TB := tb_in 491 (by decide +kernel) rfl
theorem tw_492 : (Jvm.Cond.selects "StarRight$Stars" ({ cls := "StarRight$Stars", name := "cellsPassed", desc := "(III)I" } : Jvm.MethodName) ({ cls := "StarRight$Stars", name := "cellsPassed", desc := "(III)I" } : Jvm.MethodName)) ∈ TB := tb_in 492 (by decide +kernel) rfl
theorem tw_493 : (Jvm.Cond.code ({ cls := "StarRight$Stars", name := "cellsPassed", desc := "(III)I" } : Jvm.MethodName) prog_6_method_7_code (6 : Nat) (Option.some Jvm.ClassFile.FieldType.int)) ∈ TB := tb_in 493 (by decide +kernel) rfl
theorem tw_494 : (Jvm.Cond.methodLink "StarRight$Stars" (33 : Nat) ({ cls := "StarRight$Stars", name := "cellAt", desc := "(II)I" } : Jvm.MethodName)) ∈ TB := tb_in 494 (by decide +kernel) rfl
theorem tw_495 : (Jvm.Cond.methodLink "StarRight" (226 : Nat) ({ cls := "StarRight$Sight", name := "cellsSeenBy", desc := "(I)I" } : Jvm.MethodName)) ∈ TB := tb_in 495 (by decide +kernel) rfl
theorem tw_496 : (Jvm.Cond.instanceMethod ({ cls := "StarRight$Sight", name := "cellsSeenBy", desc := "(I)I" } : Jvm.MethodName)) ∈ TB := tb_in 496 (by decide +kernel) rfl
theorem tw_497 : (Jvm.Cond.selects "StarRight$Sight" ({ cls := "StarRight$Sight", name := "cellsSeenBy", desc := "(I)I" } : Jvm.MethodName) ({ cls := "StarRight$Sight", name := "cellsSeenBy", desc := "(I)I" } : Jvm.MethodName)) ∈ TB := tb_in 497 (by decide +kernel) rfl
theorem tw_498 : (Jvm.Cond.code ({ cls := "StarRight$Sight", name := "cellsSeenBy", desc := "(I)I" } : Jvm.MethodName) prog_4_method_4_code (4 : Nat) (Option.some Jvm.ClassFile.FieldType.int)) ∈ TB := tb_in 498 (by decide +kernel) rfl
theorem tw_499 : (Jvm.Cond.methodLink "StarRight" (229 : Nat) ({ cls := "java/lang/Integer", name := "bitCount", desc := "(I)I" } : Jvm.MethodName)) ∈ TB := tb_in 499 (by decide +kernel) rfl
theorem tw_500 : (Jvm.Cond.static ({ cls := "java/lang/Integer", name := "bitCount", desc := "(I)I" } : Jvm.MethodName)) ∈ TB := tb_in 500 (by decide +kernel) rfl
theorem tw_501 : (Jvm.Cond.code ({ cls := "java/lang/Integer", name := "bitCount", desc := "(I)I" } : Jvm.MethodName) prog_12_method_49_code (1 : Nat) (Option.some Jvm.ClassFile.FieldType.int)) ∈ TB := tb_in 501 (by decide +kernel) rfl
theorem tw_502 : (Jvm.Cond.constant "java/lang/Integer" (265 : Nat) (1431655765 : Int32)) ∈ TB := tb_in 502 (by decide +kernel) rfl
theorem tw_503 : (Jvm.Cond.constant "java/lang/Integer" (266 : Nat) (858993459 : Int32)) ∈ TB := tb_in 503 (by decide +kernel) rfl
theorem tw_504 : (Jvm.Cond.constant "java/lang/Integer" (267 : Nat) (252645135 : Int32)) ∈ TB := tb_in 504 (by decide +kernel) rfl
theorem tw_505 : (Jvm.Cond.methodLink "StarRightLaw" (80 : Nat) ({ cls := "StarRight", name := "fires", desc := "(II)I" } : Jvm.MethodName)) ∈ TB := tb_in 505 (by decide +kernel) rfl
theorem tw_506 : (Jvm.Cond.instanceMethod ({ cls := "StarRight", name := "fires", desc := "(II)I" } : Jvm.MethodName)) ∈ TB := tb_in 506 (by decide +kernel) rfl
theorem tw_507 : (Jvm.Cond.selects "StarRight" ({ cls := "StarRight", name := "fires", desc := "(II)I" } : Jvm.MethodName) ({ cls := "StarRight", name := "fires", desc := "(II)I" } : Jvm.MethodName)) ∈ TB := tb_in 507 (by decide +kernel) rfl
theorem tw_508 : (Jvm.Cond.code ({ cls := "StarRight", name := "fires", desc := "(II)I" } : Jvm.MethodName) prog_1_method_23_code (8 : Nat) (Option.some Jvm.ClassFile.FieldType.int)) ∈ TB := tb_in 508 (by decide +kernel) rfl
theorem tw_509 : (Jvm.Cond.methodLink "StarRight" (234 : Nat) ({ cls := "StarRight$Town", name := "copyOf", desc := "(LStarRight$Town;)V" } : Jvm.MethodName)) ∈ TB := tb_in 509 (by decide +kernel) rfl
theorem tw_510 : (Jvm.Cond.instanceMethod ({ cls := "StarRight$Town", name := "copyOf", desc := "(LStarRight$Town;)V" } : Jvm.MethodName)) ∈ TB := tb_in 510 (by decide +kernel) rfl
theorem tw_511 : (Jvm.Cond.selects "StarRight$Town" ({ cls := "StarRight$Town", name := "copyOf", desc := "(LStarRight$Town;)V" } : Jvm.MethodName) ({ cls := "StarRight$Town", name := "copyOf", desc := "(LStarRight$Town;)V" } : Jvm.MethodName)) ∈ TB := tb_in 511 (by decide +kernel) rfl
theorem tw_512 : (Jvm.Cond.code ({ cls := "StarRight$Town", name := "copyOf", desc := "(LStarRight$Town;)V" } : Jvm.MethodName) prog_8_method_3_code (2 : Nat) (Option.none : Option Jvm.ClassFile.FieldType)) ∈ TB := tb_in 512 (by decide +kernel) rfl
theorem tw_513 : (Jvm.Cond.methodLink "StarRight$Town" (38 : Nat) ({ cls := "java/lang/System", name := "arraycopy", desc := "(Ljava/lang/Object;ILjava/lang/Object;II)V" } : Jvm.MethodName)) ∈ TB := tb_in 513 (by decide +kernel) rfl
theorem tw_514 : (Jvm.Cond.methodLink "StarRight" (238 : Nat) ({ cls := "StarRight", name := "gainOfFires", desc := "(II)I" } : Jvm.MethodName)) ∈ TB := tb_in 514 (by decide +kernel) rfl
theorem tw_516 : (Jvm.Cond.instanceMethod ({ cls := "StarRight", name := "gainOfFires", desc := "(II)I" } : Jvm.MethodName)) ∈ TB := tb_in 516 (by decide +kernel) rfl
theorem tw_517 : (Jvm.Cond.code ({ cls := "StarRight", name := "gainOfFires", desc := "(II)I" } : Jvm.MethodName) prog_1_method_24_code (3 : Nat) (Option.some Jvm.ClassFile.FieldType.int)) ∈ TB := tb_in 517 (by decide +kernel) rfl
theorem tw_518 : (Jvm.Cond.methodLink "StarRightLaw" (84 : Nat) ({ cls := "StarRight", name := "share", desc := "(IIZ)I" } : Jvm.MethodName)) ∈ TB := tb_in 518 (by decide +kernel) rfl
theorem tw_519 : (Jvm.Cond.instanceMethod ({ cls := "StarRight", name := "share", desc := "(IIZ)I" } : Jvm.MethodName)) ∈ TB := tb_in 519 (by decide +kernel) rfl
theorem tw_520 : (Jvm.Cond.selects "StarRight" ({ cls := "StarRight", name := "share", desc := "(IIZ)I" } : Jvm.MethodName) ({ cls := "StarRight", name := "share", desc := "(IIZ)I" } : Jvm.MethodName)) ∈ TB := tb_in 520 (by decide +kernel) rfl
theorem tw_521 : (Jvm.Cond.code ({ cls := "StarRight", name := "share", desc := "(IIZ)I" } : Jvm.MethodName) prog_1_method_25_code (5 : Nat) (Option.some Jvm.ClassFile.FieldType.int)) ∈ TB := tb_in 521 (by decide +kernel) rfl
theorem tw_522 : (Jvm.Cond.methodLink "StarRight" (241 : Nat) ({ cls := "StarRight", name := "gainInAllOrders", desc := "(I)I" } : Jvm.MethodName)) ∈ TB := tb_in 522 (by decide +kernel) rfl
theorem tw_524 : (Jvm.Cond.instanceMethod ({ cls := "StarRight", name := "gainInAllOrders", desc := "(I)I" } : Jvm.MethodName)) ∈ TB := tb_in 524 (by decide +kernel) rfl
theorem tw_525 : (Jvm.Cond.code ({ cls := "StarRight", name := "gainInAllOrders", desc := "(I)I" } : Jvm.MethodName) prog_1_method_26_code (8 : Nat) (Option.some Jvm.ClassFile.FieldType.int)) ∈ TB := tb_in 525 (by decide +kernel) rfl
theorem tw_526 : (Jvm.Cond.methodLink "StarRight" (244 : Nat) ({ cls := "StarRight", name := "orders", desc := "(I)I" } : Jvm.MethodName)) ∈ TB := tb_in 526 (by decide +kernel) rfl
theorem tw_527 : (Jvm.Cond.static ({ cls := "StarRight", name := "orders", desc := "(I)I" } : Jvm.MethodName)) ∈ TB := tb_in 527 (by decide +kernel) rfl
theorem tw_528 : (Jvm.Cond.code ({ cls := "StarRight", name := "orders", desc := "(I)I" } : Jvm.MethodName) prog_1_method_27_code (1 : Nat) (Option.some Jvm.ClassFile.FieldType.int)) ∈ TB := tb_in 528 (by decide +kernel) rfl
theorem tw_529 : (Jvm.Cond.fieldLink "StarRight" (251 : Nat) "StarRight" "ORDERS" "[I") ∈ TB := tb_in 529 (by decide +kernel) rfl
theorem tw_531 : (Jvm.Cond.methodLink "StarRight" (247 : Nat) ({ cls := "StarRight", name := "fraction", desc := "(IIZ)I" } : Jvm.MethodName)) ∈ TB := tb_in 531 (by decide +kernel) rfl
theorem tw_532 : (Jvm.Cond.static ({ cls := "StarRight", name := "fraction", desc := "(IIZ)I" } : Jvm.MethodName)) ∈ TB := tb_in 532 (by decide +kernel) rfl
theorem tw_533 : (Jvm.Cond.code ({ cls := "StarRight", name := "fraction", desc := "(IIZ)I" } : Jvm.MethodName) prog_1_method_38_code (5 : Nat) (Option.some Jvm.ClassFile.FieldType.int)) ∈ TB := tb_in 533 (by decide +kernel) rfl
theorem tw_534 : (Jvm.Cond.methodLink "StarRight" (298 : Nat) ({ cls := "java/lang/Math", name := "abs", desc := "(I)I" } : Jvm.MethodName)) ∈ TB := tb_in 534 (by decide +kernel) rfl
theorem tw_535 : (Jvm.Cond.methodLink "StarRight" (303 : Nat) ({ cls := "StarRight", name := "commonDivisor", desc := "(II)I" } : Jvm.MethodName)) ∈ TB := tb_in 535 (by decide +kernel) rfl
theorem tw_536 : (Jvm.Cond.static ({ cls := "StarRight", name := "commonDivisor", desc := "(II)I" } : Jvm.MethodName)) ∈ TB := tb_in 536 (by decide +kernel) rfl
theorem tw_537 : (Jvm.Cond.code ({ cls := "StarRight", name := "commonDivisor", desc := "(II)I" } : Jvm.MethodName) prog_1_method_39_code (6 : Nat) (Option.some Jvm.ClassFile.FieldType.int)) ∈ TB := tb_in 537 (by decide +kernel) rfl
theorem tw_538 : (Jvm.Cond.methodLink "StarRightLaw" (89 : Nat) ({ cls := "StarRight", name := "bestLaw", desc := "(II)I" } : Jvm.MethodName)) ∈ TB := tb_in 538 (by decide +kernel) rfl
theorem tw_539 : (Jvm.Cond.instanceMethod ({ cls := "StarRight", name := "bestLaw", desc := "(II)I" } : Jvm.MethodName)) ∈ TB := tb_in 539 (by decide +kernel) rfl
theorem tw_540 : (Jvm.Cond.selects "StarRight" ({ cls := "StarRight", name := "bestLaw", desc := "(II)I" } : Jvm.MethodName) ({ cls := "StarRight", name := "bestLaw", desc := "(II)I" } : Jvm.MethodName)) ∈ TB := tb_in 540 (by decide +kernel) rfl
theorem tw_541 : (Jvm.Cond.code ({ cls := "StarRight", name := "bestLaw", desc := "(II)I" } : Jvm.MethodName) prog_1_method_28_code (7 : Nat) (Option.some Jvm.ClassFile.FieldType.int)) ∈ TB := tb_in 541 (by decide +kernel) rfl
theorem tw_542 : (Jvm.Cond.methodLink "StarRight" (254 : Nat) ({ cls := "StarRight", name := "rentsByLaw", desc := "(III)I" } : Jvm.MethodName)) ∈ TB := tb_in 542 (by decide +kernel) rfl
theorem tw_544 : (Jvm.Cond.instanceMethod ({ cls := "StarRight", name := "rentsByLaw", desc := "(III)I" } : Jvm.MethodName)) ∈ TB := tb_in 544 (by decide +kernel) rfl
theorem tw_545 : (Jvm.Cond.code ({ cls := "StarRight", name := "rentsByLaw", desc := "(III)I" } : Jvm.MethodName) prog_1_method_29_code (4 : Nat) (Option.some Jvm.ClassFile.FieldType.int)) ∈ TB := tb_in 545 (by decide +kernel) rfl
theorem tw_546 : (Jvm.Cond.methodLink "StarRightLaw" (93 : Nat) ({ cls := "StarRight", name := "starless", desc := "(I)I" } : Jvm.MethodName)) ∈ TB := tb_in 546 (by decide +kernel) rfl
theorem tw_547 : (Jvm.Cond.instanceMethod ({ cls := "StarRight", name := "starless", desc := "(I)I" } : Jvm.MethodName)) ∈ TB := tb_in 547 (by decide +kernel) rfl
theorem tw_548 : (Jvm.Cond.selects "StarRight" ({ cls := "StarRight", name := "starless", desc := "(I)I" } : Jvm.MethodName) ({ cls := "StarRight", name := "starless", desc := "(I)I" } : Jvm.MethodName)) ∈ TB := tb_in 548 (by decide +kernel) rfl
theorem tw_549 : (Jvm.Cond.code ({ cls := "StarRight", name := "starless", desc := "(I)I" } : Jvm.MethodName) prog_1_method_30_code (5 : Nat) (Option.some Jvm.ClassFile.FieldType.int)) ∈ TB := tb_in 549 (by decide +kernel) rfl
theorem tw_550 : (Jvm.Cond.methodLink "StarRight" (257 : Nat) ({ cls := "StarRight$Sight", name := "holders", desc := "(LStarRight$Stars;II)I" } : Jvm.MethodName)) ∈ TB := tb_in 550 (by decide +kernel) rfl
theorem tw_551 : (Jvm.Cond.instanceMethod ({ cls := "StarRight$Sight", name := "holders", desc := "(LStarRight$Stars;II)I" } : Jvm.MethodName)) ∈ TB := tb_in 551 (by decide +kernel) rfl
theorem tw_552 : (Jvm.Cond.selects "StarRight$Sight" ({ cls := "StarRight$Sight", name := "holders", desc := "(LStarRight$Stars;II)I" } : Jvm.MethodName) ({ cls := "StarRight$Sight", name := "holders", desc := "(LStarRight$Stars;II)I" } : Jvm.MethodName)) ∈ TB := tb_in 552 (by decide +kernel) rfl
theorem tw_553 : (Jvm.Cond.code ({ cls := "StarRight$Sight", name := "holders", desc := "(LStarRight$Stars;II)I" } : Jvm.MethodName) prog_4_method_6_code (8 : Nat) (Option.some Jvm.ClassFile.FieldType.int)) ∈ TB := tb_in 553 (by decide +kernel) rfl
theorem tw_554 : (Jvm.Cond.methodLink "StarRightLaw" (97 : Nat) ({ cls := "StarRight", name := "rests", desc := "(IIII)I" } : Jvm.MethodName)) ∈ TB := tb_in 554 (by decide +kernel) rfl
theorem tw_555 : (Jvm.Cond.instanceMethod ({ cls := "StarRight", name := "rests", desc := "(IIII)I" } : Jvm.MethodName)) ∈ TB := tb_in 555 (by decide +kernel) rfl
theorem tw_556 : (Jvm.Cond.selects "StarRight" ({ cls := "StarRight", name := "rests", desc := "(IIII)I" } : Jvm.MethodName) ({ cls := "StarRight", name := "rests", desc := "(IIII)I" } : Jvm.MethodName)) ∈ TB := tb_in 556 (by decide +kernel) rfl
theorem tw_557 : (Jvm.Cond.code ({ cls := "StarRight", name := "rests", desc := "(IIII)I" } : Jvm.MethodName) prog_1_method_31_code (6 : Nat) (Option.some Jvm.ClassFile.FieldType.int)) ∈ TB := tb_in 557 (by decide +kernel) rfl
theorem tw_558 : (Jvm.Cond.methodLink "StarRight" (260 : Nat) ({ cls := "StarRight", name := "tryHeights", desc := "(IIII)V" } : Jvm.MethodName)) ∈ TB := tb_in 558 (by decide +kernel) rfl
theorem tw_560 : (Jvm.Cond.instanceMethod ({ cls := "StarRight", name := "tryHeights", desc := "(IIII)V" } : Jvm.MethodName)) ∈ TB := tb_in 560 (by decide +kernel) rfl
theorem tw_561 : (Jvm.Cond.code ({ cls := "StarRight", name := "tryHeights", desc := "(IIII)V" } : Jvm.MethodName) prog_1_method_32_code (9 : Nat) (Option.none : Option Jvm.ClassFile.FieldType)) ∈ TB := tb_in 561 (by decide +kernel) rfl
theorem tw_562 : (Jvm.Cond.methodLink "StarRight" (270 : Nat) ({ cls := "StarRight$Contest", name := "heightOfFirst", desc := "(I)I" } : Jvm.MethodName)) ∈ TB := tb_in 562 (by decide +kernel) rfl
theorem tw_563 : (Jvm.Cond.static ({ cls := "StarRight$Contest", name := "heightOfFirst", desc := "(I)I" } : Jvm.MethodName)) ∈ TB := tb_in 563 (by decide +kernel) rfl
theorem tw_564 : (Jvm.Cond.code ({ cls := "StarRight$Contest", name := "heightOfFirst", desc := "(I)I" } : Jvm.MethodName) prog_3_method_2_code (1 : Nat) (Option.some Jvm.ClassFile.FieldType.int)) ∈ TB := tb_in 564 (by decide +kernel) rfl
theorem tw_565 : (Jvm.Cond.methodLink "StarRight" (273 : Nat) ({ cls := "StarRight$Contest", name := "heightOfOther", desc := "(I)I" } : Jvm.MethodName)) ∈ TB := tb_in 565 (by decide +kernel) rfl
theorem tw_566 : (Jvm.Cond.static ({ cls := "StarRight$Contest", name := "heightOfOther", desc := "(I)I" } : Jvm.MethodName)) ∈ TB := tb_in 566 (by decide +kernel) rfl
theorem tw_567 : (Jvm.Cond.code ({ cls := "StarRight$Contest", name := "heightOfOther", desc := "(I)I" } : Jvm.MethodName) prog_3_method_3_code (1 : Nat) (Option.some Jvm.ClassFile.FieldType.int)) ∈ TB := tb_in 567 (by decide +kernel) rfl
theorem tw_568 : (Jvm.Cond.methodLink "StarRight" (276 : Nat) ({ cls := "StarRight$Contest", name := "put", desc := "(III)V" } : Jvm.MethodName)) ∈ TB := tb_in 568 (by decide +kernel) rfl
theorem tw_569 : (Jvm.Cond.instanceMethod ({ cls := "StarRight$Contest", name := "put", desc := "(III)V" } : Jvm.MethodName)) ∈ TB := tb_in 569 (by decide +kernel) rfl
theorem tw_570 : (Jvm.Cond.selects "StarRight$Contest" ({ cls := "StarRight$Contest", name := "put", desc := "(III)V" } : Jvm.MethodName) ({ cls := "StarRight$Contest", name := "put", desc := "(III)V" } : Jvm.MethodName)) ∈ TB := tb_in 570 (by decide +kernel) rfl
theorem tw_571 : (Jvm.Cond.code ({ cls := "StarRight$Contest", name := "put", desc := "(III)V" } : Jvm.MethodName) prog_3_method_4_code (4 : Nat) (Option.none : Option Jvm.ClassFile.FieldType)) ∈ TB := tb_in 571 (by decide +kernel) rfl
theorem tw_572 : (Jvm.Cond.methodLink "StarRight" (264 : Nat) ({ cls := "StarRight$Contest", name := "pairsAtRest", desc := "()I" } : Jvm.MethodName)) ∈ TB := tb_in 572 (by decide +kernel) rfl
theorem tw_573 : (Jvm.Cond.instanceMethod ({ cls := "StarRight$Contest", name := "pairsAtRest", desc := "()I" } : Jvm.MethodName)) ∈ TB := tb_in 573 (by decide +kernel) rfl
theorem tw_574 : (Jvm.Cond.selects "StarRight$Contest" ({ cls := "StarRight$Contest", name := "pairsAtRest", desc := "()I" } : Jvm.MethodName) ({ cls := "StarRight$Contest", name := "pairsAtRest", desc := "()I" } : Jvm.MethodName)) ∈ TB := tb_in 574 (by decide +kernel) rfl
theorem tw_575 : (Jvm.Cond.code ({ cls := "StarRight$Contest", name := "pairsAtRest", desc := "()I" } : Jvm.MethodName) prog_3_method_6_code (3 : Nat) (Option.some Jvm.ClassFile.FieldType.int)) ∈ TB := tb_in 575 (by decide +kernel) rfl
theorem tw_576 : (Jvm.Cond.methodLink "StarRight$Contest" (25 : Nat) ({ cls := "StarRight$Contest", name := "isAtRest", desc := "(I)Z" } : Jvm.MethodName)) ∈ TB := tb_in 576 (by decide +kernel) rfl
theorem tw_578 : (Jvm.Cond.instanceMethod ({ cls := "StarRight$Contest", name := "isAtRest", desc := "(I)Z" } : Jvm.MethodName)) ∈ TB := tb_in 578 (by decide +kernel) rfl
theorem tw_579 : (Jvm.Cond.code ({ cls := "StarRight$Contest", name := "isAtRest", desc := "(I)Z" } : Jvm.MethodName) prog_3_method_5_code (5 : Nat) (Option.some Jvm.ClassFile.FieldType.boolean)) ∈ TB := tb_in 579 (by decide +kernel) rfl
theorem tw_580 : (Jvm.Cond.methodLink "StarRight$Contest" (18 : Nat) ({ cls := "StarRight$Contest", name := "heightOfOther", desc := "(I)I" } : Jvm.MethodName)) ∈ TB := tb_in 580 (by decide +kernel) rfl
theorem tw_581 : (Jvm.Cond.methodLink "StarRight$Contest" (22 : Nat) ({ cls := "StarRight$Contest", name := "heightOfFirst", desc := "(I)I" } : Jvm.MethodName)) ∈ TB := tb_in 581 (by decide +kernel) rfl
theorem tw_582 : (Jvm.Cond.methodLink "StarRight" (267 : Nat) ({ cls := "StarRight$Contest", name := "firstAtRest", desc := "()I" } : Jvm.MethodName)) ∈ TB := tb_in 582 (by decide +kernel) rfl
theorem tw_583 : (Jvm.Cond.instanceMethod ({ cls := "StarRight$Contest", name := "firstAtRest", desc := "()I" } : Jvm.MethodName)) ∈ TB := tb_in 583 (by decide +kernel) rfl
theorem tw_584 : (Jvm.Cond.selects "StarRight$Contest" ({ cls := "StarRight$Contest", name := "firstAtRest", desc := "()I" } : Jvm.MethodName) ({ cls := "StarRight$Contest", name := "firstAtRest", desc := "()I" } : Jvm.MethodName)) ∈ TB := tb_in 584 (by decide +kernel) rfl
theorem tw_585 : (Jvm.Cond.code ({ cls := "StarRight$Contest", name := "firstAtRest", desc := "()I" } : Jvm.MethodName) prog_3_method_7_code (2 : Nat) (Option.some Jvm.ClassFile.FieldType.int)) ∈ TB := tb_in 585 (by decide +kernel) rfl
theorem tw_586 : (Jvm.Cond.methodLink "StarRightLaw" (102 : Nat) ({ cls := "StarRight", name := "shine", desc := "(IIZ)I" } : Jvm.MethodName)) ∈ TB := tb_in 586 (by decide +kernel) rfl
theorem tw_587 : (Jvm.Cond.instanceMethod ({ cls := "StarRight", name := "shine", desc := "(IIZ)I" } : Jvm.MethodName)) ∈ TB := tb_in 587 (by decide +kernel) rfl
theorem tw_588 : (Jvm.Cond.selects "StarRight" ({ cls := "StarRight", name := "shine", desc := "(IIZ)I" } : Jvm.MethodName) ({ cls := "StarRight", name := "shine", desc := "(IIZ)I" } : Jvm.MethodName)) ∈ TB := tb_in 588 (by decide +kernel) rfl
theorem tw_589 : (Jvm.Cond.code ({ cls := "StarRight", name := "shine", desc := "(IIZ)I" } : Jvm.MethodName) prog_1_method_33_code (4 : Nat) (Option.some Jvm.ClassFile.FieldType.int)) ∈ TB := tb_in 589 (by decide +kernel) rfl
theorem tw_590 : (Jvm.Cond.methodLink "StarRight" (279 : Nat) ({ cls := "StarRight$Watch", name := "isFull", desc := "()Z" } : Jvm.MethodName)) ∈ TB := tb_in 590 (by decide +kernel) rfl
theorem tw_591 : (Jvm.Cond.instanceMethod ({ cls := "StarRight$Watch", name := "isFull", desc := "()Z" } : Jvm.MethodName)) ∈ TB := tb_in 591 (by decide +kernel) rfl
theorem tw_592 : (Jvm.Cond.selects "StarRight$Watch" ({ cls := "StarRight$Watch", name := "isFull", desc := "()Z" } : Jvm.MethodName) ({ cls := "StarRight$Watch", name := "isFull", desc := "()Z" } : Jvm.MethodName)) ∈ TB := tb_in 592 (by decide +kernel) rfl
theorem tw_593 : (Jvm.Cond.code ({ cls := "StarRight$Watch", name := "isFull", desc := "()Z" } : Jvm.MethodName) prog_9_method_2_code (1 : Nat) (Option.some Jvm.ClassFile.FieldType.boolean)) ∈ TB := tb_in 593 (by decide +kernel) rfl
theorem tw_594 : (Jvm.Cond.methodLink "StarRight" (280 : Nat) ({ cls := "StarRight$Watch", name := "add", desc := "(IIZ)I" } : Jvm.MethodName)) ∈ TB := tb_in 594 (by decide +kernel) rfl
theorem tw_595 : (Jvm.Cond.instanceMethod ({ cls := "StarRight$Watch", name := "add", desc := "(IIZ)I" } : Jvm.MethodName)) ∈ TB := tb_in 595 (by decide +kernel) rfl
theorem tw_596 : (Jvm.Cond.selects "StarRight$Watch" ({ cls := "StarRight$Watch", name := "add", desc := "(IIZ)I" } : Jvm.MethodName) ({ cls := "StarRight$Watch", name := "add", desc := "(IIZ)I" } : Jvm.MethodName)) ∈ TB := tb_in 596 (by decide +kernel) rfl
theorem tw_597 : (Jvm.Cond.code ({ cls := "StarRight$Watch", name := "add", desc := "(IIZ)I" } : Jvm.MethodName) prog_9_method_3_code (4 : Nat) (Option.some Jvm.ClassFile.FieldType.int)) ∈ TB := tb_in 597 (by decide +kernel) rfl
theorem tw_598 : (Jvm.Cond.methodLink "StarRight$Watch" (26 : Nat) ({ cls := "StarRight$Watch", name := "isFull", desc := "()Z" } : Jvm.MethodName)) ∈ TB := tb_in 598 (by decide +kernel) rfl
theorem tw_599 : (Jvm.Cond.methodLink "StarRightLaw" (106 : Nat) ({ cls := "StarRight", name := "unshine", desc := "()I" } : Jvm.MethodName)) ∈ TB := tb_in 599 (by decide +kernel) rfl
theorem tw_600 : (Jvm.Cond.instanceMethod ({ cls := "StarRight", name := "unshine", desc := "()I" } : Jvm.MethodName)) ∈ TB := tb_in 600 (by decide +kernel) rfl
theorem tw_601 : (Jvm.Cond.selects "StarRight" ({ cls := "StarRight", name := "unshine", desc := "()I" } : Jvm.MethodName) ({ cls := "StarRight", name := "unshine", desc := "()I" } : Jvm.MethodName)) ∈ TB := tb_in 601 (by decide +kernel) rfl
theorem tw_602 : (Jvm.Cond.code ({ cls := "StarRight", name := "unshine", desc := "()I" } : Jvm.MethodName) prog_1_method_34_code (1 : Nat) (Option.some Jvm.ClassFile.FieldType.int)) ∈ TB := tb_in 602 (by decide +kernel) rfl
theorem tw_603 : (Jvm.Cond.methodLink "StarRight" (282 : Nat) ({ cls := "StarRight$Watch", name := "clear", desc := "()I" } : Jvm.MethodName)) ∈ TB := tb_in 603 (by decide +kernel) rfl
theorem tw_604 : (Jvm.Cond.instanceMethod ({ cls := "StarRight$Watch", name := "clear", desc := "()I" } : Jvm.MethodName)) ∈ TB := tb_in 604 (by decide +kernel) rfl
theorem tw_605 : (Jvm.Cond.selects "StarRight$Watch" ({ cls := "StarRight$Watch", name := "clear", desc := "()I" } : Jvm.MethodName) ({ cls := "StarRight$Watch", name := "clear", desc := "()I" } : Jvm.MethodName)) ∈ TB := tb_in 605 (by decide +kernel) rfl
theorem tw_606 : (Jvm.Cond.code ({ cls := "StarRight$Watch", name := "clear", desc := "()I" } : Jvm.MethodName) prog_9_method_4_code (2 : Nat) (Option.some Jvm.ClassFile.FieldType.int)) ∈ TB := tb_in 606 (by decide +kernel) rfl
theorem tw_607 : (Jvm.Cond.methodLink "StarRightLaw" (110 : Nat) ({ cls := "StarRight", name := "found", desc := "(I)I" } : Jvm.MethodName)) ∈ TB := tb_in 607 (by decide +kernel) rfl
theorem tw_608 : (Jvm.Cond.instanceMethod ({ cls := "StarRight", name := "found", desc := "(I)I" } : Jvm.MethodName)) ∈ TB := tb_in 608 (by decide +kernel) rfl
theorem tw_609 : (Jvm.Cond.selects "StarRight" ({ cls := "StarRight", name := "found", desc := "(I)I" } : Jvm.MethodName) ({ cls := "StarRight", name := "found", desc := "(I)I" } : Jvm.MethodName)) ∈ TB := tb_in 609 (by decide +kernel) rfl
theorem tw_610 : (Jvm.Cond.code ({ cls := "StarRight", name := "found", desc := "(I)I" } : Jvm.MethodName) prog_1_method_35_code (4 : Nat) (Option.some Jvm.ClassFile.FieldType.int)) ∈ TB := tb_in 610 (by decide +kernel) rfl
theorem tw_611 : (Jvm.Cond.methodLink "StarRight" (283 : Nat) ({ cls := "StarRight$Watch", name := "fittingStars", desc := "()J" } : Jvm.MethodName)) ∈ TB := tb_in 611 (by decide +kernel) rfl
theorem tw_612 : (Jvm.Cond.instanceMethod ({ cls := "StarRight$Watch", name := "fittingStars", desc := "()J" } : Jvm.MethodName)) ∈ TB := tb_in 612 (by decide +kernel) rfl
theorem tw_613 : (Jvm.Cond.selects "StarRight$Watch" ({ cls := "StarRight$Watch", name := "fittingStars", desc := "()J" } : Jvm.MethodName) ({ cls := "StarRight$Watch", name := "fittingStars", desc := "()J" } : Jvm.MethodName)) ∈ TB := tb_in 613 (by decide +kernel) rfl
theorem tw_614 : (Jvm.Cond.code ({ cls := "StarRight$Watch", name := "fittingStars", desc := "()J" } : Jvm.MethodName) prog_9_method_7_code (4 : Nat) (Option.some Jvm.ClassFile.FieldType.long)) ∈ TB := tb_in 614 (by decide +kernel) rfl
theorem tw_615 : (Jvm.Cond.methodLink "StarRight$Watch" (40 : Nat) ({ cls := "StarRight$Watch", name := "fits", desc := "(I)Z" } : Jvm.MethodName)) ∈ TB := tb_in 615 (by decide +kernel) rfl
theorem tw_617 : (Jvm.Cond.instanceMethod ({ cls := "StarRight$Watch", name := "fits", desc := "(I)Z" } : Jvm.MethodName)) ∈ TB := tb_in 617 (by decide +kernel) rfl
theorem tw_618 : (Jvm.Cond.code ({ cls := "StarRight$Watch", name := "fits", desc := "(I)Z" } : Jvm.MethodName) prog_9_method_6_code (3 : Nat) (Option.some Jvm.ClassFile.FieldType.boolean)) ∈ TB := tb_in 618 (by decide +kernel) rfl
theorem tw_619 : (Jvm.Cond.methodLink "StarRight$Watch" (36 : Nat) ({ cls := "StarRight$Watch", name := "isOver", desc := "(III)Z" } : Jvm.MethodName)) ∈ TB := tb_in 619 (by decide +kernel) rfl
theorem tw_620 : (Jvm.Cond.static ({ cls := "StarRight$Watch", name := "isOver", desc := "(III)Z" } : Jvm.MethodName)) ∈ TB := tb_in 620 (by decide +kernel) rfl
theorem tw_621 : (Jvm.Cond.code ({ cls := "StarRight$Watch", name := "isOver", desc := "(III)Z" } : Jvm.MethodName) prog_9_method_5_code (3 : Nat) (Option.some Jvm.ClassFile.FieldType.boolean)) ∈ TB := tb_in 621 (by decide +kernel) rfl
theorem tw_622 : (Jvm.Cond.methodLink "StarRight$Watch" (30 : Nat) ({ cls := "StarRight$Stars", name := "walkedTo", desc := "(III)I" } : Jvm.MethodName)) ∈ TB := tb_in 622 (by decide +kernel) rfl
theorem tw_623 : (Jvm.Cond.methodLink "StarRight" (287 : Nat) ({ cls := "java/lang/Long", name := "bitCount", desc := "(J)I" } : Jvm.MethodName)) ∈ TB := tb_in 623 (by decide +kernel) rfl
theorem tw_624 : (Jvm.Cond.static ({ cls := "java/lang/Long", name := "bitCount", desc := "(J)I" } : Jvm.MethodName)) ∈ TB := tb_in 624 (by decide +kernel) rfl
theorem tw_625 : (Jvm.Cond.code ({ cls := "java/lang/Long", name := "bitCount", desc := "(J)I" } : Jvm.MethodName) prog_13_method_50_code (2 : Nat) (Option.some Jvm.ClassFile.FieldType.int)) ∈ TB := tb_in 625 (by decide +kernel) rfl
theorem tw_626 : (Jvm.Cond.constantLong "java/lang/Long" (314 : Nat) (6148914691236517205 : Int64)) ∈ TB := tb_in 626 (by decide +kernel) rfl
theorem tw_627 : (Jvm.Cond.constantLong "java/lang/Long" (316 : Nat) (3689348814741910323 : Int64)) ∈ TB := tb_in 627 (by decide +kernel) rfl
theorem tw_628 : (Jvm.Cond.constantLong "java/lang/Long" (318 : Nat) (1085102592571150095 : Int64)) ∈ TB := tb_in 628 (by decide +kernel) rfl
theorem tw_629 : (Jvm.Cond.methodLink "StarRight" (292 : Nat) ({ cls := "StarRight$Watch", name := "firstOf", desc := "(J)I" } : Jvm.MethodName)) ∈ TB := tb_in 629 (by decide +kernel) rfl
theorem tw_630 : (Jvm.Cond.static ({ cls := "StarRight$Watch", name := "firstOf", desc := "(J)I" } : Jvm.MethodName)) ∈ TB := tb_in 630 (by decide +kernel) rfl
theorem tw_631 : (Jvm.Cond.code ({ cls := "StarRight$Watch", name := "firstOf", desc := "(J)I" } : Jvm.MethodName) prog_9_method_8_code (3 : Nat) (Option.some Jvm.ClassFile.FieldType.int)) ∈ TB := tb_in 631 (by decide +kernel) rfl
theorem tw_632 : (Jvm.Cond.methodLink "StarRightLaw" (114 : Nat) ({ cls := "StarRight", name := "look", desc := "()I" } : Jvm.MethodName)) ∈ TB := tb_in 632 (by decide +kernel) rfl
theorem tw_633 : (Jvm.Cond.instanceMethod ({ cls := "StarRight", name := "look", desc := "()I" } : Jvm.MethodName)) ∈ TB := tb_in 633 (by decide +kernel) rfl
theorem tw_634 : (Jvm.Cond.selects "StarRight" ({ cls := "StarRight", name := "look", desc := "()I" } : Jvm.MethodName) ({ cls := "StarRight", name := "look", desc := "()I" } : Jvm.MethodName)) ∈ TB := tb_in 634 (by decide +kernel) rfl
theorem tw_635 : (Jvm.Cond.code ({ cls := "StarRight", name := "look", desc := "()I" } : Jvm.MethodName) prog_1_method_36_code (1 : Nat) (Option.some Jvm.ClassFile.FieldType.int)) ∈ TB := tb_in 635 (by decide +kernel) rfl
theorem tw_636 : (Jvm.Cond.methodLink "StarRight" (295 : Nat) ({ cls := "StarRight$Watch", name := "bestLook", desc := "()I" } : Jvm.MethodName)) ∈ TB := tb_in 636 (by decide +kernel) rfl
theorem tw_637 : (Jvm.Cond.instanceMethod ({ cls := "StarRight$Watch", name := "bestLook", desc := "()I" } : Jvm.MethodName)) ∈ TB := tb_in 637 (by decide +kernel) rfl
theorem tw_638 : (Jvm.Cond.selects "StarRight$Watch" ({ cls := "StarRight$Watch", name := "bestLook", desc := "()I" } : Jvm.MethodName) ({ cls := "StarRight$Watch", name := "bestLook", desc := "()I" } : Jvm.MethodName)) ∈ TB := tb_in 638 (by decide +kernel) rfl
theorem tw_639 : (Jvm.Cond.code ({ cls := "StarRight$Watch", name := "bestLook", desc := "()I" } : Jvm.MethodName) prog_9_method_9_code (7 : Nat) (Option.some Jvm.ClassFile.FieldType.int)) ∈ TB := tb_in 639 (by decide +kernel) rfl
theorem tw_640 : (Jvm.Cond.methodLink "StarRight$Watch" (44 : Nat) ({ cls := "StarRight$Watch", name := "fittingStars", desc := "()J" } : Jvm.MethodName)) ∈ TB := tb_in 640 (by decide +kernel) rfl
theorem tw_641 : (Jvm.Cond.methodLink "StarRight$Watch" (48 : Nat) ({ cls := "StarRight$Watch", name := "greaterPart", desc := "(JII)I" } : Jvm.MethodName)) ∈ TB := tb_in 641 (by decide +kernel) rfl
theorem tw_642 : (Jvm.Cond.static ({ cls := "StarRight$Watch", name := "greaterPart", desc := "(JII)I" } : Jvm.MethodName)) ∈ TB := tb_in 642 (by decide +kernel) rfl
theorem tw_643 : (Jvm.Cond.code ({ cls := "StarRight$Watch", name := "greaterPart", desc := "(JII)I" } : Jvm.MethodName) prog_9_method_10_code (6 : Nat) (Option.some Jvm.ClassFile.FieldType.int)) ∈ TB := tb_in 643 (by decide +kernel) rfl
theorem tw_644 : (Jvm.Cond.methodLink "StarRight$Watch" (52 : Nat) ({ cls := "java/lang/Long", name := "bitCount", desc := "(J)I" } : Jvm.MethodName)) ∈ TB := tb_in 644 (by decide +kernel) rfl
theorem tw_645 : (Jvm.Cond.methodLink "StarRight$Watch" (58 : Nat) ({ cls := "java/lang/Math", name := "max", desc := "(II)I" } : Jvm.MethodName)) ∈ TB := tb_in 645 (by decide +kernel) rfl
theorem tw_646 : (Jvm.Cond.methodLink "StarRightLaw" (118 : Nat) ({ cls := "StarRight", name := "chance", desc := "(IIIZ)I" } : Jvm.MethodName)) ∈ TB := tb_in 646 (by decide +kernel) rfl
theorem tw_647 : (Jvm.Cond.instanceMethod ({ cls := "StarRight", name := "chance", desc := "(IIIZ)I" } : Jvm.MethodName)) ∈ TB := tb_in 647 (by decide +kernel) rfl
theorem tw_648 : (Jvm.Cond.selects "StarRight" ({ cls := "StarRight", name := "chance", desc := "(IIIZ)I" } : Jvm.MethodName) ({ cls := "StarRight", name := "chance", desc := "(IIIZ)I" } : Jvm.MethodName)) ∈ TB := tb_in 648 (by decide +kernel) rfl
theorem tw_649 : (Jvm.Cond.code ({ cls := "StarRight", name := "chance", desc := "(IIIZ)I" } : Jvm.MethodName) prog_1_method_37_code (8 : Nat) (Option.some Jvm.ClassFile.FieldType.int)) ∈ TB := tb_in 649 (by decide +kernel) rfl
theorem tw_650 : (Jvm.Cond.methodLink "StarRightLaw" (125 : Nat) ({ cls := "StarRight", name := "seed", desc := "(J)J" } : Jvm.MethodName)) ∈ TB := tb_in 650 (by decide +kernel) rfl
theorem tw_651 : (Jvm.Cond.instanceMethod ({ cls := "StarRight", name := "seed", desc := "(J)J" } : Jvm.MethodName)) ∈ TB := tb_in 651 (by decide +kernel) rfl
theorem tw_652 : (Jvm.Cond.selects "StarRight" ({ cls := "StarRight", name := "seed", desc := "(J)J" } : Jvm.MethodName) ({ cls := "StarRight", name := "seed", desc := "(J)J" } : Jvm.MethodName)) ∈ TB := tb_in 652 (by decide +kernel) rfl
theorem tw_653 : (Jvm.Cond.code ({ cls := "StarRight", name := "seed", desc := "(J)J" } : Jvm.MethodName) prog_1_method_40_code (5 : Nat) (Option.some Jvm.ClassFile.FieldType.long)) ∈ TB := tb_in 653 (by decide +kernel) rfl
theorem tw_654 : (Jvm.Cond.methodLink "StarRightLaw" (130 : Nat) ({ cls := "StarRight", name := "nights", desc := "(I)I" } : Jvm.MethodName)) ∈ TB := tb_in 654 (by decide +kernel) rfl
theorem tw_655 : (Jvm.Cond.instanceMethod ({ cls := "StarRight", name := "nights", desc := "(I)I" } : Jvm.MethodName)) ∈ TB := tb_in 655 (by decide +kernel) rfl
theorem tw_656 : (Jvm.Cond.selects "StarRight" ({ cls := "StarRight", name := "nights", desc := "(I)I" } : Jvm.MethodName) ({ cls := "StarRight", name := "nights", desc := "(I)I" } : Jvm.MethodName)) ∈ TB := tb_in 656 (by decide +kernel) rfl
theorem tw_657 : (Jvm.Cond.code ({ cls := "StarRight", name := "nights", desc := "(I)I" } : Jvm.MethodName) prog_1_method_41_code (5 : Nat) (Option.some Jvm.ClassFile.FieldType.int)) ∈ TB := tb_in 657 (by decide +kernel) rfl
theorem tw_658 : (Jvm.Cond.constantLong "StarRight" (310 : Nat) (6364136223846793005 : Int64)) ∈ TB := tb_in 658 (by decide +kernel) rfl
theorem tw_659 : (Jvm.Cond.constantLong "StarRight" (312 : Nat) (1442695040888963407 : Int64)) ∈ TB := tb_in 659 (by decide +kernel) rfl
theorem tw_660 : (Jvm.Cond.constantLong "StarRight" (314 : Nat) (3 : Int64)) ∈ TB := tb_in 660 (by decide +kernel) rfl
theorem tw_661 : (Jvm.Cond.methodLink "StarRight" (316 : Nat) ({ cls := "StarRight$Sight", name := "paidAt", desc := "(LStarRight$Stars;II)I" } : Jvm.MethodName)) ∈ TB := tb_in 661 (by decide +kernel) rfl
theorem tw_662 : (Jvm.Cond.methodLink "StarRightLaw" (134 : Nat) ({ cls := "StarRight", name := "keep", desc := "(I)I" } : Jvm.MethodName)) ∈ TB := tb_in 662 (by decide +kernel) rfl
theorem tw_663 : (Jvm.Cond.instanceMethod ({ cls := "StarRight", name := "keep", desc := "(I)I" } : Jvm.MethodName)) ∈ TB := tb_in 663 (by decide +kernel) rfl
theorem tw_664 : (Jvm.Cond.selects "StarRight" ({ cls := "StarRight", name := "keep", desc := "(I)I" } : Jvm.MethodName) ({ cls := "StarRight", name := "keep", desc := "(I)I" } : Jvm.MethodName)) ∈ TB := tb_in 664 (by decide +kernel) rfl
theorem tw_665 : (Jvm.Cond.code ({ cls := "StarRight", name := "keep", desc := "(I)I" } : Jvm.MethodName) prog_1_method_42_code (3 : Nat) (Option.some Jvm.ClassFile.FieldType.int)) ∈ TB := tb_in 665 (by decide +kernel) rfl
theorem tw_666 : (Jvm.Cond.methodLink "StarRight" (319 : Nat) ({ cls := "StarRight", name := "slotOf", desc := "(I)LStarRight$Slot;" } : Jvm.MethodName)) ∈ TB := tb_in 666 (by decide +kernel) rfl
theorem tw_668 : (Jvm.Cond.instanceMethod ({ cls := "StarRight", name := "slotOf", desc := "(I)LStarRight$Slot;" } : Jvm.MethodName)) ∈ TB := tb_in 668 (by decide +kernel) rfl
theorem tw_669 : (Jvm.Cond.code ({ cls := "StarRight", name := "slotOf", desc := "(I)LStarRight$Slot;" } : Jvm.MethodName) prog_1_method_44_code (2 : Nat) (Option.some (Jvm.ClassFile.FieldType.object "StarRight$Slot"))) ∈ TB := tb_in 669 (by decide +kernel) rfl
theorem tw_670 : (Jvm.Cond.methodLink "StarRightLaw" (138 : Nat) ({ cls := "StarRight", name := "again", desc := "(I)I" } : Jvm.MethodName)) ∈ TB := tb_in 670 (by decide +kernel) rfl
theorem tw_671 : (Jvm.Cond.instanceMethod ({ cls := "StarRight", name := "again", desc := "(I)I" } : Jvm.MethodName)) ∈ TB := tb_in 671 (by decide +kernel) rfl
theorem tw_672 : (Jvm.Cond.selects "StarRight" ({ cls := "StarRight", name := "again", desc := "(I)I" } : Jvm.MethodName) ({ cls := "StarRight", name := "again", desc := "(I)I" } : Jvm.MethodName)) ∈ TB := tb_in 672 (by decide +kernel) rfl
theorem tw_673 : (Jvm.Cond.code ({ cls := "StarRight", name := "again", desc := "(I)I" } : Jvm.MethodName) prog_1_method_43_code (3 : Nat) (Option.some Jvm.ClassFile.FieldType.int)) ∈ TB := tb_in 673 (by decide +kernel) rfl
theorem tw_674 : (Jvm.Cond.classLink "StarRightLaw" (10 : Nat) "StarRightModel") ∈ TB := tb_in 674 (by decide +kernel) rfl
theorem tw_675 : (Jvm.Cond.instantiable "StarRightModel" (37 : Nat)) ∈ TB := tb_in 675 (by decide +kernel) rfl
theorem tw_676 : (Jvm.Cond.methodLink "StarRightLaw" (12 : Nat) ({ cls := "StarRightModel", name := "<init>", desc := "()V" } : Jvm.MethodName)) ∈ TB := tb_in 676 (by decide +kernel) rfl
theorem tw_677 : (Jvm.Cond.instanceMethod ({ cls := "StarRightModel", name := "<init>", desc := "()V" } : Jvm.MethodName)) ∈ TB := tb_in 677 (by decide +kernel) rfl
theorem tw_678 : (Jvm.Cond.code ({ cls := "StarRightModel", name := "<init>", desc := "()V" } : Jvm.MethodName) prog_11_method_1_code (1 : Nat) (Option.none : Option Jvm.ClassFile.FieldType)) ∈ TB := tb_in 678 (by decide +kernel) rfl
theorem tw_679 : (Jvm.Cond.methodLink "StarRightModel" (1 : Nat) ({ cls := "java/lang/Object", name := "<init>", desc := "()V" } : Jvm.MethodName)) ∈ TB := tb_in 679 (by decide +kernel) rfl
theorem tw_680 : (Jvm.Cond.fieldLink "StarRightModel" (62 : Nat) "StarRightModel" "thrown" "I") ∈ TB := tb_in 680 (by decide +kernel) rfl
theorem tw_681 : (Jvm.Cond.fieldLink "StarRightModel" (7 : Nat) "StarRightModel" "text" "[I") ∈ TB := tb_in 681 (by decide +kernel) rfl
theorem tw_682 : (Jvm.Cond.fieldLink "StarRightModel" (78 : Nat) "StarRightModel" "textSize" "I") ∈ TB := tb_in 682 (by decide +kernel) rfl
theorem tw_683 : (Jvm.Cond.fieldLink "StarRightModel" (81 : Nat) "StarRightModel" "place" "I") ∈ TB := tb_in 683 (by decide +kernel) rfl
theorem tw_684 : (Jvm.Cond.fieldLink "StarRightModel" (113 : Nat) "StarRightModel" "law" "I") ∈ TB := tb_in 684 (by decide +kernel) rfl
theorem tw_685 : (Jvm.Cond.fieldLink "StarRightModel" (66 : Nat) "StarRightModel" "roofs" "I") ∈ TB := tb_in 685 (by decide +kernel) rfl
theorem tw_686 : (Jvm.Cond.fieldLink "StarRightModel" (73 : Nat) "StarRightModel" "stars" "I") ∈ TB := tb_in 686 (by decide +kernel) rfl
theorem tw_687 : (Jvm.Cond.fieldLink "StarRightModel" (13 : Nat) "StarRightModel" "cell" "[I") ∈ TB := tb_in 687 (by decide +kernel) rfl
theorem tw_688 : (Jvm.Cond.fieldLink "StarRightModel" (16 : Nat) "StarRightModel" "rise" "[I") ∈ TB := tb_in 688 (by decide +kernel) rfl
theorem tw_689 : (Jvm.Cond.fieldLink "StarRightModel" (19 : Nat) "StarRightModel" "speed" "[I") ∈ TB := tb_in 689 (by decide +kernel) rfl
theorem tw_690 : (Jvm.Cond.fieldLink "StarRightModel" (22 : Nat) "StarRightModel" "worth" "[I") ∈ TB := tb_in 690 (by decide +kernel) rfl
theorem tw_691 : (Jvm.Cond.fieldLink "StarRightModel" (103 : Nat) "StarRightModel" "readLaw" "I") ∈ TB := tb_in 691 (by decide +kernel) rfl
theorem tw_692 : (Jvm.Cond.fieldLink "StarRightModel" (84 : Nat) "StarRightModel" "readRoofs" "I") ∈ TB := tb_in 692 (by decide +kernel) rfl
theorem tw_693 : (Jvm.Cond.fieldLink "StarRightModel" (95 : Nat) "StarRightModel" "readStars" "I") ∈ TB := tb_in 693 (by decide +kernel) rfl
theorem tw_694 : (Jvm.Cond.fieldLink "StarRightModel" (25 : Nat) "StarRightModel" "readRoof" "[I") ∈ TB := tb_in 694 (by decide +kernel) rfl
theorem tw_695 : (Jvm.Cond.fieldLink "StarRightModel" (28 : Nat) "StarRightModel" "readStar" "[I") ∈ TB := tb_in 695 (by decide +kernel) rfl
theorem tw_696 : (Jvm.Cond.fieldLink "StarRightModel" (31 : Nat) "StarRightModel" "page" "[I") ∈ TB := tb_in 696 (by decide +kernel) rfl
theorem tw_697 : (Jvm.Cond.fieldLink "StarRightModel" (34 : Nat) "StarRightModel" "trial" "[I") ∈ TB := tb_in 697 (by decide +kernel) rfl
theorem tw_698 : (Jvm.Cond.fieldLink "StarRightModel" (37 : Nat) "StarRightModel" "book" "[I") ∈ TB := tb_in 698 (by decide +kernel) rfl
theorem tw_699 : (Jvm.Cond.fieldLink "StarRightModel" (116 : Nat) "StarRightModel" "acts" "I") ∈ TB := tb_in 699 (by decide +kernel) rfl
theorem tw_700 : (Jvm.Cond.fieldLink "StarRightModel" (40 : Nat) "StarRightModel" "kept" "[I") ∈ TB := tb_in 700 (by decide +kernel) rfl
theorem tw_701 : (Jvm.Cond.fieldLink "StarRightModel" (43 : Nat) "StarRightModel" "isKept" "[Z") ∈ TB := tb_in 701 (by decide +kernel) rfl
theorem tw_702 : (Jvm.Cond.fieldLink "StarRightModel" (148 : Nat) "StarRightModel" "seen" "I") ∈ TB := tb_in 702 (by decide +kernel) rfl
theorem tw_703 : (Jvm.Cond.fieldLink "StarRightModel" (47 : Nat) "StarRightModel" "seenCell" "[I") ∈ TB := tb_in 703 (by decide +kernel) rfl
theorem tw_704 : (Jvm.Cond.fieldLink "StarRightModel" (50 : Nat) "StarRightModel" "seenHour" "[I") ∈ TB := tb_in 704 (by decide +kernel) rfl
theorem tw_705 : (Jvm.Cond.fieldLink "StarRightModel" (53 : Nat) "StarRightModel" "seenShone" "[Z") ∈ TB := tb_in 705 (by decide +kernel) rfl
theorem tw_706 : (Jvm.Cond.fieldLink "StarRightModel" (236 : Nat) "StarRightModel" "seed" "J") ∈ TB := tb_in 706 (by decide +kernel) rfl
theorem tw_707 : (Jvm.Cond.fieldLink "StarRightModel" (56 : Nat) "StarRightModel" "value" "[I") ∈ TB := tb_in 707 (by decide +kernel) rfl
theorem tw_708 : (Jvm.Cond.fieldLink "StarRightModel" (59 : Nat) "StarRightModel" "left" "[Z") ∈ TB := tb_in 708 (by decide +kernel) rfl
theorem tw_709 : (Jvm.Cond.fieldLink "StarRightModel" (221 : Nat) "StarRightModel" "foundMany" "I") ∈ TB := tb_in 709 (by decide +kernel) rfl
theorem tw_710 : (Jvm.Cond.fieldLink "StarRightModel" (224 : Nat) "StarRightModel" "foundFirst" "I") ∈ TB := tb_in 710 (by decide +kernel) rfl
theorem tw_711 : (Jvm.Cond.fieldLink "StarRightModel" (211 : Nat) "StarRightModel" "restMany" "I") ∈ TB := tb_in 711 (by decide +kernel) rfl
theorem tw_712 : (Jvm.Cond.fieldLink "StarRightModel" (214 : Nat) "StarRightModel" "restFirst" "I") ∈ TB := tb_in 712 (by decide +kernel) rfl
theorem tw_713 : (Jvm.Cond.fieldLink "StarRightModel" (201 : Nat) "StarRightModel" "restOne" "I") ∈ TB := tb_in 713 (by decide +kernel) rfl
theorem tw_714 : (Jvm.Cond.fieldLink "StarRightModel" (204 : Nat) "StarRightModel" "restTwo" "I") ∈ TB := tb_in 714 (by decide +kernel) rfl
theorem tw_715 : (Jvm.Cond.fieldLink "StarRightModel" (178 : Nat) "StarRightModel" "fireBest" "I") ∈ TB := tb_in 715 (by decide +kernel) rfl
theorem tw_716 : (Jvm.Cond.fieldLink "StarRightModel" (181 : Nat) "StarRightModel" "fireMost" "I") ∈ TB := tb_in 716 (by decide +kernel) rfl
theorem tw_717 : (Jvm.Cond.lays "StarRightModel" "StarRightModel" "thrown" "I") ∈ TB := tb_in 717 (by decide +kernel) rfl
theorem tw_719 : (Jvm.Cond.laysFinal "StarRightModel" "StarRightModel" "text" "[I") ∈ TB := tb_in 719 (by decide +kernel) rfl
theorem tw_721 : (Jvm.Cond.lays "StarRightModel" "StarRightModel" "textSize" "I") ∈ TB := tb_in 721 (by decide +kernel) rfl
theorem tw_723 : (Jvm.Cond.lays "StarRightModel" "StarRightModel" "place" "I") ∈ TB := tb_in 723 (by decide +kernel) rfl
theorem tw_725 : (Jvm.Cond.lays "StarRightModel" "StarRightModel" "law" "I") ∈ TB := tb_in 725 (by decide +kernel) rfl
theorem tw_727 : (Jvm.Cond.lays "StarRightModel" "StarRightModel" "roofs" "I") ∈ TB := tb_in 727 (by decide +kernel) rfl
theorem tw_729 : (Jvm.Cond.lays "StarRightModel" "StarRightModel" "stars" "I") ∈ TB := tb_in 729 (by decide +kernel) rfl
theorem tw_731 : (Jvm.Cond.laysFinal "StarRightModel" "StarRightModel" "cell" "[I") ∈ TB := tb_in 731 (by decide +kernel) rfl
theorem tw_733 : (Jvm.Cond.laysFinal "StarRightModel" "StarRightModel" "rise" "[I") ∈ TB := tb_in 733 (by decide +kernel) rfl
theorem tw_735 : (Jvm.Cond.laysFinal "StarRightModel" "StarRightModel" "speed" "[I") ∈ TB := tb_in 735 (by decide +kernel) rfl
theorem tw_737 : (Jvm.Cond.laysFinal "StarRightModel" "StarRightModel" "worth" "[I") ∈ TB := tb_in 737 (by decide +kernel) rfl
theorem tw_739 : (Jvm.Cond.lays "StarRightModel" "StarRightModel" "readLaw" "I") ∈ TB := tb_in 739 (by decide +kernel) rfl
theorem tw_741 : (Jvm.Cond.lays "StarRightModel" "StarRightModel" "readRoofs" "I") ∈ TB := tb_in 741 (by decide +kernel) rfl
theorem tw_743 : (Jvm.Cond.lays "StarRightModel" "StarRightModel" "readStars" "I") ∈ TB := tb_in 743 (by decide +kernel) rfl
theorem tw_745 : (Jvm.Cond.laysFinal "StarRightModel" "StarRightModel" "readRoof" "[I") ∈ TB := tb_in 745 (by decide +kernel) rfl
theorem tw_747 : (Jvm.Cond.laysFinal "StarRightModel" "StarRightModel" "readStar" "[I") ∈ TB := tb_in 747 (by decide +kernel) rfl
theorem tw_749 : (Jvm.Cond.laysFinal "StarRightModel" "StarRightModel" "page" "[I") ∈ TB := tb_in 749 (by decide +kernel) rfl
theorem tw_751 : (Jvm.Cond.laysFinal "StarRightModel" "StarRightModel" "trial" "[I") ∈ TB := tb_in 751 (by decide +kernel) rfl
theorem tw_753 : (Jvm.Cond.laysFinal "StarRightModel" "StarRightModel" "book" "[I") ∈ TB := tb_in 753 (by decide +kernel) rfl
theorem tw_755 : (Jvm.Cond.lays "StarRightModel" "StarRightModel" "acts" "I") ∈ TB := tb_in 755 (by decide +kernel) rfl
theorem tw_757 : (Jvm.Cond.laysFinal "StarRightModel" "StarRightModel" "kept" "[I") ∈ TB := tb_in 757 (by decide +kernel) rfl
theorem tw_759 : (Jvm.Cond.laysFinal "StarRightModel" "StarRightModel" "isKept" "[Z") ∈ TB := tb_in 759 (by decide +kernel) rfl
theorem tw_761 : (Jvm.Cond.lays "StarRightModel" "StarRightModel" "seen" "I") ∈ TB := tb_in 761 (by decide +kernel) rfl
theorem tw_763 : (Jvm.Cond.laysFinal "StarRightModel" "StarRightModel" "seenCell" "[I") ∈ TB := tb_in 763 (by decide +kernel) rfl
theorem tw_765 : (Jvm.Cond.laysFinal "StarRightModel" "StarRightModel" "seenHour" "[I") ∈ TB := tb_in 765 (by decide +kernel) rfl
theorem tw_767 : (Jvm.Cond.laysFinal "StarRightModel" "StarRightModel" "seenShone" "[Z") ∈ TB := tb_in 767 (by decide +kernel) rfl
theorem tw_769 : (Jvm.Cond.lays "StarRightModel" "StarRightModel" "seed" "J") ∈ TB := tb_in 769 (by decide +kernel) rfl
theorem tw_771 : (Jvm.Cond.laysFinal "StarRightModel" "StarRightModel" "value" "[I") ∈ TB := tb_in 771 (by decide +kernel) rfl
theorem tw_773 : (Jvm.Cond.laysFinal "StarRightModel" "StarRightModel" "left" "[Z") ∈ TB := tb_in 773 (by decide +kernel) rfl
theorem tw_775 : (Jvm.Cond.lays "StarRightModel" "StarRightModel" "foundMany" "I") ∈ TB := tb_in 775 (by decide +kernel) rfl
theorem tw_777 : (Jvm.Cond.lays "StarRightModel" "StarRightModel" "foundFirst" "I") ∈ TB := tb_in 777 (by decide +kernel) rfl
theorem tw_779 : (Jvm.Cond.lays "StarRightModel" "StarRightModel" "restMany" "I") ∈ TB := tb_in 779 (by decide +kernel) rfl
theorem tw_781 : (Jvm.Cond.lays "StarRightModel" "StarRightModel" "restFirst" "I") ∈ TB := tb_in 781 (by decide +kernel) rfl
theorem tw_783 : (Jvm.Cond.lays "StarRightModel" "StarRightModel" "restOne" "I") ∈ TB := tb_in 783 (by decide +kernel) rfl
theorem tw_785 : (Jvm.Cond.lays "StarRightModel" "StarRightModel" "restTwo" "I") ∈ TB := tb_in 785 (by decide +kernel) rfl
theorem tw_787 : (Jvm.Cond.lays "StarRightModel" "StarRightModel" "fireBest" "I") ∈ TB := tb_in 787 (by decide +kernel) rfl
theorem tw_789 : (Jvm.Cond.lays "StarRightModel" "StarRightModel" "fireMost" "I") ∈ TB := tb_in 789 (by decide +kernel) rfl
theorem tw_792 : (Jvm.Cond.methodLink "StarRightLaw" (17 : Nat) ({ cls := "StarRightModel", name := "write", desc := "(I)I" } : Jvm.MethodName)) ∈ TB := tb_in 792 (by decide +kernel) rfl
theorem tw_793 : (Jvm.Cond.instanceMethod ({ cls := "StarRightModel", name := "write", desc := "(I)I" } : Jvm.MethodName)) ∈ TB := tb_in 793 (by decide +kernel) rfl
theorem tw_794 : (Jvm.Cond.selects "StarRightModel" ({ cls := "StarRightModel", name := "write", desc := "(I)I" } : Jvm.MethodName) ({ cls := "StarRightModel", name := "write", desc := "(I)I" } : Jvm.MethodName)) ∈ TB := tb_in 794 (by decide +kernel) rfl
theorem tw_795 : (Jvm.Cond.code ({ cls := "StarRightModel", name := "write", desc := "(I)I" } : Jvm.MethodName) prog_11_method_10_code (2 : Nat) (Option.some Jvm.ClassFile.FieldType.int)) ∈ TB := tb_in 795 (by decide +kernel) rfl
theorem tw_796 : (Jvm.Cond.constantLong "StarRightModel" (76 : Nat) (255 : Int64)) ∈ TB := tb_in 796 (by decide +kernel) rfl
theorem tw_797 : (Jvm.Cond.methodLink "StarRightModel" (69 : Nat) ({ cls := "StarRightModel", name := "in", desc := "(JJJ)Z" } : Jvm.MethodName)) ∈ TB := tb_in 797 (by decide +kernel) rfl
theorem tw_798 : (Jvm.Cond.static ({ cls := "StarRightModel", name := "in", desc := "(JJJ)Z" } : Jvm.MethodName)) ∈ TB := tb_in 798 (by decide +kernel) rfl
theorem tw_799 : (Jvm.Cond.code ({ cls := "StarRightModel", name := "in", desc := "(JJJ)Z" } : Jvm.MethodName) prog_11_method_3_code (6 : Nat) (Option.some Jvm.ClassFile.FieldType.boolean)) ∈ TB := tb_in 799 (by decide +kernel) rfl
theorem tw_800 : (Jvm.Cond.methodLink "StarRightLaw" (22 : Nat) ({ cls := "StarRightModel", name := "wipe", desc := "()I" } : Jvm.MethodName)) ∈ TB := tb_in 800 (by decide +kernel) rfl
theorem tw_801 : (Jvm.Cond.instanceMethod ({ cls := "StarRightModel", name := "wipe", desc := "()I" } : Jvm.MethodName)) ∈ TB := tb_in 801 (by decide +kernel) rfl
theorem tw_802 : (Jvm.Cond.selects "StarRightModel" ({ cls := "StarRightModel", name := "wipe", desc := "()I" } : Jvm.MethodName) ({ cls := "StarRightModel", name := "wipe", desc := "()I" } : Jvm.MethodName)) ∈ TB := tb_in 802 (by decide +kernel) rfl
theorem tw_803 : (Jvm.Cond.code ({ cls := "StarRightModel", name := "wipe", desc := "()I" } : Jvm.MethodName) prog_11_method_11_code (2 : Nat) (Option.some Jvm.ClassFile.FieldType.int)) ∈ TB := tb_in 803 (by decide +kernel) rfl
theorem tw_804 : (Jvm.Cond.methodLink "StarRightLaw" (26 : Nat) ({ cls := "StarRightModel", name := "fault", desc := "()I" } : Jvm.MethodName)) ∈ TB := tb_in 804 (by decide +kernel) rfl
theorem tw_805 : (Jvm.Cond.instanceMethod ({ cls := "StarRightModel", name := "fault", desc := "()I" } : Jvm.MethodName)) ∈ TB := tb_in 805 (by decide +kernel) rfl
theorem tw_806 : (Jvm.Cond.selects "StarRightModel" ({ cls := "StarRightModel", name := "fault", desc := "()I" } : Jvm.MethodName) ({ cls := "StarRightModel", name := "fault", desc := "()I" } : Jvm.MethodName)) ∈ TB := tb_in 806 (by decide +kernel) rfl
theorem tw_807 : (Jvm.Cond.code ({ cls := "StarRightModel", name := "fault", desc := "()I" } : Jvm.MethodName) prog_11_method_18_code (1 : Nat) (Option.some Jvm.ClassFile.FieldType.int)) ∈ TB := tb_in 807 (by decide +kernel) rfl
theorem tw_808 : (Jvm.Cond.methodLink "StarRightModel" (109 : Nat) ({ cls := "StarRightModel", name := "readNight", desc := "()I" } : Jvm.MethodName)) ∈ TB := tb_in 808 (by decide +kernel) rfl
theorem tw_810 : (Jvm.Cond.instanceMethod ({ cls := "StarRightModel", name := "readNight", desc := "()I" } : Jvm.MethodName)) ∈ TB := tb_in 810 (by decide +kernel) rfl
theorem tw_811 : (Jvm.Cond.code ({ cls := "StarRightModel", name := "readNight", desc := "()I" } : Jvm.MethodName) prog_11_method_17_code (1 : Nat) (Option.some Jvm.ClassFile.FieldType.int)) ∈ TB := tb_in 811 (by decide +kernel) rfl
theorem tw_812 : (Jvm.Cond.methodLink "StarRightModel" (91 : Nat) ({ cls := "StarRightModel", name := "figure", desc := "(II)I" } : Jvm.MethodName)) ∈ TB := tb_in 812 (by decide +kernel) rfl
theorem tw_814 : (Jvm.Cond.instanceMethod ({ cls := "StarRightModel", name := "figure", desc := "(II)I" } : Jvm.MethodName)) ∈ TB := tb_in 814 (by decide +kernel) rfl
theorem tw_815 : (Jvm.Cond.code ({ cls := "StarRightModel", name := "figure", desc := "(II)I" } : Jvm.MethodName) prog_11_method_12_code (3 : Nat) (Option.some Jvm.ClassFile.FieldType.int)) ∈ TB := tb_in 815 (by decide +kernel) rfl
theorem tw_816 : (Jvm.Cond.methodLink "StarRightModel" (106 : Nat) ({ cls := "StarRightModel", name := "readPart", desc := "()Z" } : Jvm.MethodName)) ∈ TB := tb_in 816 (by decide +kernel) rfl
theorem tw_818 : (Jvm.Cond.instanceMethod ({ cls := "StarRightModel", name := "readPart", desc := "()Z" } : Jvm.MethodName)) ∈ TB := tb_in 818 (by decide +kernel) rfl
theorem tw_819 : (Jvm.Cond.code ({ cls := "StarRightModel", name := "readPart", desc := "()Z" } : Jvm.MethodName) prog_11_method_16_code (2 : Nat) (Option.some Jvm.ClassFile.FieldType.boolean)) ∈ TB := tb_in 819 (by decide +kernel) rfl
theorem tw_820 : (Jvm.Cond.methodLink "StarRightModel" (98 : Nat) ({ cls := "StarRightModel", name := "readRoof", desc := "()Z" } : Jvm.MethodName)) ∈ TB := tb_in 820 (by decide +kernel) rfl
theorem tw_822 : (Jvm.Cond.instanceMethod ({ cls := "StarRightModel", name := "readRoof", desc := "()Z" } : Jvm.MethodName)) ∈ TB := tb_in 822 (by decide +kernel) rfl
theorem tw_823 : (Jvm.Cond.code ({ cls := "StarRightModel", name := "readRoof", desc := "()Z" } : Jvm.MethodName) prog_11_method_14_code (3 : Nat) (Option.some Jvm.ClassFile.FieldType.boolean)) ∈ TB := tb_in 823 (by decide +kernel) rfl
theorem tw_824 : (Jvm.Cond.methodLink "StarRightModel" (87 : Nat) ({ cls := "StarRightModel", name := "isTaken", desc := "(I)Z" } : Jvm.MethodName)) ∈ TB := tb_in 824 (by decide +kernel) rfl
theorem tw_826 : (Jvm.Cond.instanceMethod ({ cls := "StarRightModel", name := "isTaken", desc := "(I)Z" } : Jvm.MethodName)) ∈ TB := tb_in 826 (by decide +kernel) rfl
theorem tw_827 : (Jvm.Cond.code ({ cls := "StarRightModel", name := "isTaken", desc := "(I)Z" } : Jvm.MethodName) prog_11_method_13_code (4 : Nat) (Option.some Jvm.ClassFile.FieldType.boolean)) ∈ TB := tb_in 827 (by decide +kernel) rfl
theorem tw_828 : (Jvm.Cond.methodLink "StarRightModel" (101 : Nat) ({ cls := "StarRightModel", name := "readStar", desc := "()Z" } : Jvm.MethodName)) ∈ TB := tb_in 828 (by decide +kernel) rfl
theorem tw_830 : (Jvm.Cond.instanceMethod ({ cls := "StarRightModel", name := "readStar", desc := "()Z" } : Jvm.MethodName)) ∈ TB := tb_in 830 (by decide +kernel) rfl
theorem tw_831 : (Jvm.Cond.code ({ cls := "StarRightModel", name := "readStar", desc := "()Z" } : Jvm.MethodName) prog_11_method_15_code (3 : Nat) (Option.some Jvm.ClassFile.FieldType.boolean)) ∈ TB := tb_in 831 (by decide +kernel) rfl
theorem tw_832 : (Jvm.Cond.methodLink "StarRightLaw" (30 : Nat) ({ cls := "StarRightModel", name := "night", desc := "()I" } : Jvm.MethodName)) ∈ TB := tb_in 832 (by decide +kernel) rfl
theorem tw_833 : (Jvm.Cond.instanceMethod ({ cls := "StarRightModel", name := "night", desc := "()I" } : Jvm.MethodName)) ∈ TB := tb_in 833 (by decide +kernel) rfl
theorem tw_834 : (Jvm.Cond.selects "StarRightModel" ({ cls := "StarRightModel", name := "night", desc := "()I" } : Jvm.MethodName) ({ cls := "StarRightModel", name := "night", desc := "()I" } : Jvm.MethodName)) ∈ TB := tb_in 834 (by decide +kernel) rfl
theorem tw_835 : (Jvm.Cond.code ({ cls := "StarRightModel", name := "night", desc := "()I" } : Jvm.MethodName) prog_11_method_19_code (2 : Nat) (Option.some Jvm.ClassFile.FieldType.int)) ∈ TB := tb_in 835 (by decide +kernel) rfl
theorem tw_836 : (Jvm.Cond.methodLink "StarRightLaw" (34 : Nat) ({ cls := "StarRightModel", name := "about", desc := "(I)I" } : Jvm.MethodName)) ∈ TB := tb_in 836 (by decide +kernel) rfl
theorem tw_837 : (Jvm.Cond.instanceMethod ({ cls := "StarRightModel", name := "about", desc := "(I)I" } : Jvm.MethodName)) ∈ TB := tb_in 837 (by decide +kernel) rfl
theorem tw_838 : (Jvm.Cond.selects "StarRightModel" ({ cls := "StarRightModel", name := "about", desc := "(I)I" } : Jvm.MethodName) ({ cls := "StarRightModel", name := "about", desc := "(I)I" } : Jvm.MethodName)) ∈ TB := tb_in 838 (by decide +kernel) rfl
theorem tw_839 : (Jvm.Cond.code ({ cls := "StarRightModel", name := "about", desc := "(I)I" } : Jvm.MethodName) prog_11_method_26_code (4 : Nat) (Option.some Jvm.ClassFile.FieldType.int)) ∈ TB := tb_in 839 (by decide +kernel) rfl
theorem tw_840 : (Jvm.Cond.methodLink "StarRightModel" (145 : Nat) ({ cls := "StarRightModel", name := "all", desc := "()I" } : Jvm.MethodName)) ∈ TB := tb_in 840 (by decide +kernel) rfl
theorem tw_842 : (Jvm.Cond.instanceMethod ({ cls := "StarRightModel", name := "all", desc := "()I" } : Jvm.MethodName)) ∈ TB := tb_in 842 (by decide +kernel) rfl
theorem tw_843 : (Jvm.Cond.code ({ cls := "StarRightModel", name := "all", desc := "()I" } : Jvm.MethodName) prog_11_method_9_code (1 : Nat) (Option.some Jvm.ClassFile.FieldType.int)) ∈ TB := tb_in 843 (by decide +kernel) rfl
theorem tw_844 : (Jvm.Cond.methodLink "StarRightModel" (126 : Nat) ({ cls := "StarRightModel", name := "isShaded", desc := "([III)Z" } : Jvm.MethodName)) ∈ TB := tb_in 844 (by decide +kernel) rfl
theorem tw_846 : (Jvm.Cond.instanceMethod ({ cls := "StarRightModel", name := "isShaded", desc := "([III)Z" } : Jvm.MethodName)) ∈ TB := tb_in 846 (by decide +kernel) rfl
theorem tw_847 : (Jvm.Cond.code ({ cls := "StarRightModel", name := "isShaded", desc := "([III)Z" } : Jvm.MethodName) prog_11_method_20_code (6 : Nat) (Option.some Jvm.ClassFile.FieldType.boolean)) ∈ TB := tb_in 847 (by decide +kernel) rfl
theorem tw_848 : (Jvm.Cond.methodLink "StarRightModel" (119 : Nat) ({ cls := "StarRightModel", name := "has", desc := "(II)Z" } : Jvm.MethodName)) ∈ TB := tb_in 848 (by decide +kernel) rfl
theorem tw_849 : (Jvm.Cond.static ({ cls := "StarRightModel", name := "has", desc := "(II)Z" } : Jvm.MethodName)) ∈ TB := tb_in 849 (by decide +kernel) rfl
theorem tw_850 : (Jvm.Cond.code ({ cls := "StarRightModel", name := "has", desc := "(II)Z" } : Jvm.MethodName) prog_11_method_4_code (2 : Nat) (Option.some Jvm.ClassFile.FieldType.boolean)) ∈ TB := tb_in 850 (by decide +kernel) rfl
theorem tw_851 : (Jvm.Cond.methodLink "StarRightModel" (123 : Nat) ({ cls := "StarRightModel", name := "far", desc := "(II)I" } : Jvm.MethodName)) ∈ TB := tb_in 851 (by decide +kernel) rfl
theorem tw_852 : (Jvm.Cond.static ({ cls := "StarRightModel", name := "far", desc := "(II)I" } : Jvm.MethodName)) ∈ TB := tb_in 852 (by decide +kernel) rfl
theorem tw_853 : (Jvm.Cond.code ({ cls := "StarRightModel", name := "far", desc := "(II)I" } : Jvm.MethodName) prog_11_method_6_code (2 : Nat) (Option.some Jvm.ClassFile.FieldType.int)) ∈ TB := tb_in 853 (by decide +kernel) rfl
theorem tw_854 : (Jvm.Cond.methodLink "StarRightLaw" (39 : Nat) ({ cls := "StarRightModel", name := "roof", desc := "(II)I" } : Jvm.MethodName)) ∈ TB := tb_in 854 (by decide +kernel) rfl
theorem tw_855 : (Jvm.Cond.instanceMethod ({ cls := "StarRightModel", name := "roof", desc := "(II)I" } : Jvm.MethodName)) ∈ TB := tb_in 855 (by decide +kernel) rfl
theorem tw_856 : (Jvm.Cond.selects "StarRightModel" ({ cls := "StarRightModel", name := "roof", desc := "(II)I" } : Jvm.MethodName) ({ cls := "StarRightModel", name := "roof", desc := "(II)I" } : Jvm.MethodName)) ∈ TB := tb_in 856 (by decide +kernel) rfl
theorem tw_857 : (Jvm.Cond.code ({ cls := "StarRightModel", name := "roof", desc := "(II)I" } : Jvm.MethodName) prog_11_method_27_code (5 : Nat) (Option.some Jvm.ClassFile.FieldType.int)) ∈ TB := tb_in 857 (by decide +kernel) rfl
theorem tw_858 : (Jvm.Cond.methodLink "StarRightModel" (151 : Nat) ({ cls := "StarRightModel", name := "noRoof", desc := "(I)Z" } : Jvm.MethodName)) ∈ TB := tb_in 858 (by decide +kernel) rfl
theorem tw_860 : (Jvm.Cond.instanceMethod ({ cls := "StarRightModel", name := "noRoof", desc := "(I)Z" } : Jvm.MethodName)) ∈ TB := tb_in 860 (by decide +kernel) rfl
theorem tw_861 : (Jvm.Cond.code ({ cls := "StarRightModel", name := "noRoof", desc := "(I)Z" } : Jvm.MethodName) prog_11_method_7_code (2 : Nat) (Option.some Jvm.ClassFile.FieldType.boolean)) ∈ TB := tb_in 861 (by decide +kernel) rfl
theorem tw_862 : (Jvm.Cond.methodLink "StarRightModel" (133 : Nat) ({ cls := "StarRightModel", name := "doesSee", desc := "([IIII)Z" } : Jvm.MethodName)) ∈ TB := tb_in 862 (by decide +kernel) rfl
theorem tw_864 : (Jvm.Cond.instanceMethod ({ cls := "StarRightModel", name := "doesSee", desc := "([IIII)Z" } : Jvm.MethodName)) ∈ TB := tb_in 864 (by decide +kernel) rfl
theorem tw_865 : (Jvm.Cond.code ({ cls := "StarRightModel", name := "doesSee", desc := "([IIII)Z" } : Jvm.MethodName) prog_11_method_21_code (5 : Nat) (Option.some Jvm.ClassFile.FieldType.boolean)) ∈ TB := tb_in 865 (by decide +kernel) rfl
theorem tw_866 : (Jvm.Cond.methodLink "StarRightModel" (137 : Nat) ({ cls := "StarRightModel", name := "holder", desc := "([IIIII)I" } : Jvm.MethodName)) ∈ TB := tb_in 866 (by decide +kernel) rfl
theorem tw_868 : (Jvm.Cond.instanceMethod ({ cls := "StarRightModel", name := "holder", desc := "([IIIII)I" } : Jvm.MethodName)) ∈ TB := tb_in 868 (by decide +kernel) rfl
theorem tw_869 : (Jvm.Cond.code ({ cls := "StarRightModel", name := "holder", desc := "([IIIII)I" } : Jvm.MethodName) prog_11_method_23_code (11 : Nat) (Option.some Jvm.ClassFile.FieldType.int)) ∈ TB := tb_in 869 (by decide +kernel) rfl
theorem tw_870 : (Jvm.Cond.methodLink "StarRightModel" (130 : Nat) ({ cls := "StarRightModel", name := "over", desc := "(II)I" } : Jvm.MethodName)) ∈ TB := tb_in 870 (by decide +kernel) rfl
theorem tw_872 : (Jvm.Cond.instanceMethod ({ cls := "StarRightModel", name := "over", desc := "(II)I" } : Jvm.MethodName)) ∈ TB := tb_in 872 (by decide +kernel) rfl
theorem tw_873 : (Jvm.Cond.code ({ cls := "StarRightModel", name := "over", desc := "(II)I" } : Jvm.MethodName) prog_11_method_22_code (3 : Nat) (Option.some Jvm.ClassFile.FieldType.int)) ∈ TB := tb_in 873 (by decide +kernel) rfl
theorem tw_874 : (Jvm.Cond.methodLink "StarRightLaw" (43 : Nat) ({ cls := "StarRightModel", name := "star", desc := "(II)I" } : Jvm.MethodName)) ∈ TB := tb_in 874 (by decide +kernel) rfl
theorem tw_875 : (Jvm.Cond.instanceMethod ({ cls := "StarRightModel", name := "star", desc := "(II)I" } : Jvm.MethodName)) ∈ TB := tb_in 875 (by decide +kernel) rfl
theorem tw_876 : (Jvm.Cond.selects "StarRightModel" ({ cls := "StarRightModel", name := "star", desc := "(II)I" } : Jvm.MethodName) ({ cls := "StarRightModel", name := "star", desc := "(II)I" } : Jvm.MethodName)) ∈ TB := tb_in 876 (by decide +kernel) rfl
theorem tw_877 : (Jvm.Cond.code ({ cls := "StarRightModel", name := "star", desc := "(II)I" } : Jvm.MethodName) prog_11_method_28_code (4 : Nat) (Option.some Jvm.ClassFile.FieldType.int)) ∈ TB := tb_in 877 (by decide +kernel) rfl
theorem tw_878 : (Jvm.Cond.methodLink "StarRightModel" (154 : Nat) ({ cls := "StarRightModel", name := "noStar", desc := "(I)Z" } : Jvm.MethodName)) ∈ TB := tb_in 878 (by decide +kernel) rfl
theorem tw_880 : (Jvm.Cond.instanceMethod ({ cls := "StarRightModel", name := "noStar", desc := "(I)Z" } : Jvm.MethodName)) ∈ TB := tb_in 880 (by decide +kernel) rfl
theorem tw_881 : (Jvm.Cond.code ({ cls := "StarRightModel", name := "noStar", desc := "(I)Z" } : Jvm.MethodName) prog_11_method_8_code (2 : Nat) (Option.some Jvm.ClassFile.FieldType.boolean)) ∈ TB := tb_in 881 (by decide +kernel) rfl
theorem tw_882 : (Jvm.Cond.methodLink "StarRightModel" (141 : Nat) ({ cls := "StarRightModel", name := "pays", desc := "(IIII)I" } : Jvm.MethodName)) ∈ TB := tb_in 882 (by decide +kernel) rfl
theorem tw_884 : (Jvm.Cond.instanceMethod ({ cls := "StarRightModel", name := "pays", desc := "(IIII)I" } : Jvm.MethodName)) ∈ TB := tb_in 884 (by decide +kernel) rfl
theorem tw_885 : (Jvm.Cond.code ({ cls := "StarRightModel", name := "pays", desc := "(IIII)I" } : Jvm.MethodName) prog_11_method_24_code (7 : Nat) (Option.some Jvm.ClassFile.FieldType.int)) ∈ TB := tb_in 885 (by decide +kernel) rfl
theorem tw_886 : (Jvm.Cond.methodLink "StarRightLaw" (47 : Nat) ({ cls := "StarRightModel", name := "purse", desc := "(I)I" } : Jvm.MethodName)) ∈ TB := tb_in 886 (by decide +kernel) rfl
theorem tw_887 : (Jvm.Cond.instanceMethod ({ cls := "StarRightModel", name := "purse", desc := "(I)I" } : Jvm.MethodName)) ∈ TB := tb_in 887 (by decide +kernel) rfl
theorem tw_888 : (Jvm.Cond.selects "StarRightModel" ({ cls := "StarRightModel", name := "purse", desc := "(I)I" } : Jvm.MethodName) ({ cls := "StarRightModel", name := "purse", desc := "(I)I" } : Jvm.MethodName)) ∈ TB := tb_in 888 (by decide +kernel) rfl
theorem tw_889 : (Jvm.Cond.code ({ cls := "StarRightModel", name := "purse", desc := "(I)I" } : Jvm.MethodName) prog_11_method_29_code (2 : Nat) (Option.some Jvm.ClassFile.FieldType.int)) ∈ TB := tb_in 889 (by decide +kernel) rfl
theorem tw_890 : (Jvm.Cond.constantLong "StarRightModel" (157 : Nat) (3 : Int64)) ∈ TB := tb_in 890 (by decide +kernel) rfl
theorem tw_891 : (Jvm.Cond.methodLink "StarRightLaw" (51 : Nat) ({ cls := "StarRightModel", name := "build", desc := "(II)I" } : Jvm.MethodName)) ∈ TB := tb_in 891 (by decide +kernel) rfl
theorem tw_892 : (Jvm.Cond.instanceMethod ({ cls := "StarRightModel", name := "build", desc := "(II)I" } : Jvm.MethodName)) ∈ TB := tb_in 892 (by decide +kernel) rfl
theorem tw_893 : (Jvm.Cond.selects "StarRightModel" ({ cls := "StarRightModel", name := "build", desc := "(II)I" } : Jvm.MethodName) ({ cls := "StarRightModel", name := "build", desc := "(II)I" } : Jvm.MethodName)) ∈ TB := tb_in 893 (by decide +kernel) rfl
theorem tw_894 : (Jvm.Cond.code ({ cls := "StarRightModel", name := "build", desc := "(II)I" } : Jvm.MethodName) prog_11_method_31_code (4 : Nat) (Option.some Jvm.ClassFile.FieldType.int)) ∈ TB := tb_in 894 (by decide +kernel) rfl
theorem tw_895 : (Jvm.Cond.constantLong "StarRightModel" (159 : Nat) (9 : Int64)) ∈ TB := tb_in 895 (by decide +kernel) rfl
theorem tw_896 : (Jvm.Cond.methodLink "StarRightModel" (161 : Nat) ({ cls := "StarRightModel", name := "note", desc := "()V" } : Jvm.MethodName)) ∈ TB := tb_in 896 (by decide +kernel) rfl
theorem tw_898 : (Jvm.Cond.instanceMethod ({ cls := "StarRightModel", name := "note", desc := "()V" } : Jvm.MethodName)) ∈ TB := tb_in 898 (by decide +kernel) rfl
theorem tw_899 : (Jvm.Cond.code ({ cls := "StarRightModel", name := "note", desc := "()V" } : Jvm.MethodName) prog_11_method_30_code (2 : Nat) (Option.none : Option Jvm.ClassFile.FieldType)) ∈ TB := tb_in 899 (by decide +kernel) rfl
theorem tw_900 : (Jvm.Cond.methodLink "StarRightLaw" (55 : Nat) ({ cls := "StarRightModel", name := "light", desc := "(I)I" } : Jvm.MethodName)) ∈ TB := tb_in 900 (by decide +kernel) rfl
theorem tw_901 : (Jvm.Cond.instanceMethod ({ cls := "StarRightModel", name := "light", desc := "(I)I" } : Jvm.MethodName)) ∈ TB := tb_in 901 (by decide +kernel) rfl
theorem tw_902 : (Jvm.Cond.selects "StarRightModel" ({ cls := "StarRightModel", name := "light", desc := "(I)I" } : Jvm.MethodName) ({ cls := "StarRightModel", name := "light", desc := "(I)I" } : Jvm.MethodName)) ∈ TB := tb_in 902 (by decide +kernel) rfl
theorem tw_903 : (Jvm.Cond.code ({ cls := "StarRightModel", name := "light", desc := "(I)I" } : Jvm.MethodName) prog_11_method_32_code (2 : Nat) (Option.some Jvm.ClassFile.FieldType.int)) ∈ TB := tb_in 903 (by decide +kernel) rfl
theorem tw_904 : (Jvm.Cond.methodLink "StarRightLaw" (59 : Nat) ({ cls := "StarRightModel", name := "sell", desc := "(II)I" } : Jvm.MethodName)) ∈ TB := tb_in 904 (by decide +kernel) rfl
theorem tw_905 : (Jvm.Cond.instanceMethod ({ cls := "StarRightModel", name := "sell", desc := "(II)I" } : Jvm.MethodName)) ∈ TB := tb_in 905 (by decide +kernel) rfl
theorem tw_906 : (Jvm.Cond.selects "StarRightModel" ({ cls := "StarRightModel", name := "sell", desc := "(II)I" } : Jvm.MethodName) ({ cls := "StarRightModel", name := "sell", desc := "(II)I" } : Jvm.MethodName)) ∈ TB := tb_in 906 (by decide +kernel) rfl
theorem tw_907 : (Jvm.Cond.code ({ cls := "StarRightModel", name := "sell", desc := "(II)I" } : Jvm.MethodName) prog_11_method_33_code (4 : Nat) (Option.some Jvm.ClassFile.FieldType.int)) ∈ TB := tb_in 907 (by decide +kernel) rfl
theorem tw_908 : (Jvm.Cond.methodLink "StarRightLaw" (63 : Nat) ({ cls := "StarRightModel", name := "clouds", desc := "()I" } : Jvm.MethodName)) ∈ TB := tb_in 908 (by decide +kernel) rfl
theorem tw_909 : (Jvm.Cond.instanceMethod ({ cls := "StarRightModel", name := "clouds", desc := "()I" } : Jvm.MethodName)) ∈ TB := tb_in 909 (by decide +kernel) rfl
theorem tw_910 : (Jvm.Cond.selects "StarRightModel" ({ cls := "StarRightModel", name := "clouds", desc := "()I" } : Jvm.MethodName) ({ cls := "StarRightModel", name := "clouds", desc := "()I" } : Jvm.MethodName)) ∈ TB := tb_in 910 (by decide +kernel) rfl
theorem tw_911 : (Jvm.Cond.code ({ cls := "StarRightModel", name := "clouds", desc := "()I" } : Jvm.MethodName) prog_11_method_34_code (1 : Nat) (Option.some Jvm.ClassFile.FieldType.int)) ∈ TB := tb_in 911 (by decide +kernel) rfl
theorem tw_912 : (Jvm.Cond.methodLink "StarRightLaw" (67 : Nat) ({ cls := "StarRightModel", name := "hour", desc := "()I" } : Jvm.MethodName)) ∈ TB := tb_in 912 (by decide +kernel) rfl
theorem tw_913 : (Jvm.Cond.instanceMethod ({ cls := "StarRightModel", name := "hour", desc := "()I" } : Jvm.MethodName)) ∈ TB := tb_in 913 (by decide +kernel) rfl
theorem tw_914 : (Jvm.Cond.selects "StarRightModel" ({ cls := "StarRightModel", name := "hour", desc := "()I" } : Jvm.MethodName) ({ cls := "StarRightModel", name := "hour", desc := "()I" } : Jvm.MethodName)) ∈ TB := tb_in 914 (by decide +kernel) rfl
theorem tw_915 : (Jvm.Cond.code ({ cls := "StarRightModel", name := "hour", desc := "()I" } : Jvm.MethodName) prog_11_method_35_code (4 : Nat) (Option.some Jvm.ClassFile.FieldType.int)) ∈ TB := tb_in 915 (by decide +kernel) rfl
theorem tw_916 : (Jvm.Cond.methodLink "StarRightModel" (164 : Nat) ({ cls := "StarRightModel", name := "rentsOf", desc := "([IIIIII)I" } : Jvm.MethodName)) ∈ TB := tb_in 916 (by decide +kernel) rfl
theorem tw_918 : (Jvm.Cond.instanceMethod ({ cls := "StarRightModel", name := "rentsOf", desc := "([IIIIII)I" } : Jvm.MethodName)) ∈ TB := tb_in 918 (by decide +kernel) rfl
theorem tw_919 : (Jvm.Cond.code ({ cls := "StarRightModel", name := "rentsOf", desc := "([IIIIII)I" } : Jvm.MethodName) prog_11_method_25_code (11 : Nat) (Option.some Jvm.ClassFile.FieldType.int)) ∈ TB := tb_in 919 (by decide +kernel) rfl
theorem tw_920 : (Jvm.Cond.methodLink "StarRightLaw" (71 : Nat) ({ cls := "StarRightModel", name := "undo", desc := "()I" } : Jvm.MethodName)) ∈ TB := tb_in 920 (by decide +kernel) rfl
theorem tw_921 : (Jvm.Cond.instanceMethod ({ cls := "StarRightModel", name := "undo", desc := "()I" } : Jvm.MethodName)) ∈ TB := tb_in 921 (by decide +kernel) rfl
theorem tw_922 : (Jvm.Cond.selects "StarRightModel" ({ cls := "StarRightModel", name := "undo", desc := "()I" } : Jvm.MethodName) ({ cls := "StarRightModel", name := "undo", desc := "()I" } : Jvm.MethodName)) ∈ TB := tb_in 922 (by decide +kernel) rfl
theorem tw_923 : (Jvm.Cond.code ({ cls := "StarRightModel", name := "undo", desc := "()I" } : Jvm.MethodName) prog_11_method_36_code (2 : Nat) (Option.some Jvm.ClassFile.FieldType.int)) ∈ TB := tb_in 923 (by decide +kernel) rfl
theorem tw_924 : (Jvm.Cond.methodLink "StarRightLaw" (75 : Nat) ({ cls := "StarRightModel", name := "rents", desc := "(II)I" } : Jvm.MethodName)) ∈ TB := tb_in 924 (by decide +kernel) rfl
theorem tw_925 : (Jvm.Cond.instanceMethod ({ cls := "StarRightModel", name := "rents", desc := "(II)I" } : Jvm.MethodName)) ∈ TB := tb_in 925 (by decide +kernel) rfl
theorem tw_926 : (Jvm.Cond.selects "StarRightModel" ({ cls := "StarRightModel", name := "rents", desc := "(II)I" } : Jvm.MethodName) ({ cls := "StarRightModel", name := "rents", desc := "(II)I" } : Jvm.MethodName)) ∈ TB := tb_in 926 (by decide +kernel) rfl
theorem tw_927 : (Jvm.Cond.code ({ cls := "StarRightModel", name := "rents", desc := "(II)I" } : Jvm.MethodName) prog_11_method_38_code (3 : Nat) (Option.some Jvm.ClassFile.FieldType.int)) ∈ TB := tb_in 927 (by decide +kernel) rfl
theorem tw_928 : (Jvm.Cond.constantLong "StarRightModel" (168 : Nat) (4 : Int64)) ∈ TB := tb_in 928 (by decide +kernel) rfl
theorem tw_929 : (Jvm.Cond.constantLong "StarRightModel" (170 : Nat) (12 : Int64)) ∈ TB := tb_in 929 (by decide +kernel) rfl
theorem tw_930 : (Jvm.Cond.methodLink "StarRightLaw" (79 : Nat) ({ cls := "StarRightModel", name := "hold", desc := "(II)I" } : Jvm.MethodName)) ∈ TB := tb_in 930 (by decide +kernel) rfl
theorem tw_931 : (Jvm.Cond.instanceMethod ({ cls := "StarRightModel", name := "hold", desc := "(II)I" } : Jvm.MethodName)) ∈ TB := tb_in 931 (by decide +kernel) rfl
theorem tw_932 : (Jvm.Cond.selects "StarRightModel" ({ cls := "StarRightModel", name := "hold", desc := "(II)I" } : Jvm.MethodName) ({ cls := "StarRightModel", name := "hold", desc := "(II)I" } : Jvm.MethodName)) ∈ TB := tb_in 932 (by decide +kernel) rfl
theorem tw_933 : (Jvm.Cond.code ({ cls := "StarRightModel", name := "hold", desc := "(II)I" } : Jvm.MethodName) prog_11_method_39_code (9 : Nat) (Option.some Jvm.ClassFile.FieldType.int)) ∈ TB := tb_in 933 (by decide +kernel) rfl
theorem tw_934 : (Jvm.Cond.constantLong "StarRightModel" (172 : Nat) (10 : Int64)) ∈ TB := tb_in 934 (by decide +kernel) rfl
theorem tw_935 : (Jvm.Cond.methodLink "StarRightModel" (174 : Nat) ({ cls := "StarRightModel", name := "many", desc := "(I)I" } : Jvm.MethodName)) ∈ TB := tb_in 935 (by decide +kernel) rfl
theorem tw_936 : (Jvm.Cond.static ({ cls := "StarRightModel", name := "many", desc := "(I)I" } : Jvm.MethodName)) ∈ TB := tb_in 936 (by decide +kernel) rfl
theorem tw_937 : (Jvm.Cond.code ({ cls := "StarRightModel", name := "many", desc := "(I)I" } : Jvm.MethodName) prog_11_method_5_code (3 : Nat) (Option.some Jvm.ClassFile.FieldType.int)) ∈ TB := tb_in 937 (by decide +kernel) rfl
theorem tw_938 : (Jvm.Cond.methodLink "StarRightLaw" (83 : Nat) ({ cls := "StarRightModel", name := "fires", desc := "(II)I" } : Jvm.MethodName)) ∈ TB := tb_in 938 (by decide +kernel) rfl
theorem tw_939 : (Jvm.Cond.instanceMethod ({ cls := "StarRightModel", name := "fires", desc := "(II)I" } : Jvm.MethodName)) ∈ TB := tb_in 939 (by decide +kernel) rfl
theorem tw_940 : (Jvm.Cond.selects "StarRightModel" ({ cls := "StarRightModel", name := "fires", desc := "(II)I" } : Jvm.MethodName) ({ cls := "StarRightModel", name := "fires", desc := "(II)I" } : Jvm.MethodName)) ∈ TB := tb_in 940 (by decide +kernel) rfl
theorem tw_941 : (Jvm.Cond.code ({ cls := "StarRightModel", name := "fires", desc := "(II)I" } : Jvm.MethodName) prog_11_method_41_code (3 : Nat) (Option.some Jvm.ClassFile.FieldType.int)) ∈ TB := tb_in 941 (by decide +kernel) rfl
theorem tw_942 : (Jvm.Cond.methodLink "StarRightModel" (187 : Nat) ({ cls := "StarRightModel", name := "findFires", desc := "(I)V" } : Jvm.MethodName)) ∈ TB := tb_in 942 (by decide +kernel) rfl
theorem tw_944 : (Jvm.Cond.instanceMethod ({ cls := "StarRightModel", name := "findFires", desc := "(I)V" } : Jvm.MethodName)) ∈ TB := tb_in 944 (by decide +kernel) rfl
theorem tw_945 : (Jvm.Cond.code ({ cls := "StarRightModel", name := "findFires", desc := "(I)V" } : Jvm.MethodName) prog_11_method_40_code (4 : Nat) (Option.none : Option Jvm.ClassFile.FieldType)) ∈ TB := tb_in 945 (by decide +kernel) rfl
theorem tw_946 : (Jvm.Cond.methodLink "StarRightModel" (184 : Nat) ({ cls := "StarRightModel", name := "begin", desc := "()V" } : Jvm.MethodName)) ∈ TB := tb_in 946 (by decide +kernel) rfl
theorem tw_948 : (Jvm.Cond.instanceMethod ({ cls := "StarRightModel", name := "begin", desc := "()V" } : Jvm.MethodName)) ∈ TB := tb_in 948 (by decide +kernel) rfl
theorem tw_949 : (Jvm.Cond.code ({ cls := "StarRightModel", name := "begin", desc := "()V" } : Jvm.MethodName) prog_11_method_37_code (2 : Nat) (Option.none : Option Jvm.ClassFile.FieldType)) ∈ TB := tb_in 949 (by decide +kernel) rfl
theorem tw_950 : (Jvm.Cond.methodLink "StarRightLaw" (88 : Nat) ({ cls := "StarRightModel", name := "share", desc := "(IIZ)I" } : Jvm.MethodName)) ∈ TB := tb_in 950 (by decide +kernel) rfl
theorem tw_951 : (Jvm.Cond.instanceMethod ({ cls := "StarRightModel", name := "share", desc := "(IIZ)I" } : Jvm.MethodName)) ∈ TB := tb_in 951 (by decide +kernel) rfl
theorem tw_952 : (Jvm.Cond.selects "StarRightModel" ({ cls := "StarRightModel", name := "share", desc := "(IIZ)I" } : Jvm.MethodName) ({ cls := "StarRightModel", name := "share", desc := "(IIZ)I" } : Jvm.MethodName)) ∈ TB := tb_in 952 (by decide +kernel) rfl
theorem tw_953 : (Jvm.Cond.code ({ cls := "StarRightModel", name := "share", desc := "(IIZ)I" } : Jvm.MethodName) prog_11_method_45_code (7 : Nat) (Option.some Jvm.ClassFile.FieldType.int)) ∈ TB := tb_in 953 (by decide +kernel) rfl
theorem tw_954 : (Jvm.Cond.methodLink "StarRightModel" (194 : Nat) ({ cls := "StarRightModel", name := "orders", desc := "(I)I" } : Jvm.MethodName)) ∈ TB := tb_in 954 (by decide +kernel) rfl
theorem tw_955 : (Jvm.Cond.static ({ cls := "StarRightModel", name := "orders", desc := "(I)I" } : Jvm.MethodName)) ∈ TB := tb_in 955 (by decide +kernel) rfl
theorem tw_956 : (Jvm.Cond.code ({ cls := "StarRightModel", name := "orders", desc := "(I)I" } : Jvm.MethodName) prog_11_method_42_code (3 : Nat) (Option.some Jvm.ClassFile.FieldType.int)) ∈ TB := tb_in 956 (by decide +kernel) rfl
theorem tw_957 : (Jvm.Cond.methodLink "StarRightModel" (197 : Nat) ({ cls := "StarRightModel", name := "fraction", desc := "(IIZ)I" } : Jvm.MethodName)) ∈ TB := tb_in 957 (by decide +kernel) rfl
theorem tw_958 : (Jvm.Cond.static ({ cls := "StarRightModel", name := "fraction", desc := "(IIZ)I" } : Jvm.MethodName)) ∈ TB := tb_in 958 (by decide +kernel) rfl
theorem tw_959 : (Jvm.Cond.code ({ cls := "StarRightModel", name := "fraction", desc := "(IIZ)I" } : Jvm.MethodName) prog_11_method_44_code (4 : Nat) (Option.some Jvm.ClassFile.FieldType.int)) ∈ TB := tb_in 959 (by decide +kernel) rfl
theorem tw_960 : (Jvm.Cond.methodLink "StarRightModel" (191 : Nat) ({ cls := "StarRightModel", name := "divisor", desc := "(II)I" } : Jvm.MethodName)) ∈ TB := tb_in 960 (by decide +kernel) rfl
theorem tw_961 : (Jvm.Cond.static ({ cls := "StarRightModel", name := "divisor", desc := "(II)I" } : Jvm.MethodName)) ∈ TB := tb_in 961 (by decide +kernel) rfl
theorem tw_962 : (Jvm.Cond.code ({ cls := "StarRightModel", name := "divisor", desc := "(II)I" } : Jvm.MethodName) prog_11_method_43_code (5 : Nat) (Option.some Jvm.ClassFile.FieldType.int)) ∈ TB := tb_in 962 (by decide +kernel) rfl
theorem tw_963 : (Jvm.Cond.methodLink "StarRightLaw" (92 : Nat) ({ cls := "StarRightModel", name := "bestLaw", desc := "(II)I" } : Jvm.MethodName)) ∈ TB := tb_in 963 (by decide +kernel) rfl
theorem tw_964 : (Jvm.Cond.instanceMethod ({ cls := "StarRightModel", name := "bestLaw", desc := "(II)I" } : Jvm.MethodName)) ∈ TB := tb_in 964 (by decide +kernel) rfl
theorem tw_965 : (Jvm.Cond.selects "StarRightModel" ({ cls := "StarRightModel", name := "bestLaw", desc := "(II)I" } : Jvm.MethodName) ({ cls := "StarRightModel", name := "bestLaw", desc := "(II)I" } : Jvm.MethodName)) ∈ TB := tb_in 965 (by decide +kernel) rfl
theorem tw_966 : (Jvm.Cond.code ({ cls := "StarRightModel", name := "bestLaw", desc := "(II)I" } : Jvm.MethodName) prog_11_method_46_code (7 : Nat) (Option.some Jvm.ClassFile.FieldType.int)) ∈ TB := tb_in 966 (by decide +kernel) rfl
theorem tw_967 : (Jvm.Cond.methodLink "StarRightLaw" (96 : Nat) ({ cls := "StarRightModel", name := "starless", desc := "(I)I" } : Jvm.MethodName)) ∈ TB := tb_in 967 (by decide +kernel) rfl
theorem tw_968 : (Jvm.Cond.instanceMethod ({ cls := "StarRightModel", name := "starless", desc := "(I)I" } : Jvm.MethodName)) ∈ TB := tb_in 968 (by decide +kernel) rfl
theorem tw_969 : (Jvm.Cond.selects "StarRightModel" ({ cls := "StarRightModel", name := "starless", desc := "(I)I" } : Jvm.MethodName) ({ cls := "StarRightModel", name := "starless", desc := "(I)I" } : Jvm.MethodName)) ∈ TB := tb_in 969 (by decide +kernel) rfl
theorem tw_970 : (Jvm.Cond.code ({ cls := "StarRightModel", name := "starless", desc := "(I)I" } : Jvm.MethodName) prog_11_method_47_code (7 : Nat) (Option.some Jvm.ClassFile.FieldType.int)) ∈ TB := tb_in 970 (by decide +kernel) rfl
theorem tw_971 : (Jvm.Cond.methodLink "StarRightLaw" (101 : Nat) ({ cls := "StarRightModel", name := "rests", desc := "(IIII)I" } : Jvm.MethodName)) ∈ TB := tb_in 971 (by decide +kernel) rfl
theorem tw_972 : (Jvm.Cond.instanceMethod ({ cls := "StarRightModel", name := "rests", desc := "(IIII)I" } : Jvm.MethodName)) ∈ TB := tb_in 972 (by decide +kernel) rfl
theorem tw_973 : (Jvm.Cond.selects "StarRightModel" ({ cls := "StarRightModel", name := "rests", desc := "(IIII)I" } : Jvm.MethodName) ({ cls := "StarRightModel", name := "rests", desc := "(IIII)I" } : Jvm.MethodName)) ∈ TB := tb_in 973 (by decide +kernel) rfl
theorem tw_974 : (Jvm.Cond.code ({ cls := "StarRightModel", name := "rests", desc := "(IIII)I" } : Jvm.MethodName) prog_11_method_50_code (6 : Nat) (Option.some Jvm.ClassFile.FieldType.int)) ∈ TB := tb_in 974 (by decide +kernel) rfl
theorem tw_975 : (Jvm.Cond.methodLink "StarRightModel" (217 : Nat) ({ cls := "StarRightModel", name := "doesRest", desc := "(IIIII)Z" } : Jvm.MethodName)) ∈ TB := tb_in 975 (by decide +kernel) rfl
theorem tw_977 : (Jvm.Cond.instanceMethod ({ cls := "StarRightModel", name := "doesRest", desc := "(IIIII)Z" } : Jvm.MethodName)) ∈ TB := tb_in 977 (by decide +kernel) rfl
theorem tw_978 : (Jvm.Cond.code ({ cls := "StarRightModel", name := "doesRest", desc := "(IIIII)Z" } : Jvm.MethodName) prog_11_method_49_code (10 : Nat) (Option.some Jvm.ClassFile.FieldType.boolean)) ∈ TB := tb_in 978 (by decide +kernel) rfl
theorem tw_979 : (Jvm.Cond.methodLink "StarRightModel" (207 : Nat) ({ cls := "StarRightModel", name := "layRest", desc := "(IIIII)V" } : Jvm.MethodName)) ∈ TB := tb_in 979 (by decide +kernel) rfl
theorem tw_981 : (Jvm.Cond.instanceMethod ({ cls := "StarRightModel", name := "layRest", desc := "(IIIII)V" } : Jvm.MethodName)) ∈ TB := tb_in 981 (by decide +kernel) rfl
theorem tw_982 : (Jvm.Cond.code ({ cls := "StarRightModel", name := "layRest", desc := "(IIIII)V" } : Jvm.MethodName) prog_11_method_48_code (9 : Nat) (Option.none : Option Jvm.ClassFile.FieldType)) ∈ TB := tb_in 982 (by decide +kernel) rfl
theorem tw_983 : (Jvm.Cond.methodLink "StarRightLaw" (105 : Nat) ({ cls := "StarRightModel", name := "shine", desc := "(IIZ)I" } : Jvm.MethodName)) ∈ TB := tb_in 983 (by decide +kernel) rfl
theorem tw_984 : (Jvm.Cond.instanceMethod ({ cls := "StarRightModel", name := "shine", desc := "(IIZ)I" } : Jvm.MethodName)) ∈ TB := tb_in 984 (by decide +kernel) rfl
theorem tw_985 : (Jvm.Cond.selects "StarRightModel" ({ cls := "StarRightModel", name := "shine", desc := "(IIZ)I" } : Jvm.MethodName) ({ cls := "StarRightModel", name := "shine", desc := "(IIZ)I" } : Jvm.MethodName)) ∈ TB := tb_in 985 (by decide +kernel) rfl
theorem tw_986 : (Jvm.Cond.code ({ cls := "StarRightModel", name := "shine", desc := "(IIZ)I" } : Jvm.MethodName) prog_11_method_51_code (4 : Nat) (Option.some Jvm.ClassFile.FieldType.int)) ∈ TB := tb_in 986 (by decide +kernel) rfl
theorem tw_987 : (Jvm.Cond.methodLink "StarRightLaw" (109 : Nat) ({ cls := "StarRightModel", name := "unshine", desc := "()I" } : Jvm.MethodName)) ∈ TB := tb_in 987 (by decide +kernel) rfl
theorem tw_988 : (Jvm.Cond.instanceMethod ({ cls := "StarRightModel", name := "unshine", desc := "()I" } : Jvm.MethodName)) ∈ TB := tb_in 988 (by decide +kernel) rfl
theorem tw_989 : (Jvm.Cond.selects "StarRightModel" ({ cls := "StarRightModel", name := "unshine", desc := "()I" } : Jvm.MethodName) ({ cls := "StarRightModel", name := "unshine", desc := "()I" } : Jvm.MethodName)) ∈ TB := tb_in 989 (by decide +kernel) rfl
theorem tw_990 : (Jvm.Cond.code ({ cls := "StarRightModel", name := "unshine", desc := "()I" } : Jvm.MethodName) prog_11_method_52_code (2 : Nat) (Option.some Jvm.ClassFile.FieldType.int)) ∈ TB := tb_in 990 (by decide +kernel) rfl
theorem tw_991 : (Jvm.Cond.methodLink "StarRightLaw" (113 : Nat) ({ cls := "StarRightModel", name := "found", desc := "(I)I" } : Jvm.MethodName)) ∈ TB := tb_in 991 (by decide +kernel) rfl
theorem tw_992 : (Jvm.Cond.instanceMethod ({ cls := "StarRightModel", name := "found", desc := "(I)I" } : Jvm.MethodName)) ∈ TB := tb_in 992 (by decide +kernel) rfl
theorem tw_993 : (Jvm.Cond.selects "StarRightModel" ({ cls := "StarRightModel", name := "found", desc := "(I)I" } : Jvm.MethodName) ({ cls := "StarRightModel", name := "found", desc := "(I)I" } : Jvm.MethodName)) ∈ TB := tb_in 993 (by decide +kernel) rfl
theorem tw_994 : (Jvm.Cond.code ({ cls := "StarRightModel", name := "found", desc := "(I)I" } : Jvm.MethodName) prog_11_method_55_code (2 : Nat) (Option.some Jvm.ClassFile.FieldType.int)) ∈ TB := tb_in 994 (by decide +kernel) rfl
theorem tw_995 : (Jvm.Cond.methodLink "StarRightModel" (231 : Nat) ({ cls := "StarRightModel", name := "find", desc := "()V" } : Jvm.MethodName)) ∈ TB := tb_in 995 (by decide +kernel) rfl
theorem tw_997 : (Jvm.Cond.instanceMethod ({ cls := "StarRightModel", name := "find", desc := "()V" } : Jvm.MethodName)) ∈ TB := tb_in 997 (by decide +kernel) rfl
theorem tw_998 : (Jvm.Cond.code ({ cls := "StarRightModel", name := "find", desc := "()V" } : Jvm.MethodName) prog_11_method_54_code (4 : Nat) (Option.none : Option Jvm.ClassFile.FieldType)) ∈ TB := tb_in 998 (by decide +kernel) rfl
theorem tw_999 : (Jvm.Cond.methodLink "StarRightModel" (227 : Nat) ({ cls := "StarRightModel", name := "isOver", desc := "(III)Z" } : Jvm.MethodName)) ∈ TB := tb_in 999 (by decide +kernel) rfl
theorem tw_1000 : (Jvm.Cond.static ({ cls := "StarRightModel", name := "isOver", desc := "(III)Z" } : Jvm.MethodName)) ∈ TB := tb_in 1000 (by decide +kernel) rfl
theorem tw_1001 : (Jvm.Cond.code ({ cls := "StarRightModel", name := "isOver", desc := "(III)Z" } : Jvm.MethodName) prog_11_method_53_code (3 : Nat) (Option.some Jvm.ClassFile.FieldType.boolean)) ∈ TB := tb_in 1001 (by decide +kernel) rfl
theorem tw_1002 : (Jvm.Cond.methodLink "StarRightLaw" (117 : Nat) ({ cls := "StarRightModel", name := "look", desc := "()I" } : Jvm.MethodName)) ∈ TB := tb_in 1002 (by decide +kernel) rfl
theorem tw_1003 : (Jvm.Cond.instanceMethod ({ cls := "StarRightModel", name := "look", desc := "()I" } : Jvm.MethodName)) ∈ TB := tb_in 1003 (by decide +kernel) rfl
theorem tw_1004 : (Jvm.Cond.selects "StarRightModel" ({ cls := "StarRightModel", name := "look", desc := "()I" } : Jvm.MethodName) ({ cls := "StarRightModel", name := "look", desc := "()I" } : Jvm.MethodName)) ∈ TB := tb_in 1004 (by decide +kernel) rfl
theorem tw_1005 : (Jvm.Cond.code ({ cls := "StarRightModel", name := "look", desc := "()I" } : Jvm.MethodName) prog_11_method_56_code (6 : Nat) (Option.some Jvm.ClassFile.FieldType.int)) ∈ TB := tb_in 1005 (by decide +kernel) rfl
theorem tw_1006 : (Jvm.Cond.methodLink "StarRightLaw" (122 : Nat) ({ cls := "StarRightModel", name := "chance", desc := "(IIIZ)I" } : Jvm.MethodName)) ∈ TB := tb_in 1006 (by decide +kernel) rfl
theorem tw_1007 : (Jvm.Cond.instanceMethod ({ cls := "StarRightModel", name := "chance", desc := "(IIIZ)I" } : Jvm.MethodName)) ∈ TB := tb_in 1007 (by decide +kernel) rfl
theorem tw_1008 : (Jvm.Cond.selects "StarRightModel" ({ cls := "StarRightModel", name := "chance", desc := "(IIIZ)I" } : Jvm.MethodName) ({ cls := "StarRightModel", name := "chance", desc := "(IIIZ)I" } : Jvm.MethodName)) ∈ TB := tb_in 1008 (by decide +kernel) rfl
theorem tw_1009 : (Jvm.Cond.code ({ cls := "StarRightModel", name := "chance", desc := "(IIIZ)I" } : Jvm.MethodName) prog_11_method_57_code (10 : Nat) (Option.some Jvm.ClassFile.FieldType.int)) ∈ TB := tb_in 1009 (by decide +kernel) rfl
theorem tw_1010 : (Jvm.Cond.constantLong "StarRightModel" (234 : Nat) (6 : Int64)) ∈ TB := tb_in 1010 (by decide +kernel) rfl
theorem tw_1011 : (Jvm.Cond.methodLink "StarRightLaw" (129 : Nat) ({ cls := "StarRightModel", name := "seed", desc := "(J)J" } : Jvm.MethodName)) ∈ TB := tb_in 1011 (by decide +kernel) rfl
theorem tw_1012 : (Jvm.Cond.instanceMethod ({ cls := "StarRightModel", name := "seed", desc := "(J)J" } : Jvm.MethodName)) ∈ TB := tb_in 1012 (by decide +kernel) rfl
theorem tw_1013 : (Jvm.Cond.selects "StarRightModel" ({ cls := "StarRightModel", name := "seed", desc := "(J)J" } : Jvm.MethodName) ({ cls := "StarRightModel", name := "seed", desc := "(J)J" } : Jvm.MethodName)) ∈ TB := tb_in 1013 (by decide +kernel) rfl
theorem tw_1014 : (Jvm.Cond.code ({ cls := "StarRightModel", name := "seed", desc := "(J)J" } : Jvm.MethodName) prog_11_method_58_code (5 : Nat) (Option.some Jvm.ClassFile.FieldType.long)) ∈ TB := tb_in 1014 (by decide +kernel) rfl
theorem tw_1015 : (Jvm.Cond.methodLink "StarRightLaw" (133 : Nat) ({ cls := "StarRightModel", name := "nights", desc := "(I)I" } : Jvm.MethodName)) ∈ TB := tb_in 1015 (by decide +kernel) rfl
theorem tw_1016 : (Jvm.Cond.instanceMethod ({ cls := "StarRightModel", name := "nights", desc := "(I)I" } : Jvm.MethodName)) ∈ TB := tb_in 1016 (by decide +kernel) rfl
theorem tw_1017 : (Jvm.Cond.selects "StarRightModel" ({ cls := "StarRightModel", name := "nights", desc := "(I)I" } : Jvm.MethodName) ({ cls := "StarRightModel", name := "nights", desc := "(I)I" } : Jvm.MethodName)) ∈ TB := tb_in 1017 (by decide +kernel) rfl
theorem tw_1018 : (Jvm.Cond.code ({ cls := "StarRightModel", name := "nights", desc := "(I)I" } : Jvm.MethodName) prog_11_method_59_code (4 : Nat) (Option.some Jvm.ClassFile.FieldType.int)) ∈ TB := tb_in 1018 (by decide +kernel) rfl
theorem tw_1019 : (Jvm.Cond.constantLong "StarRightModel" (240 : Nat) (30 : Int64)) ∈ TB := tb_in 1019 (by decide +kernel) rfl
theorem tw_1020 : (Jvm.Cond.constantLong "StarRightModel" (242 : Nat) (6364136223846793005 : Int64)) ∈ TB := tb_in 1020 (by decide +kernel) rfl
theorem tw_1021 : (Jvm.Cond.constantLong "StarRightModel" (244 : Nat) (1442695040888963407 : Int64)) ∈ TB := tb_in 1021 (by decide +kernel) rfl
theorem tw_1022 : (Jvm.Cond.methodLink "StarRightLaw" (137 : Nat) ({ cls := "StarRightModel", name := "keep", desc := "(I)I" } : Jvm.MethodName)) ∈ TB := tb_in 1022 (by decide +kernel) rfl
theorem tw_1023 : (Jvm.Cond.instanceMethod ({ cls := "StarRightModel", name := "keep", desc := "(I)I" } : Jvm.MethodName)) ∈ TB := tb_in 1023 (by decide +kernel) rfl
theorem tw_1024 : (Jvm.Cond.selects "StarRightModel" ({ cls := "StarRightModel", name := "keep", desc := "(I)I" } : Jvm.MethodName) ({ cls := "StarRightModel", name := "keep", desc := "(I)I" } : Jvm.MethodName)) ∈ TB := tb_in 1024 (by decide +kernel) rfl
theorem tw_1025 : (Jvm.Cond.code ({ cls := "StarRightModel", name := "keep", desc := "(I)I" } : Jvm.MethodName) prog_11_method_60_code (3 : Nat) (Option.some Jvm.ClassFile.FieldType.int)) ∈ TB := tb_in 1025 (by decide +kernel) rfl
theorem tw_1026 : (Jvm.Cond.methodLink "StarRightLaw" (141 : Nat) ({ cls := "StarRightModel", name := "again", desc := "(I)I" } : Jvm.MethodName)) ∈ TB := tb_in 1026 (by decide +kernel) rfl
theorem tw_1027 : (Jvm.Cond.instanceMethod ({ cls := "StarRightModel", name := "again", desc := "(I)I" } : Jvm.MethodName)) ∈ TB := tb_in 1027 (by decide +kernel) rfl
theorem tw_1028 : (Jvm.Cond.selects "StarRightModel" ({ cls := "StarRightModel", name := "again", desc := "(I)I" } : Jvm.MethodName) ({ cls := "StarRightModel", name := "again", desc := "(I)I" } : Jvm.MethodName)) ∈ TB := tb_in 1028 (by decide +kernel) rfl
theorem tw_1029 : (Jvm.Cond.code ({ cls := "StarRightModel", name := "again", desc := "(I)I" } : Jvm.MethodName) prog_11_method_61_code (3 : Nat) (Option.some Jvm.ClassFile.FieldType.int)) ∈ TB := tb_in 1029 (by decide +kernel) rfl
theorem tw_1030 : (Jvm.Cond.constantLong "StarRightLaw" (123 : Nat) (4294967295 : Int64)) ∈ TB := tb_in 1030 (by decide +kernel) rfl
/-- the words of nest mates (a state keeps them when it is warmed) -/
def NW : List Cond := [(Jvm.Cond.methodLinkNest "StarRight" (11 : Nat) ({ cls := "StarRight$Text", name := "<init>", desc := "()V" } : Jvm.MethodName) "StarRight"), (Jvm.Cond.fieldLinkNest "StarRight" (128 : Nat) "StarRight$Text" "length" "I" "StarRight"), (Jvm.Cond.methodLinkNest "StarRight" (18 : Nat) ({ cls := "StarRight$Stars", name := "<init>", desc := "()V" } : Jvm.MethodName) "StarRight"), (Jvm.Cond.fieldLinkNest "StarRight" (166 : Nat) "StarRight$Stars" "speed" "[I" "StarRight"), (Jvm.Cond.fieldLinkNest "StarRight$Sight" (55 : Nat) "StarRight$Stars" "worth" "[I" "StarRight"), (Jvm.Cond.fieldLinkNest "StarRight" (169 : Nat) "StarRight$Stars" "worth" "[I" "StarRight"), (Jvm.Cond.fieldLinkNest "StarRight" (111 : Nat) "StarRight$Stars" "count" "I" "StarRight"), (Jvm.Cond.fieldLinkNest "StarRight$Sight" (38 : Nat) "StarRight$Stars" "count" "I" "StarRight"), (Jvm.Cond.methodLinkNest "StarRight" (25 : Nat) ({ cls := "StarRight$Town", name := "<init>", desc := "()V" } : Jvm.MethodName) "StarRight"), (Jvm.Cond.fieldLinkNest "StarRight" (135 : Nat) "StarRight$Town" "cell" "[I" "StarRight"), (Jvm.Cond.fieldLinkNest "StarRight" (138 : Nat) "StarRight$Town" "height" "[I" "StarRight"), (Jvm.Cond.fieldLinkNest "StarRight" (141 : Nat) "StarRight$Town" "owner" "[I" "StarRight"), (Jvm.Cond.fieldLinkNest "StarRight" (179 : Nat) "StarRight$Town" "purses" "[I" "StarRight"), (Jvm.Cond.fieldLinkNest "StarRight" (108 : Nat) "StarRight$Town" "roofs" "I" "StarRight"), (Jvm.Cond.fieldLinkNest "StarRight" (120 : Nat) "StarRight$Town" "smoking" "I" "StarRight"), (Jvm.Cond.fieldLinkNest "StarRight" (114 : Nat) "StarRight$Town" "now" "I" "StarRight"), (Jvm.Cond.fieldLinkNest "StarRight$Sight" (70 : Nat) "StarRight$Town" "now" "I" "StarRight"), (Jvm.Cond.fieldLinkNest "StarRight" (117 : Nat) "StarRight$Town" "cloudy" "Z" "StarRight"), (Jvm.Cond.fieldLinkNest "StarRight$Sight" (66 : Nat) "StarRight$Town" "cloudy" "Z" "StarRight"), (Jvm.Cond.methodLinkNest "StarRight" (35 : Nat) ({ cls := "StarRight$Slot", name := "<init>", desc := "()V" } : Jvm.MethodName) "StarRight"), (Jvm.Cond.methodLinkNest "StarRight$Slot" (9 : Nat) ({ cls := "StarRight$Town", name := "<init>", desc := "()V" } : Jvm.MethodName) "StarRight"), (Jvm.Cond.fieldLinkNest "StarRight" (323 : Nat) "StarRight$Slot" "town" "LStarRight$Town;" "StarRight"), (Jvm.Cond.fieldLinkNest "StarRight" (94 : Nat) "StarRight$Slot" "kept" "Z" "StarRight"), (Jvm.Cond.methodLinkNest "StarRight" (45 : Nat) ({ cls := "StarRight$Sight", name := "<init>", desc := "()V" } : Jvm.MethodName) "StarRight"), (Jvm.Cond.methodLinkNest "StarRight" (52 : Nat) ({ cls := "StarRight$Acts", name := "<init>", desc := "()V" } : Jvm.MethodName) "StarRight"), (Jvm.Cond.fieldLinkNest "StarRight" (205 : Nat) "StarRight$Acts" "kind" "[I" "StarRight"), (Jvm.Cond.fieldLinkNest "StarRight" (202 : Nat) "StarRight$Acts" "roof" "[I" "StarRight"), (Jvm.Cond.fieldLinkNest "StarRight" (208 : Nat) "StarRight$Acts" "was" "[I" "StarRight"), (Jvm.Cond.fieldLinkNest "StarRight" (126 : Nat) "StarRight$Acts" "count" "I" "StarRight"), (Jvm.Cond.methodLinkNest "StarRight" (59 : Nat) ({ cls := "StarRight$Watch", name := "<init>", desc := "()V" } : Jvm.MethodName) "StarRight"), (Jvm.Cond.fieldLinkNest "StarRight" (127 : Nat) "StarRight$Watch" "count" "I" "StarRight"), (Jvm.Cond.methodLinkNest "StarRight" (66 : Nat) ({ cls := "StarRight$Contest", name := "<init>", desc := "()V" } : Jvm.MethodName) "StarRight")]
theorem tn_25 : (Jvm.Cond.methodLinkNest "StarRight" (11 : Nat) ({ cls := "StarRight$Text", name := "<init>", desc := "()V" } : Jvm.MethodName) "StarRight") ∈ NW := List.mem_of_getElem? (i := 0) rfl
theorem tn_31 : (Jvm.Cond.fieldLinkNest "StarRight" (128 : Nat) "StarRight$Text" "length" "I" "StarRight") ∈ NW := List.mem_of_getElem? (i := 1) rfl
theorem tn_40 : (Jvm.Cond.methodLinkNest "StarRight" (18 : Nat) ({ cls := "StarRight$Stars", name := "<init>", desc := "()V" } : Jvm.MethodName) "StarRight") ∈ NW := List.mem_of_getElem? (i := 2) rfl
theorem tn_46 : (Jvm.Cond.fieldLinkNest "StarRight" (166 : Nat) "StarRight$Stars" "speed" "[I" "StarRight") ∈ NW := List.mem_of_getElem? (i := 3) rfl
theorem tn_48 : (Jvm.Cond.fieldLinkNest "StarRight$Sight" (55 : Nat) "StarRight$Stars" "worth" "[I" "StarRight") ∈ NW := List.mem_of_getElem? (i := 4) rfl
theorem tn_49 : (Jvm.Cond.fieldLinkNest "StarRight" (169 : Nat) "StarRight$Stars" "worth" "[I" "StarRight") ∈ NW := List.mem_of_getElem? (i := 5) rfl
theorem tn_51 : (Jvm.Cond.fieldLinkNest "StarRight" (111 : Nat) "StarRight$Stars" "count" "I" "StarRight") ∈ NW := List.mem_of_getElem? (i := 6) rfl
theorem tn_52 : (Jvm.Cond.fieldLinkNest "StarRight$Sight" (38 : Nat) "StarRight$Stars" "count" "I" "StarRight") ∈ NW := List.mem_of_getElem? (i := 7) rfl
theorem tn_64 : (Jvm.Cond.methodLinkNest "StarRight" (25 : Nat) ({ cls := "StarRight$Town", name := "<init>", desc := "()V" } : Jvm.MethodName) "StarRight") ∈ NW := List.mem_of_getElem? (i := 8) rfl
theorem tn_69 : (Jvm.Cond.fieldLinkNest "StarRight" (135 : Nat) "StarRight$Town" "cell" "[I" "StarRight") ∈ NW := List.mem_of_getElem? (i := 9) rfl
theorem tn_71 : (Jvm.Cond.fieldLinkNest "StarRight" (138 : Nat) "StarRight$Town" "height" "[I" "StarRight") ∈ NW := List.mem_of_getElem? (i := 10) rfl
theorem tn_73 : (Jvm.Cond.fieldLinkNest "StarRight" (141 : Nat) "StarRight$Town" "owner" "[I" "StarRight") ∈ NW := List.mem_of_getElem? (i := 11) rfl
theorem tn_75 : (Jvm.Cond.fieldLinkNest "StarRight" (179 : Nat) "StarRight$Town" "purses" "[I" "StarRight") ∈ NW := List.mem_of_getElem? (i := 12) rfl
theorem tn_77 : (Jvm.Cond.fieldLinkNest "StarRight" (108 : Nat) "StarRight$Town" "roofs" "I" "StarRight") ∈ NW := List.mem_of_getElem? (i := 13) rfl
theorem tn_79 : (Jvm.Cond.fieldLinkNest "StarRight" (120 : Nat) "StarRight$Town" "smoking" "I" "StarRight") ∈ NW := List.mem_of_getElem? (i := 14) rfl
theorem tn_81 : (Jvm.Cond.fieldLinkNest "StarRight" (114 : Nat) "StarRight$Town" "now" "I" "StarRight") ∈ NW := List.mem_of_getElem? (i := 15) rfl
theorem tn_82 : (Jvm.Cond.fieldLinkNest "StarRight$Sight" (70 : Nat) "StarRight$Town" "now" "I" "StarRight") ∈ NW := List.mem_of_getElem? (i := 16) rfl
theorem tn_84 : (Jvm.Cond.fieldLinkNest "StarRight" (117 : Nat) "StarRight$Town" "cloudy" "Z" "StarRight") ∈ NW := List.mem_of_getElem? (i := 17) rfl
theorem tn_85 : (Jvm.Cond.fieldLinkNest "StarRight$Sight" (66 : Nat) "StarRight$Town" "cloudy" "Z" "StarRight") ∈ NW := List.mem_of_getElem? (i := 18) rfl
theorem tn_105 : (Jvm.Cond.methodLinkNest "StarRight" (35 : Nat) ({ cls := "StarRight$Slot", name := "<init>", desc := "()V" } : Jvm.MethodName) "StarRight") ∈ NW := List.mem_of_getElem? (i := 19) rfl
theorem tn_110 : (Jvm.Cond.methodLinkNest "StarRight$Slot" (9 : Nat) ({ cls := "StarRight$Town", name := "<init>", desc := "()V" } : Jvm.MethodName) "StarRight") ∈ NW := List.mem_of_getElem? (i := 20) rfl
theorem tn_112 : (Jvm.Cond.fieldLinkNest "StarRight" (323 : Nat) "StarRight$Slot" "town" "LStarRight$Town;" "StarRight") ∈ NW := List.mem_of_getElem? (i := 21) rfl
theorem tn_113 : (Jvm.Cond.fieldLinkNest "StarRight" (94 : Nat) "StarRight$Slot" "kept" "Z" "StarRight") ∈ NW := List.mem_of_getElem? (i := 22) rfl
theorem tn_121 : (Jvm.Cond.methodLinkNest "StarRight" (45 : Nat) ({ cls := "StarRight$Sight", name := "<init>", desc := "()V" } : Jvm.MethodName) "StarRight") ∈ NW := List.mem_of_getElem? (i := 23) rfl
theorem tn_137 : (Jvm.Cond.methodLinkNest "StarRight" (52 : Nat) ({ cls := "StarRight$Acts", name := "<init>", desc := "()V" } : Jvm.MethodName) "StarRight") ∈ NW := List.mem_of_getElem? (i := 24) rfl
theorem tn_142 : (Jvm.Cond.fieldLinkNest "StarRight" (205 : Nat) "StarRight$Acts" "kind" "[I" "StarRight") ∈ NW := List.mem_of_getElem? (i := 25) rfl
theorem tn_144 : (Jvm.Cond.fieldLinkNest "StarRight" (202 : Nat) "StarRight$Acts" "roof" "[I" "StarRight") ∈ NW := List.mem_of_getElem? (i := 26) rfl
theorem tn_146 : (Jvm.Cond.fieldLinkNest "StarRight" (208 : Nat) "StarRight$Acts" "was" "[I" "StarRight") ∈ NW := List.mem_of_getElem? (i := 27) rfl
theorem tn_148 : (Jvm.Cond.fieldLinkNest "StarRight" (126 : Nat) "StarRight$Acts" "count" "I" "StarRight") ∈ NW := List.mem_of_getElem? (i := 28) rfl
theorem tn_160 : (Jvm.Cond.methodLinkNest "StarRight" (59 : Nat) ({ cls := "StarRight$Watch", name := "<init>", desc := "()V" } : Jvm.MethodName) "StarRight") ∈ NW := List.mem_of_getElem? (i := 29) rfl
theorem tn_168 : (Jvm.Cond.fieldLinkNest "StarRight" (127 : Nat) "StarRight$Watch" "count" "I" "StarRight") ∈ NW := List.mem_of_getElem? (i := 30) rfl
theorem tn_181 : (Jvm.Cond.methodLinkNest "StarRight" (66 : Nat) ({ cls := "StarRight$Contest", name := "<init>", desc := "()V" } : Jvm.MethodName) "StarRight") ∈ NW := List.mem_of_getElem? (i := 31) rfl
theorem nw_in : ∀ w ∈ NW, w ∈ tables_1 := by decide +kernel
theorem nw_kind : ∀ w ∈ NW, (∃ a i b n d h, w = .fieldLinkNest a i b n d h) ∨ ∃ a i x h, w = .methodLinkNest a i x h := by
  intro w hw
  simp only [NW, List.mem_cons, List.not_mem_nil, or_false] at hw
  rcases hw with rfl | rfl | rfl | rfl | rfl | rfl | rfl | rfl | rfl | rfl | rfl | rfl | rfl | rfl | rfl | rfl | rfl | rfl | rfl | rfl | rfl | rfl | rfl | rfl | rfl | rfl | rfl | rfl | rfl | rfl | rfl | rfl <;> first | exact Or.inl ⟨_, _, _, _, _, _, rfl⟩ | exact Or.inr ⟨_, _, _, _, rfl⟩
theorem twp_0 : Cond.selects "StarRight$Text" ⟨"StarRight$Text", "byteAt", "(I)I"⟩ ⟨"StarRight$Text", "byteAt", "(I)I"⟩ ∈ TB := tb_inP (by decide +kernel) rfl
theorem twp_1 : Cond.selects "StarRight$Text" ⟨"StarRight$Text", "hasDigit", "(III)Z"⟩ ⟨"StarRight$Text", "hasDigit", "(III)Z"⟩ ∈ TB := tb_inP (by decide +kernel) rfl
theorem twp_2 : Cond.selects "StarRight$Text" ⟨"StarRight$Text", "digitAt", "(I)I"⟩ ⟨"StarRight$Text", "digitAt", "(I)I"⟩ ∈ TB := tb_inP (by decide +kernel) rfl
theorem twp_3 : Cond.selects "StarRight$Text" ⟨"StarRight$Text", "faultInRoof", "(II)I"⟩ ⟨"StarRight$Text", "faultInRoof", "(II)I"⟩ ∈ TB := tb_inP (by decide +kernel) rfl
theorem twp_4 : Cond.selects "StarRight$Text" ⟨"StarRight$Text", "faultInStar", "(I)I"⟩ ⟨"StarRight$Text", "faultInStar", "(I)I"⟩ ∈ TB := tb_inP (by decide +kernel) rfl
theorem twp_5 : Cond.selects "StarRight$Town" ⟨"StarRight$Town", "isShaded", "(II)Z"⟩ ⟨"StarRight$Town", "isShaded", "(II)Z"⟩ ∈ TB := tb_inP (by decide +kernel) rfl
theorem twp_6 : Cond.selects "StarRight$Town" ⟨"StarRight$Town", "distance", "(II)I"⟩ ⟨"StarRight$Town", "distance", "(II)I"⟩ ∈ TB := tb_inP (by decide +kernel) rfl
theorem twp_7 : Cond.selects "StarRight" ⟨"StarRight", "starsHeldNow", "(I)I"⟩ ⟨"StarRight", "starsHeldNow", "(I)I"⟩ ∈ TB := tb_inP (by decide +kernel) rfl
theorem twp_8 : Cond.selects "StarRight" ⟨"StarRight", "surveyTown", "()V"⟩ ⟨"StarRight", "surveyTown", "()V"⟩ ∈ TB := tb_inP (by decide +kernel) rfl
theorem twp_9 : Cond.selects "StarRight$Sight" ⟨"StarRight$Sight", "holderByLaw", "(LStarRight$Town;II)I"⟩ ⟨"StarRight$Sight", "holderByLaw", "(LStarRight$Town;II)I"⟩ ∈ TB := tb_inP (by decide +kernel) rfl
theorem twp_10 : Cond.selects "StarRight$Sight" ⟨"StarRight$Sight", "payTo", "(II)I"⟩ ⟨"StarRight$Sight", "payTo", "(II)I"⟩ ∈ TB := tb_inP (by decide +kernel) rfl
theorem twp_11 : Cond.selects "StarRight$Acts" ⟨"StarRight$Acts", "forgetFirst", "()V"⟩ ⟨"StarRight$Acts", "forgetFirst", "()V"⟩ ∈ TB := tb_inP (by decide +kernel) rfl
theorem twp_12 : Cond.selects "StarRight" ⟨"StarRight", "payPurses", "(I)I"⟩ ⟨"StarRight", "payPurses", "(I)I"⟩ ∈ TB := tb_inP (by decide +kernel) rfl
theorem twp_13 : Cond.selects "StarRight" ⟨"StarRight", "gainOfFires", "(II)I"⟩ ⟨"StarRight", "gainOfFires", "(II)I"⟩ ∈ TB := tb_inP (by decide +kernel) rfl
theorem twp_14 : Cond.selects "StarRight" ⟨"StarRight", "gainInAllOrders", "(I)I"⟩ ⟨"StarRight", "gainInAllOrders", "(I)I"⟩ ∈ TB := tb_inP (by decide +kernel) rfl
theorem twp_15 : Cond.selects "StarRight" ⟨"StarRight", "rentsByLaw", "(III)I"⟩ ⟨"StarRight", "rentsByLaw", "(III)I"⟩ ∈ TB := tb_inP (by decide +kernel) rfl
theorem twp_16 : Cond.selects "StarRight" ⟨"StarRight", "tryHeights", "(IIII)V"⟩ ⟨"StarRight", "tryHeights", "(IIII)V"⟩ ∈ TB := tb_inP (by decide +kernel) rfl
theorem twp_17 : Cond.selects "StarRight$Contest" ⟨"StarRight$Contest", "isAtRest", "(I)Z"⟩ ⟨"StarRight$Contest", "isAtRest", "(I)Z"⟩ ∈ TB := tb_inP (by decide +kernel) rfl
theorem twp_18 : Cond.selects "StarRight$Watch" ⟨"StarRight$Watch", "fits", "(I)Z"⟩ ⟨"StarRight$Watch", "fits", "(I)Z"⟩ ∈ TB := tb_inP (by decide +kernel) rfl
theorem twp_19 : Cond.selects "StarRight" ⟨"StarRight", "slotOf", "(I)LStarRight$Slot;"⟩ ⟨"StarRight", "slotOf", "(I)LStarRight$Slot;"⟩ ∈ TB := tb_inP (by decide +kernel) rfl
theorem twp_20 : Cond.selects "StarRightModel" ⟨"StarRightModel", "readNight", "()I"⟩ ⟨"StarRightModel", "readNight", "()I"⟩ ∈ TB := tb_inP (by decide +kernel) rfl
theorem twp_21 : Cond.selects "StarRightModel" ⟨"StarRightModel", "figure", "(II)I"⟩ ⟨"StarRightModel", "figure", "(II)I"⟩ ∈ TB := tb_inP (by decide +kernel) rfl
theorem twp_22 : Cond.selects "StarRightModel" ⟨"StarRightModel", "readPart", "()Z"⟩ ⟨"StarRightModel", "readPart", "()Z"⟩ ∈ TB := tb_inP (by decide +kernel) rfl
theorem twp_23 : Cond.selects "StarRightModel" ⟨"StarRightModel", "readRoof", "()Z"⟩ ⟨"StarRightModel", "readRoof", "()Z"⟩ ∈ TB := tb_inP (by decide +kernel) rfl
theorem twp_24 : Cond.selects "StarRightModel" ⟨"StarRightModel", "isTaken", "(I)Z"⟩ ⟨"StarRightModel", "isTaken", "(I)Z"⟩ ∈ TB := tb_inP (by decide +kernel) rfl
theorem twp_25 : Cond.selects "StarRightModel" ⟨"StarRightModel", "readStar", "()Z"⟩ ⟨"StarRightModel", "readStar", "()Z"⟩ ∈ TB := tb_inP (by decide +kernel) rfl
theorem twp_26 : Cond.selects "StarRightModel" ⟨"StarRightModel", "all", "()I"⟩ ⟨"StarRightModel", "all", "()I"⟩ ∈ TB := tb_inP (by decide +kernel) rfl
theorem twp_27 : Cond.selects "StarRightModel" ⟨"StarRightModel", "isShaded", "([III)Z"⟩ ⟨"StarRightModel", "isShaded", "([III)Z"⟩ ∈ TB := tb_inP (by decide +kernel) rfl
theorem twp_28 : Cond.selects "StarRightModel" ⟨"StarRightModel", "noRoof", "(I)Z"⟩ ⟨"StarRightModel", "noRoof", "(I)Z"⟩ ∈ TB := tb_inP (by decide +kernel) rfl
theorem twp_29 : Cond.selects "StarRightModel" ⟨"StarRightModel", "doesSee", "([IIII)Z"⟩ ⟨"StarRightModel", "doesSee", "([IIII)Z"⟩ ∈ TB := tb_inP (by decide +kernel) rfl
theorem twp_30 : Cond.selects "StarRightModel" ⟨"StarRightModel", "holder", "([IIIII)I"⟩ ⟨"StarRightModel", "holder", "([IIIII)I"⟩ ∈ TB := tb_inP (by decide +kernel) rfl
theorem twp_31 : Cond.selects "StarRightModel" ⟨"StarRightModel", "over", "(II)I"⟩ ⟨"StarRightModel", "over", "(II)I"⟩ ∈ TB := tb_inP (by decide +kernel) rfl
theorem twp_32 : Cond.selects "StarRightModel" ⟨"StarRightModel", "noStar", "(I)Z"⟩ ⟨"StarRightModel", "noStar", "(I)Z"⟩ ∈ TB := tb_inP (by decide +kernel) rfl
theorem twp_33 : Cond.selects "StarRightModel" ⟨"StarRightModel", "pays", "(IIII)I"⟩ ⟨"StarRightModel", "pays", "(IIII)I"⟩ ∈ TB := tb_inP (by decide +kernel) rfl
theorem twp_34 : Cond.selects "StarRightModel" ⟨"StarRightModel", "note", "()V"⟩ ⟨"StarRightModel", "note", "()V"⟩ ∈ TB := tb_inP (by decide +kernel) rfl
theorem twp_35 : Cond.selects "StarRightModel" ⟨"StarRightModel", "rentsOf", "([IIIIII)I"⟩ ⟨"StarRightModel", "rentsOf", "([IIIIII)I"⟩ ∈ TB := tb_inP (by decide +kernel) rfl
theorem twp_36 : Cond.selects "StarRightModel" ⟨"StarRightModel", "findFires", "(I)V"⟩ ⟨"StarRightModel", "findFires", "(I)V"⟩ ∈ TB := tb_inP (by decide +kernel) rfl
theorem twp_37 : Cond.selects "StarRightModel" ⟨"StarRightModel", "begin", "()V"⟩ ⟨"StarRightModel", "begin", "()V"⟩ ∈ TB := tb_inP (by decide +kernel) rfl
theorem twp_38 : Cond.selects "StarRightModel" ⟨"StarRightModel", "doesRest", "(IIIII)Z"⟩ ⟨"StarRightModel", "doesRest", "(IIIII)Z"⟩ ∈ TB := tb_inP (by decide +kernel) rfl
theorem twp_39 : Cond.selects "StarRightModel" ⟨"StarRightModel", "layRest", "(IIIII)V"⟩ ⟨"StarRightModel", "layRest", "(IIIII)V"⟩ ∈ TB := tb_inP (by decide +kernel) rfl
theorem twp_40 : Cond.selects "StarRightModel" ⟨"StarRightModel", "find", "()V"⟩ ⟨"StarRightModel", "find", "()V"⟩ ∈ TB := tb_inP (by decide +kernel) rfl
theorem tu_0 : ∀ w ∈ u_ws RX0 TX0 4, w ∈ TB := by decide +kernel
theorem tu_1 : ∀ w ∈ u_ws RX1 TX1 2, w ∈ TB := by decide +kernel
theorem tu_2 : ∀ w ∈ u_ws RX2 TX2 3, w ∈ TB := by decide +kernel
theorem tu_3 : ∀ w ∈ u_ws RX3 TX3 2, w ∈ TB := by decide +kernel
theorem tu_4 : ∀ w ∈ u_ws RX4 TX4 4, w ∈ TB := by decide +kernel
theorem tu_5 : ∀ w ∈ u_ws RX5 TX5 2, w ∈ TB := by decide +kernel
theorem tu_6 : ∀ w ∈ u_ws RX6 TX6 8, w ∈ TB := by decide +kernel
theorem tu_7 : ∀ w ∈ u_ws RX7 TX7 4, w ∈ TB := by decide +kernel
theorem tu_8 : ∀ w ∈ u_ws RX8 TX8 13, w ∈ TB := by decide +kernel
theorem tu_9 : ∀ w ∈ u_ws RX9 TX9 37, w ∈ TB := by decide +kernel
end
section
/-! ===== the mini level: numbers are Int, the world is one memory of 63 cells ===== -/
abbrev MV : Type := Int ⊕ Int ⊕ Option Nat
abbrev vi (a : Int) : MV := .inl a
abbrev vl (a : Int) : MV := .inr (.inl a)
abbrev vr (k : Nat) : MV := .inr (.inr (some k))
abbrev vn : MV := .inr (.inr none)
abbrev Mem : Type := Nat → Int → Int
def RI (a : Int) : Prop := -2147483648 ≤ a ∧ a < 2147483648
def RL64 (a : Int) : Prop := -9223372036854775808 ≤ a ∧ a < 9223372036854775808
abbrev I3 (a : Int) : Int32 := Int32.ofInt a
abbrev I6 (a : Int) : Int64 := Int64.ofInt a
def wr (a : Int) : Int := (I3 a).toInt
def wl (a : Int) : Int := (I6 a).toInt
theorem I3_wr (a : Int) : I3 (wr a) = I3 a := Int32.ofInt_toInt _
theorem I6_wl (a : Int) : I6 (wl a) = I6 a := Int64.ofInt_toInt _
theorem I3_toInt (x : Int32) : I3 x.toInt = x := Int32.ofInt_toInt x
theorem I6_toInt (x : Int64) : I6 x.toInt = x := Int64.ofInt_toInt x
theorem RI_toInt (x : Int32) : RI x.toInt := ⟨Int32.le_toInt x, Int32.toInt_lt x⟩
theorem RL_toInt (x : Int64) : RL64 x.toInt := ⟨Int64.le_toInt x, Int64.toInt_lt x⟩
theorem RI_wr (a : Int) : RI (wr a) := RI_toInt _
theorem RL_wl (a : Int) : RL64 (wl a) := RL_toInt _
theorem wr_id {a : Int} (h : RI a) : wr a = a := by
  unfold wr
  exact Int32.toInt_ofInt_of_le h.1 h.2
theorem wl_id {a : Int} (h : RL64 a) : wl a = a := by
  unfold wl
  exact Int64.toInt_ofInt_of_le h.1 h.2
theorem toInt_I3 {a : Int} (h : RI a) : (I3 a).toInt = a := wr_id h
theorem toInt_I6 {a : Int} (h : RL64 a) : (I6 a).toInt = a := wl_id h
theorem I3_inj {a b : Int} (ha : RI a) (hb : RI b) : I3 a = I3 b ↔ a = b := by
  rw [← Int32.toInt_inj, toInt_I3 ha, toInt_I3 hb]
theorem I3_lt {a b : Int} (ha : RI a) (hb : RI b) : I3 a < I3 b ↔ a < b := by
  rw [Int32.lt_iff_toInt_lt, toInt_I3 ha, toInt_I3 hb]
theorem I3_le {a b : Int} (ha : RI a) (hb : RI b) : I3 a ≤ I3 b ↔ a ≤ b := by
  rw [Int32.le_iff_toInt_le, toInt_I3 ha, toInt_I3 hb]
theorem RI_0 : RI 0 := ⟨by decide, by decide⟩
theorem z_eq {a : Int} (h : RI a) : I3 a = 0 ↔ a = 0 := I3_inj (b := 0) h RI_0
theorem z_lt {a : Int} (h : RI a) : I3 a < 0 ↔ a < 0 := I3_lt (b := 0) h RI_0
theorem z_le {a : Int} (h : RI a) : I3 a ≤ 0 ↔ a ≤ 0 := I3_le (b := 0) h RI_0
theorem z_gt {a : Int} (h : RI a) : 0 < I3 a ↔ 0 < a := I3_lt (a := 0) RI_0 h
theorem z_ge {a : Int} (h : RI a) : 0 ≤ I3 a ↔ 0 ≤ a := I3_le (a := 0) RI_0 h
theorem I6_lt {a b : Int} (ha : RL64 a) (hb : RL64 b) : I6 a < I6 b ↔ a < b := by
  rw [Int64.lt_iff_toInt_lt, toInt_I6 ha, toInt_I6 hb]
theorem I6_inj {a b : Int} (ha : RL64 a) (hb : RL64 b) : I6 a = I6 b ↔ a = b := by
  rw [← Int64.toInt_inj, toInt_I6 ha, toInt_I6 hb]
theorem I3_clamp {a : Int} (h0 : 0 ≤ a) (h : RI a) : (I3 a).toNatClampNeg = a.toNat := by
  rw [← Int32.toNat_toInt, toInt_I3 h]
def band (a b : Int) : Int := (I3 a &&& I3 b).toInt
def bor (a b : Int) : Int := (I3 a ||| I3 b).toInt
def bxor (a b : Int) : Int := (I3 a ^^^ I3 b).toInt
def bshl (a b : Int) : Int := (I3 a <<< (I3 b &&& 31)).toInt
def bshr (a b : Int) : Int := (I3 a >>> (I3 b &&& 31)).toInt
def qdiv (a b : Int) : Int := (I3 a / I3 b).toInt
def qrem (a b : Int) : Int := (I3 a - I3 a / I3 b * I3 b).toInt
def land64 (a b : Int) : Int := (I6 a &&& I6 b).toInt
def lor64 (a b : Int) : Int := (I6 a ||| I6 b).toInt
def lshl64 (a b : Int) : Int := (I6 a <<< ((I3 b).toInt64 &&& 63)).toInt
def lshr64 (a b : Int) : Int := (I6 a >>> ((I3 b).toInt64 &&& 63)).toInt
def lushr64 (a b : Int) : Int := ((I6 a).toUInt64 >>> ((I3 b).toInt64.toUInt64 &&& Int64.toUInt64 63)).toInt64.toInt
def lrem64 (a b : Int) : Int := (I6 a - I6 a / I6 b * I6 b).toInt
def lcmp64 (a b : Int) : Int := if a < b then -1 else if a = b then 0 else 1
def tv (ad : Nat → Nat) : MV → Value
  | .inl a => .int (I3 a)
  | .inr (.inl a) => .long (I6 a)
  | .inr (.inr none) => .null
  | .inr (.inr (some k)) => .ref (ad k)
def okv : MV → Prop
  | .inl a => RI a
  | .inr (.inl a) => RL64 a
  | .inr (.inr _) => True
/-- a memory with one number changed -/
def up (h : Mem) (i : Nat) (k a : Int) : Mem := fun j x => if j = i ∧ x = k then a else h j x
theorem up_eq (h : Mem) (i : Nat) (k a : Int) : up h i k a i k = a := by simp [up]
theorem up_c (h : Mem) {i j : Nat} (k x a : Int) (n : j ≠ i) : up h i k a j x = h j x := by simp [up, n]
theorem up_k (h : Mem) (i j : Nat) {k x : Int} (a : Int) (n : x ≠ k) : up h i k a j x = h j x := by simp [up, n]
/-- part of a row copied -/
def cp (h : Mem) (i : Nat) (a : Int) (j : Nat) (b n : Int) : Mem := fun c x => if c = j ∧ b ≤ x ∧ x < b + n then h i (a + (x - b)) else h c x
/-- a field: a cell (.inl), or a number (0 int, 1 long, 2 boolean) -/
abbrev FK : Type := Nat ⊕ Nat
/-- a cell: an object (class, fields), or an array (length, of booleans) -/
abbrev KD : Type := (Nat × List FK) ⊕ (Nat × Bool)
def townK (t : Nat) : List FK := [.inl (t + 1), .inl (t + 2), .inl (t + 3), .inl (t + 4), .inr 0, .inr 0, .inr 0, .inr 2]
def kd : List KD := [
  .inl (8, [.inl 1, .inl 3, .inl 7, .inl 12, .inl 17, .inl 23, .inl 29, .inl 33, .inl 37, .inl 41, .inl 44, .inr 0, .inr 1]),
  .inl (5, [.inl 2, .inr 0]), .inr (48, false),
  .inl (4, [.inl 4, .inl 5, .inl 6, .inr 0]), .inr (4, false), .inr (4, false), .inr (4, false),
  .inl (6, townK 7), .inr (5, false), .inr (5, false), .inr (5, false), .inr (4, false),
  .inl (6, townK 12), .inr (5, false), .inr (5, false), .inr (5, false), .inr (4, false),
  .inl (3, [.inl 18, .inr 2]), .inl (6, townK 18), .inr (5, false), .inr (5, false), .inr (5, false), .inr (4, false),
  .inl (3, [.inl 24, .inr 2]), .inl (6, townK 24), .inr (5, false), .inr (5, false), .inr (5, false), .inr (4, false),
  .inl (2, [.inl 30, .inl 31, .inl 32]), .inr (5, false), .inr (5, false), .inr (10, false),
  .inl (0, [.inl 34, .inl 35, .inl 36, .inr 0]), .inr (14, false), .inr (14, false), .inr (14, false),
  .inl (7, [.inl 38, .inl 39, .inl 40, .inr 0]), .inr (6, false), .inr (6, false), .inr (6, true),
  .inl (1, [.inl 42, .inl 43]), .inr (100, false), .inr (100, false),
  .inr (32, false),
  .inl (9, [.inr 0, .inl 46, .inr 0, .inr 0, .inr 0, .inr 0, .inr 0, .inl 47, .inl 48, .inl 49, .inl 50, .inr 0, .inr 0, .inr 0, .inl 51, .inl 52, .inl 53, .inl 54, .inl 55, .inr 0, .inl 56, .inl 57, .inr 0, .inl 58, .inl 59, .inl 60, .inr 1, .inl 61, .inl 62, .inr 0, .inr 0, .inr 0, .inr 0, .inr 0, .inr 0, .inr 0, .inr 0]),
  .inr (48, false), .inr (5, false), .inr (4, false), .inr (4, false), .inr (4, false), .inr (20, false), .inr (12, false), .inr (17, false), .inr (17, false), .inr (238, false),
  .inr (34, false), .inr (2, true), .inr (6, false), .inr (6, false), .inr (6, true), .inr (32, false), .inr (40, true)]
def fv1 (ad : Nat → Nat) (a : Int) : FK → Value
  | .inl j => .ref (ad j)
  | .inr 1 => .long (I6 a)
  | .inr _ => .int (I3 a)
def fvs (ad : Nat → Nat) (g : Int → Int) : Nat → List FK → List Value
  | _, [] => []
  | k, f :: r => fv1 ad (g k) f :: fvs ad g (k + 1) r
def wce (cI cB : ClassId) (ad : Nat → Nat) (g : Int → Int) : KD → va_E
  | .inl (ci, fl) => .inr (ci, fvs ad g 0 fl)
  | .inr (n, b) => .inl (if b then cB else cI, n, .inl (fun j => I3 (g j)))
def wld (cI cB : ClassId) (ad : Nat → Nat) (h : Mem) : Nat → List KD → va_W
  | _, [] => []
  | i, q :: r => (ad i, wce cI cB ad (h i) q) :: wld cI cB ad h (i + 1) r
def wW (cI cB : ClassId) (ad : Nat → Nat) (h : Mem) : va_W := wld cI cB ad h 0 kd
theorem fvs_get {ad : Nat → Nat} {g : Int → Int} : ∀ {l : List FK} {k i : Nat} {f : FK}, l[i]? = some f → (fvs ad g k l)[i]? = some (fv1 ad (g ((k + i : Nat) : Int)) f)
  | [], k, i, f, h => by simp at h
  | q :: r, k, 0, f, h => by
    simp at h; subst h; simp [fvs]
  | q :: r, k, i + 1, f, h => by
    have h' : r[i]? = some f := by simpa using h
    have e := fvs_get (ad := ad) (g := g) (k := k + 1) h'
    show (fvs ad g (k + 1) r)[i]? = _
    rw [e, show k + 1 + i = k + (i + 1) by omega]
theorem fvs_len {ad : Nat → Nat} {g : Int → Int} : ∀ {l : List FK} {k : Nat}, (fvs ad g k l).length = l.length
  | [], _ => rfl
  | _ :: r, k => by show (fvs ad g (k + 1) r).length + 1 = r.length + 1; rw [fvs_len]
theorem fvs_cong {ad : Nat → Nat} {g g' : Int → Int} : ∀ {l : List FK} {k : Nat}, (∀ j : Nat, k ≤ j → g j = g' j) → fvs ad g k l = fvs ad g' k l
  | [], _, _ => rfl
  | f :: r, k, h => by
    show _ :: _ = _ :: _
    rw [h k (Nat.le_refl k), fvs_cong (fun j hj => h j (by omega))]
theorem fvs_set {ad : Nat → Nat} {g : Int → Int} {a : Int} : ∀ {l : List FK} {k i : Nat} {f : FK}, l[i]? = some f → (fvs ad g k l).set i (fv1 ad a f) = fvs ad (fun x => if x = ((k + i : Nat) : Int) then a else g x) k l
  | [], k, i, f, h => by simp at h
  | q :: r, k, 0, f, h => by
    simp at h; subst h
    show _ :: _ = _ :: _
    congr 1
    · simp
    · exact fvs_cong (fun j hj => by rw [if_neg (by omega)])
  | q :: r, k, i + 1, f, h => by
    have h' : r[i]? = some f := by simpa using h
    show _ :: _ = _ :: _
    congr 1
    · dsimp only; rw [if_neg (by omega)]
    · show (fvs ad g (k + 1) r).set i _ = _
      rw [fvs_set h']
      refine fvs_cong (fun j _ => ?_)
      rw [show k + 1 + i = k + (i + 1) by omega]
theorem wld_get {cI cB : ClassId} {ad : Nat → Nat} {h : Mem} : ∀ {l : List KD} {i j : Nat} {q : KD}, l[j]? = some q → (wld cI cB ad h i l)[j]? = some (ad (i + j), wce cI cB ad (h (i + j)) q)
  | [], i, j, q, e => by simp at e
  | x :: r, i, 0, q, e => by
    simp at e; subst e; simp [wld]
  | x :: r, i, j + 1, q, e => by
    have e' : r[j]? = some q := by simpa using e
    show (wld cI cB ad h (i + 1) r)[j]? = _
    rw [wld_get e', show i + 1 + j = i + (j + 1) by omega]
theorem wld_cong {cI cB : ClassId} {ad : Nat → Nat} {h h' : Mem} : ∀ {l : List KD} {i : Nat}, (∀ j : Nat, i ≤ j → h j = h' j) → wld cI cB ad h i l = wld cI cB ad h' i l
  | [], _, _ => rfl
  | x :: r, i, e => by
    show _ :: _ = _ :: _
    rw [e i (Nat.le_refl i), wld_cong (fun j hj => e j (by omega))]
theorem wld_set {cI cB : ClassId} {ad : Nat → Nat} {h : Mem} {g : Int → Int} : ∀ {l : List KD} {i j : Nat} {q : KD}, l[j]? = some q → (wld cI cB ad h i l).set j (ad (i + j), wce cI cB ad g q) = wld cI cB ad (fun c => if c = i + j then g else h c) i l
  | [], i, j, q, e => by simp at e
  | x :: r, i, 0, q, e => by
    simp at e; subst e
    show _ :: _ = _ :: _
    congr 1
    · simp
    · exact wld_cong (fun j hj => by rw [if_neg (by omega)])
  | x :: r, i, j + 1, q, e => by
    have e' : r[j]? = some q := by simpa using e
    show _ :: _ = _ :: _
    congr 1
    · dsimp only; rw [if_neg (by omega)]
    · show (wld cI cB ad h (i + 1) r).set j _ = _
      rw [show i + (j + 1) = i + 1 + j by omega, wld_set e']
theorem wW_get {cI cB : ClassId} {ad : Nat → Nat} {h : Mem} {i : Nat} {q : KD} (e : kd[i]? = some q) : (wW cI cB ad h)[i]? = some (ad i, wce cI cB ad (h i) q) := by
  have := wld_get (cI := cI) (cB := cB) (ad := ad) (h := h) (i := 0) e
  rw [Nat.zero_add] at this
  exact this
theorem wW_set {cI cB : ClassId} {ad : Nat → Nat} {h : Mem} {i : Nat} {q : KD} {g : Int → Int} (e : kd[i]? = some q) : (wW cI cB ad h).set i (ad i, wce cI cB ad g q) = wW cI cB ad (fun c => if c = i then g else h c) := by
  have := wld_set (cI := cI) (cB := cB) (ad := ad) (h := h) (g := g) (i := 0) e
  simp only [Nat.zero_add] at this
  exact this
theorem up_fun (h : Mem) (i : Nat) (k a : Int) : up h i k a = fun c => if c = i then (fun x => if x = k then a else h i x) else h c := by
  funext c x
  by_cases hc : c = i
  · subst hc; simp [up]
  · simp [up, hc]
/-- what the numbers of a memory are by their kind -/
def tyok : Nat → Int → Prop
  | 1, a => RL64 a
  | 2, a => a = 0 ∨ a = 1
  | _, a => RI a
def fkok (a : Int) : FK → Prop
  | .inl _ => True
  | .inr t => tyok t a
def kdR (g : Int → Int) : KD → Prop
  | .inl (_, fl) => ∀ (k : Nat) (f : FK), fl[k]? = some f → fkok (g k) f
  | .inr (n, b) => ∀ k : Int, 0 ≤ k → k < n → if b then g k = 0 ∨ g k = 1 else RI (g k)
def RM (h : Mem) : Prop := ∀ (i : Nat) (q : KD), kd[i]? = some q → kdR (h i) q
theorem RI_01 {a : Int} (h : a = 0 ∨ a = 1) : RI a := by rcases h with rfl | rfl <;> exact ⟨by decide, by decide⟩
theorem RM_up {h : Mem} {i : Nat} {k a : Int} (hM : RM h) (hk : ∀ q, kd[i]? = some q → kdR (fun x => if x = k then a else h i x) q) : RM (up h i k a) := by
  intro j q hq
  rw [up_fun]
  by_cases hj : j = i
  · subst hj
    dsimp only
    rw [if_pos rfl]
    exact hk q hq
  · dsimp only
    rw [if_neg hj]
    exact hM j q hq
theorem RM_upF {h : Mem} {i : Nat} {k : Nat} {a : Int} {ci t : Nat} {fl : List FK} (hM : RM h) (hi : kd[i]? = some (.inl (ci, fl))) (hk : fl[k]? = some (.inr t)) (ha : tyok t a) : RM (up h i k a) := by
  refine RM_up hM fun q hq => ?_
  rw [hi] at hq
  cases hq
  intro j f hf
  have h0 := hM i _ hi j f hf
  by_cases hj : j = k
  · subst hj
    rw [hk] at hf
    cases hf
    simp only [if_pos]
    exact ha
  · have hne : ¬ ((j : Int) = (k : Int)) := by omega
    simp only [if_neg hne]
    exact h0
theorem RM_upA {h : Mem} {i : Nat} {k a : Int} {n : Nat} {b : Bool} (hM : RM h) (hi : kd[i]? = some (.inr (n, b))) (ha : if b then a = 0 ∨ a = 1 else RI a) : RM (up h i k a) := by
  refine RM_up hM fun q hq => ?_
  rw [hi] at hq
  cases hq
  intro j h1 h2
  have h0 := hM i _ hi j h1 h2
  by_cases hj : j = k
  · simp only [if_pos hj]; exact ha
  · simp only [if_neg hj]; exact h0
/-- a method as the mini level names it: its name, its code, its locals, what it answers, its room -/
abbrev MI : Type := MethodName × ByteArray × Nat × Option FieldType × Room
abbrev mY (M : MI) : MethodName := M.1
abbrev mC (M : MI) : ByteArray := M.2.1
abbrev mL (M : MI) : Nat := M.2.2.1
abbrev mT (M : MI) : Option FieldType := M.2.2.2.1
abbrev mR (M : MI) : Room := M.2.2.2.2
def ordF : Nat → Value := fun j => .int (match j with | 0 => 1 | 1 => 1 | 2 => 2 | 3 => 6 | 4 => 24 | _ => 120)
/-- what the machine's own tables say of one method's run -/
def Ctx (M : MI) (SX : Option (Nat × (Nat → Int32))) (p : Program) (s : State) (m : MethodId) (args : Array Value) (meth : Method) (c : Code) (dC : Nat → ClassId) (dI : Nat → Nat → Nat) (cI cB : ClassId) (ad : Nat → Nat) (A : Nat → Prop) (cells slots : Nat) : Prop :=
  p.tables.exec = Jvm.exec ∧ c.code = mC M ∧ c.maxLocals = mL M ∧ s.vm.findClass (mY M).cls = some m.cls ∧ (∀ w ∈ TB, w.before args s = true) ∧
  va_K (dC, dI) vwCl [(cI, .int), (cB, .boolean)] s ∧ va_Z "StarRight" "ORDERS" "[I" (.ref (ad 63)) A s s.heap ∧ va_T .int (ad 63) 6 ordF A s s.heap ∧
  (∀ q : Nat, s.heap.size ≤ q → A q) ∧ (cells ≤ (mR M).cells ∧ slots ≤ (mR M).slots) ∧ (∀ w ∈ NW, va_Nw w s) ∧
  (∀ L xs, SX = some (L, xs) → va_X (ad 64) L xs s s.heap ∧ ad 64 < s.heap.size ∧ ¬ A (ad 64))
/-- the world: the memory h stands in the heap -/
def Wd (s : State) (dC : Nat → ClassId) (dI : Nat → Nat → Nat) (cI cB : ClassId) (ad : Nat → Nat) (A : Nat → Prop) (h : Mem) (H : Heap) (locs : List Loc) : Prop :=
  va_P (dC, dI) vwCl (wW cI cB ad h) H ∧ va_D A (wW cI cB ad h) ∧ va_S A s.heap H locs ∧ RM h
/-- what a method answers fits its type -/
def okr (t : Option FieldType) (r : Option MV) : Prop := match t, r with
  | none, none => True
  | some .int, some (.inl a) => RI a
  | some .boolean, some (.inl a) => a = 0 ∨ a = 1
  | some .long, some (.inr (.inl a)) => RL64 a
  | some (.object _), some (.inr (.inr _)) => True
  | _, _ => False
def retI : Option MV → Instr
  | none => .return_
  | some (.inl _) => .ireturn
  | some (.inr (.inl _)) => .lreturn
  | some (.inr (.inr _)) => .areturn
/-- how the run ends: at a return with an answer and a memory that Q allows, the goal is reached -/
def Fn (M : MI) (Q : Option MV → Mem → Prop) (p : Program) (l : Launch) (e : Env) (s : State) (m : MethodId) (args : Array Value) (below : List Frame) (meth : Method) (c : Code) (dC : Nat → ClassId) (dI : Nat → Nat → Nat) (cI cB : ClassId) (ad : Nat → Nat) (A : Nat → Prop) (cells slots : Nat) (Qf : State → Prop) : Prop :=
  ∀ (r : Option MV) (h : Mem) (H : Heap) (locs : List Loc) (pc : Nat) (ls : Array Slot), Q r h → Wd s dC dI cI cB ad A h H locs → okr (mT M) r → decode (mC M) pc = .ok (retI r, 1) →
    W p l e (mR M) s m args below meth c H locs cells slots Qf (F0 m pc ls (r.toList.map (tv ad)))
def Lr (ad : Nat → Nat) (nL : Nat) (ls : List (Option MV)) (la : Array Slot) : Prop :=
  la.size = nL ∧ lv_wf la ∧ ∀ (i : Nat) (v : MV), ls[i]? = some (some v) → la[i]? = some (.val (tv ad v)) ∧ okv v
def E (M : MI) (SX : Option (Nat × (Nat → Int32))) (Q : Option MV → Mem → Prop) (pc : Nat) (ls : List (Option MV)) (st : List MV) (h : Mem) : Prop :=
  ∀ (p : Program) (l : Launch) (e : Env) (s : State) (m : MethodId) (args : Array Value) (below : List Frame) (meth : Method) (c : Code) (dC : Nat → ClassId) (dI : Nat → Nat → Nat) (cI cB : ClassId) (ad : Nat → Nat) (A : Nat → Prop) (cells slots : Nat) (Qf : State → Prop),
    Ctx M SX p s m args meth c dC dI cI cB ad A cells slots → Fn M Q p l e s m args below meth c dC dI cI cB ad A cells slots Qf →
    ∀ (H : Heap) (locs : List Loc) (la : Array Slot), Wd s dC dI cI cB ad A h H locs → Lr ad (mL M) ls la → (∀ v ∈ st, okv v) →
      W p l e (mR M) s m args below meth c H locs cells slots Qf (F0 m pc la (st.map (tv ad)))
section ER
variable {M : MI} {SX : Option (Nat × (Nat → Int32))} {Q : Option MV → Mem → Prop} {pc : Nat} {ls : List (Option MV)} {st : List MV} {h : Mem}
theorem ok_tail {v : MV} (ho : ∀ x ∈ v :: st, okv x) : ∀ x ∈ st, okv x := fun x hx => ho x (List.mem_cons_of_mem _ hx)
theorem ok_head {v : MV} (ho : ∀ x ∈ v :: st, okv x) : okv v := ho v List.mem_cons_self
theorem ok_cons {v : MV} (hv : okv v) (ho : ∀ x ∈ st, okv x) : ∀ x ∈ v :: st, okv x := fun x hx => by
  rcases List.mem_cons.mp hx with rfl | hx
  · exact hv
  · exact ho x hx
theorem e_iconst {n : Int} (hd : decode (mC M) pc = .ok (.iconst n, 1)) (hn : RI n) (k : E M SX Q (pc + 1) ls (vi n :: st) h) : E M SX Q pc ls st h := by
  intro p l e s m args below meth c dC dI cI cB ad A cells slots Qf C F H locs la w hl ho
  exact lv_iconst C.1 C.2.1 hd rfl (k p l e s m args below meth c dC dI cI cB ad A cells slots Qf C F H locs la w hl (ok_cons hn ho))
theorem e_bipush {n : Int} (hd : decode (mC M) pc = .ok (.bipush n, 2)) (hn : (Int8.ofInt n).toInt32 = I3 n ∧ RI n) (k : E M SX Q (pc + 2) ls (vi n :: st) h) : E M SX Q pc ls st h := by
  intro p l e s m args below meth c dC dI cI cB ad A cells slots Qf C F H locs la w hl ho
  exact lv_bipush C.1 C.2.1 hd hn.1 (k p l e s m args below meth c dC dI cI cB ad A cells slots Qf C F H locs la w hl (ok_cons hn.2 ho))
theorem e_sipush {n : Int} (hd : decode (mC M) pc = .ok (.sipush n, 3)) (hn : (Int16.ofInt n).toInt32 = I3 n ∧ RI n) (k : E M SX Q (pc + 3) ls (vi n :: st) h) : E M SX Q pc ls st h := by
  intro p l e s m args below meth c dC dI cI cB ad A cells slots Qf C F H locs la w hl ho
  exact lv_sipush C.1 C.2.1 hd hn.1 (k p l e s m args below meth c dC dI cI cB ad A cells slots Qf C F H locs la w hl (ok_cons hn.2 ho))
theorem e_lconst {n : Fin 2} {a : Int} (hd : decode (mC M) pc = .ok (.lconst n, 1)) (hn : Int64.ofNat (n : Nat) = I6 a ∧ RL64 a) (k : E M SX Q (pc + 1) ls (vl a :: st) h) : E M SX Q pc ls st h := by
  intro p l e s m args below meth c dC dI cI cB ad A cells slots Qf C F H locs la w hl ho
  exact lv_lconst C.1 C.2.1 hd hn.1 (k p l e s m args below meth c dC dI cI cB ad A cells slots Qf C F H locs la w hl (ok_cons hn.2 ho))
end ER
end
section
section ER2
variable {M : MI} {SX : Option (Nat × (Nat → Int32))} {Q : Option MV → Mem → Prop} {pc : Nat} {ls : List (Option MV)} {st : List MV} {h : Mem}
theorem e_iadd {a b : Int} (hd : decode (mC M) pc = .ok (.iadd, 1)) (k : E M SX Q (pc + 1) ls (vi (wr (a + b)) :: st) h) : E M SX Q pc ls (vi b :: vi a :: st) h := by
  intro p l e s m args below meth c dC dI cI cB ad A cells slots Qf C F H locs la w hl ho
  have e1 : I3 (wr (a + b)) = I3 a + I3 b := (I3_wr _).trans (Int32.ofInt_add a b)
  have k' := k p l e s m args below meth c dC dI cI cB ad A cells slots Qf C F H locs la w hl (ok_cons (show RI _ from RI_wr _) (ok_tail (ok_tail ho)))
  refine lv_iadd C.1 C.2.1 hd ?_
  rw [← e1]
  exact k'
theorem e_isub {a b : Int} (hd : decode (mC M) pc = .ok (.isub, 1)) (k : E M SX Q (pc + 1) ls (vi (wr (a - b)) :: st) h) : E M SX Q pc ls (vi b :: vi a :: st) h := by
  intro p l e s m args below meth c dC dI cI cB ad A cells slots Qf C F H locs la w hl ho
  have e1 : I3 (wr (a - b)) = I3 a - I3 b := (I3_wr _).trans (Int32.ofInt_sub a b)
  have k' := k p l e s m args below meth c dC dI cI cB ad A cells slots Qf C F H locs la w hl (ok_cons (show RI _ from RI_wr _) (ok_tail (ok_tail ho)))
  refine lv_isub C.1 C.2.1 hd ?_
  rw [← e1]
  exact k'
theorem e_imul {a b : Int} (hd : decode (mC M) pc = .ok (.imul, 1)) (k : E M SX Q (pc + 1) ls (vi (wr (a * b)) :: st) h) : E M SX Q pc ls (vi b :: vi a :: st) h := by
  intro p l e s m args below meth c dC dI cI cB ad A cells slots Qf C F H locs la w hl ho
  have e1 : I3 (wr (a * b)) = I3 a * I3 b := (I3_wr _).trans (Int32.ofInt_mul a b)
  have k' := k p l e s m args below meth c dC dI cI cB ad A cells slots Qf C F H locs la w hl (ok_cons (show RI _ from RI_wr _) (ok_tail (ok_tail ho)))
  refine lv_imul C.1 C.2.1 hd ?_
  rw [← e1]
  exact k'
theorem e_iand {a b : Int} (hd : decode (mC M) pc = .ok (.iand, 1)) (k : E M SX Q (pc + 1) ls (vi (band a b) :: st) h) : E M SX Q pc ls (vi b :: vi a :: st) h := by
  intro p l e s m args below meth c dC dI cI cB ad A cells slots Qf C F H locs la w hl ho
  have e1 : I3 (band a b) = I3 a &&& I3 b := I3_toInt _
  have k' := k p l e s m args below meth c dC dI cI cB ad A cells slots Qf C F H locs la w hl (ok_cons (show RI _ from RI_toInt _) (ok_tail (ok_tail ho)))
  refine lv_iand C.1 C.2.1 hd ?_
  rw [← e1]
  exact k'
theorem e_ior {a b : Int} (hd : decode (mC M) pc = .ok (.ior, 1)) (k : E M SX Q (pc + 1) ls (vi (bor a b) :: st) h) : E M SX Q pc ls (vi b :: vi a :: st) h := by
  intro p l e s m args below meth c dC dI cI cB ad A cells slots Qf C F H locs la w hl ho
  have e1 : I3 (bor a b) = I3 a ||| I3 b := I3_toInt _
  have k' := k p l e s m args below meth c dC dI cI cB ad A cells slots Qf C F H locs la w hl (ok_cons (show RI _ from RI_toInt _) (ok_tail (ok_tail ho)))
  refine lv_ior C.1 C.2.1 hd ?_
  rw [← e1]
  exact k'
theorem e_ixor {a b : Int} (hd : decode (mC M) pc = .ok (.ixor, 1)) (k : E M SX Q (pc + 1) ls (vi (bxor a b) :: st) h) : E M SX Q pc ls (vi b :: vi a :: st) h := by
  intro p l e s m args below meth c dC dI cI cB ad A cells slots Qf C F H locs la w hl ho
  have e1 : I3 (bxor a b) = I3 a ^^^ I3 b := I3_toInt _
  have k' := k p l e s m args below meth c dC dI cI cB ad A cells slots Qf C F H locs la w hl (ok_cons (show RI _ from RI_toInt _) (ok_tail (ok_tail ho)))
  refine lv_ixor C.1 C.2.1 hd ?_
  rw [← e1]
  exact k'
theorem e_ishl {a b : Int} (hd : decode (mC M) pc = .ok (.ishl, 1)) (k : E M SX Q (pc + 1) ls (vi (bshl a b) :: st) h) : E M SX Q pc ls (vi b :: vi a :: st) h := by
  intro p l e s m args below meth c dC dI cI cB ad A cells slots Qf C F H locs la w hl ho
  have e1 : I3 (bshl a b) = I3 a <<< (I3 b &&& 31) := I3_toInt _
  have k' := k p l e s m args below meth c dC dI cI cB ad A cells slots Qf C F H locs la w hl (ok_cons (show RI _ from RI_toInt _) (ok_tail (ok_tail ho)))
  refine lv_ishl C.1 C.2.1 hd ?_
  rw [← e1]
  exact k'
theorem e_ishr {a b : Int} (hd : decode (mC M) pc = .ok (.ishr, 1)) (k : E M SX Q (pc + 1) ls (vi (bshr a b) :: st) h) : E M SX Q pc ls (vi b :: vi a :: st) h := by
  intro p l e s m args below meth c dC dI cI cB ad A cells slots Qf C F H locs la w hl ho
  have e1 : I3 (bshr a b) = I3 a >>> (I3 b &&& 31) := I3_toInt _
  have k' := k p l e s m args below meth c dC dI cI cB ad A cells slots Qf C F H locs la w hl (ok_cons (show RI _ from RI_toInt _) (ok_tail (ok_tail ho)))
  refine lv_ishr C.1 C.2.1 hd ?_
  rw [← e1]
  exact k'
theorem e_idiv {a b : Int} (hd : decode (mC M) pc = .ok (.idiv, 1)) (hne : ¬ b = 0) (k : E M SX Q (pc + 1) ls (vi (qdiv a b) :: st) h) : E M SX Q pc ls (vi b :: vi a :: st) h := by
  intro p l e s m args below meth c dC dI cI cB ad A cells slots Qf C F H locs la w hl ho
  have e1 : I3 (qdiv a b) = I3 a / I3 b := I3_toInt _
  have k' := k p l e s m args below meth c dC dI cI cB ad A cells slots Qf C F H locs la w hl (ok_cons (show RI _ from RI_toInt _) (ok_tail (ok_tail ho)))
  have hb0 : ¬ I3 b = 0 := fun q => hne ((I3_inj (ok_head ho) ⟨by decide, by decide⟩).mp q)
  refine lv_idiv C.1 C.2.1 hd hb0 ?_
  rw [← e1]
  exact k'
theorem e_irem {a b : Int} (hd : decode (mC M) pc = .ok (.irem, 1)) (hne : ¬ b = 0) (k : E M SX Q (pc + 1) ls (vi (qrem a b) :: st) h) : E M SX Q pc ls (vi b :: vi a :: st) h := by
  intro p l e s m args below meth c dC dI cI cB ad A cells slots Qf C F H locs la w hl ho
  have e1 : I3 (qrem a b) = I3 a - I3 a / I3 b * I3 b := I3_toInt _
  have k' := k p l e s m args below meth c dC dI cI cB ad A cells slots Qf C F H locs la w hl (ok_cons (show RI _ from RI_toInt _) (ok_tail (ok_tail ho)))
  have hb0 : ¬ I3 b = 0 := fun q => hne ((I3_inj (ok_head ho) ⟨by decide, by decide⟩).mp q)
  refine lv_irem C.1 C.2.1 hd hb0 ?_
  rw [← e1]
  exact k'
theorem e_ineg {a : Int} (hd : decode (mC M) pc = .ok (.ineg, 1)) (k : E M SX Q (pc + 1) ls (vi (wr (-a)) :: st) h) : E M SX Q pc ls (vi a :: st) h := by
  intro p l e s m args below meth c dC dI cI cB ad A cells slots Qf C F H locs la w hl ho
  have e1 : I3 (wr (-a)) = -I3 a := (I3_wr _).trans (Int32.ofInt_neg a)
  have k' := k p l e s m args below meth c dC dI cI cB ad A cells slots Qf C F H locs la w hl (ok_cons (show RI _ from RI_wr _) (ok_tail ho))
  refine lv_ineg C.1 C.2.1 hd ?_
  rw [← e1]
  exact k'
theorem e_ladd {a b : Int} (hd : decode (mC M) pc = .ok (.ladd, 1)) (k : E M SX Q (pc + 1) ls (vl (wl (a + b)) :: st) h) : E M SX Q pc ls (vl b :: vl a :: st) h := by
  intro p l e s m args below meth c dC dI cI cB ad A cells slots Qf C F H locs la w hl ho
  have e1 : I6 (wl (a + b)) = I6 a + I6 b := (I6_wl _).trans (Int64.ofInt_add a b)
  have k' := k p l e s m args below meth c dC dI cI cB ad A cells slots Qf C F H locs la w hl (ok_cons (show RL64 _ from RL_wl _) (ok_tail (ok_tail ho)))
  refine lv_ladd C.1 C.2.1 hd ?_
  rw [← e1]
  exact k'
theorem e_lsub {a b : Int} (hd : decode (mC M) pc = .ok (.lsub, 1)) (k : E M SX Q (pc + 1) ls (vl (wl (a - b)) :: st) h) : E M SX Q pc ls (vl b :: vl a :: st) h := by
  intro p l e s m args below meth c dC dI cI cB ad A cells slots Qf C F H locs la w hl ho
  have e1 : I6 (wl (a - b)) = I6 a - I6 b := (I6_wl _).trans (Int64.ofInt_sub a b)
  have k' := k p l e s m args below meth c dC dI cI cB ad A cells slots Qf C F H locs la w hl (ok_cons (show RL64 _ from RL_wl _) (ok_tail (ok_tail ho)))
  refine lv_lsub C.1 C.2.1 hd ?_
  rw [← e1]
  exact k'
theorem e_lmul {a b : Int} (hd : decode (mC M) pc = .ok (.lmul, 1)) (k : E M SX Q (pc + 1) ls (vl (wl (a * b)) :: st) h) : E M SX Q pc ls (vl b :: vl a :: st) h := by
  intro p l e s m args below meth c dC dI cI cB ad A cells slots Qf C F H locs la w hl ho
  have e1 : I6 (wl (a * b)) = I6 a * I6 b := (I6_wl _).trans (Int64.ofInt_mul a b)
  have k' := k p l e s m args below meth c dC dI cI cB ad A cells slots Qf C F H locs la w hl (ok_cons (show RL64 _ from RL_wl _) (ok_tail (ok_tail ho)))
  refine lv_lmul C.1 C.2.1 hd ?_
  rw [← e1]
  exact k'
theorem e_land {a b : Int} (hd : decode (mC M) pc = .ok (.land, 1)) (k : E M SX Q (pc + 1) ls (vl (land64 a b) :: st) h) : E M SX Q pc ls (vl b :: vl a :: st) h := by
  intro p l e s m args below meth c dC dI cI cB ad A cells slots Qf C F H locs la w hl ho
  have e1 : I6 (land64 a b) = I6 a &&& I6 b := I6_toInt _
  have k' := k p l e s m args below meth c dC dI cI cB ad A cells slots Qf C F H locs la w hl (ok_cons (show RL64 _ from RL_toInt _) (ok_tail (ok_tail ho)))
  refine lv_land C.1 C.2.1 hd ?_
  rw [← e1]
  exact k'
theorem e_lor {a b : Int} (hd : decode (mC M) pc = .ok (.lor, 1)) (k : E M SX Q (pc + 1) ls (vl (lor64 a b) :: st) h) : E M SX Q pc ls (vl b :: vl a :: st) h := by
  intro p l e s m args below meth c dC dI cI cB ad A cells slots Qf C F H locs la w hl ho
  have e1 : I6 (lor64 a b) = I6 a ||| I6 b := I6_toInt _
  have k' := k p l e s m args below meth c dC dI cI cB ad A cells slots Qf C F H locs la w hl (ok_cons (show RL64 _ from RL_toInt _) (ok_tail (ok_tail ho)))
  refine lv_lor C.1 C.2.1 hd ?_
  rw [← e1]
  exact k'
theorem e_lrem {a b : Int} (hd : decode (mC M) pc = .ok (.lrem, 1)) (hne : ¬ b = 0) (k : E M SX Q (pc + 1) ls (vl (lrem64 a b) :: st) h) : E M SX Q pc ls (vl b :: vl a :: st) h := by
  intro p l e s m args below meth c dC dI cI cB ad A cells slots Qf C F H locs la w hl ho
  have e1 : I6 (lrem64 a b) = I6 a - I6 a / I6 b * I6 b := I6_toInt _
  have k' := k p l e s m args below meth c dC dI cI cB ad A cells slots Qf C F H locs la w hl (ok_cons (show RL64 _ from RL_toInt _) (ok_tail (ok_tail ho)))
  have hb0 : ¬ I6 b = 0 := fun q => hne ((I6_inj (ok_head ho) ⟨by decide, by decide⟩).mp q)
  refine lv_lrem C.1 C.2.1 hd hb0 ?_
  rw [← e1]
  exact k'
theorem e_lshl {a b : Int} (hd : decode (mC M) pc = .ok (.lshl, 1)) (k : E M SX Q (pc + 1) ls (vl (lshl64 a b) :: st) h) : E M SX Q pc ls (vi b :: vl a :: st) h := by
  intro p l e s m args below meth c dC dI cI cB ad A cells slots Qf C F H locs la w hl ho
  have k' := k p l e s m args below meth c dC dI cI cB ad A cells slots Qf C F H locs la w hl (ok_cons (show RL64 _ from RL_toInt _) (ok_tail (ok_tail ho)))
  exact lv_lshl C.1 C.2.1 hd (I6_toInt _).symm k'
theorem e_lshr {a b : Int} (hd : decode (mC M) pc = .ok (.lshr, 1)) (k : E M SX Q (pc + 1) ls (vl (lshr64 a b) :: st) h) : E M SX Q pc ls (vi b :: vl a :: st) h := by
  intro p l e s m args below meth c dC dI cI cB ad A cells slots Qf C F H locs la w hl ho
  have k' := k p l e s m args below meth c dC dI cI cB ad A cells slots Qf C F H locs la w hl (ok_cons (show RL64 _ from RL_toInt _) (ok_tail (ok_tail ho)))
  exact lv_lshr C.1 C.2.1 hd (I6_toInt _).symm k'
theorem e_lushr {a b : Int} (hd : decode (mC M) pc = .ok (.lushr, 1)) (k : E M SX Q (pc + 1) ls (vl (lushr64 a b) :: st) h) : E M SX Q pc ls (vi b :: vl a :: st) h := by
  intro p l e s m args below meth c dC dI cI cB ad A cells slots Qf C F H locs la w hl ho
  have k' := k p l e s m args below meth c dC dI cI cB ad A cells slots Qf C F H locs la w hl (ok_cons (show RL64 _ from RL_toInt _) (ok_tail (ok_tail ho)))
  exact lv_lushr C.1 C.2.1 hd (I6_toInt _).symm k'
theorem e_i2l {a : Int} (hd : decode (mC M) pc = .ok (.i2l, 1)) (k : E M SX Q (pc + 1) ls (vl a :: st) h) : E M SX Q pc ls (vi a :: st) h := by
  intro p l e s m args below meth c dC dI cI cB ad A cells slots Qf C F H locs la w hl ho
  have hr : RI a := ok_head ho
  have k' := k p l e s m args below meth c dC dI cI cB ad A cells slots Qf C F H locs la w hl (ok_cons (show RL64 a from ⟨by have := hr.1; omega, by have := hr.2; omega⟩) (ok_tail ho))
  refine lv_i2l C.1 C.2.1 hd (v := I6 a) ?_ k'
  apply Int64.toInt_inj.mp
  rw [Int32.toInt_toInt64, toInt_I3 hr, toInt_I6 ⟨by have := hr.1; omega, by have := hr.2; omega⟩]
theorem e_l2i {a : Int} (hd : decode (mC M) pc = .ok (.l2i, 1)) (k : E M SX Q (pc + 1) ls (vi (I6 a).toInt32.toInt :: st) h) : E M SX Q pc ls (vl a :: st) h := by
  intro p l e s m args below meth c dC dI cI cB ad A cells slots Qf C F H locs la w hl ho
  have k2 := k p l e s m args below meth c dC dI cI cB ad A cells slots Qf C F H locs la w hl (ok_cons (show RI _ from RI_toInt _) (ok_tail ho))
  exact lv_l2i C.1 C.2.1 hd (I3_toInt _).symm k2
def biushr (a b : Int) : Int := ((I3 a).toUInt32 >>> ((I3 b).toUInt32 &&& Int32.toUInt32 31)).toInt32.toInt
theorem e_iushr {a b : Int} (hd : decode (mC M) pc = .ok (.iushr, 1)) (k : E M SX Q (pc + 1) ls (vi (biushr a b) :: st) h) : E M SX Q pc ls (vi b :: vi a :: st) h := by
  intro p l e s m args below meth c dC dI cI cB ad A cells slots Qf C F H locs la w hl ho
  have k2 := k p l e s m args below meth c dC dI cI cB ad A cells slots Qf C F H locs la w hl (ok_cons (show RI _ from RI_toInt _) (ok_tail (ok_tail ho)))
  exact lv_iushr C.1 C.2.1 hd (I3_toInt _).symm k2
theorem e_lcmp {a b : Int} (hd : decode (mC M) pc = .ok (.lcmp, 1)) (k : E M SX Q (pc + 1) ls (vi (lcmp64 a b) :: st) h) : E M SX Q pc ls (vl b :: vl a :: st) h := by
  intro p l e s m args below meth c dC dI cI cB ad A cells slots Qf C F H locs la w hl ho
  have hb : RL64 b := ok_head ho
  have ha : RL64 a := ok_head (ok_tail ho)
  have e1 : I3 (lcmp64 a b) = lg_cmp (I6 a) (I6 b) := by
    unfold lcmp64 lg_cmp
    have h1 : (I6 a > I6 b) ↔ b < a := I6_lt hb ha
    have h2 := I6_inj ha hb
    by_cases c1 : b < a
    · rw [if_pos (h1.mpr c1), if_neg (by omega), if_neg (by omega)]; rfl
    · rw [if_neg (fun q => c1 (h1.mp q))]
      by_cases c2 : a = b
      · rw [if_pos (h2.mpr c2), if_neg (by omega), if_pos c2]; rfl
      · rw [if_neg (fun q => c2 (h2.mp q)), if_pos (by omega)]; rfl
  have k' := k p l e s m args below meth c dC dI cI cB ad A cells slots Qf C F H locs la w hl (ok_cons (show RI _ by unfold lcmp64; split <;> (try split) <;> exact ⟨by decide, by decide⟩) (ok_tail (ok_tail ho)))
  refine W.lcmp C.1 C.2.1 hd ?_
  rw [← e1]
  exact k'
theorem e_ldc2 {own : String} {idx : Nat} {a : Int} (hd : decode (mC M) pc = .ok (.ldc2_w idx, 3)) (ho' : (mY M).cls = own) (hw : Cond.constantLong own idx (I6 a) ∈ TB) (ha : RL64 a) (k : E M SX Q (pc + 3) ls (vl a :: st) h) : E M SX Q pc ls st h := by
  intro p l e s m args below meth c dC dI cI cB ad A cells slots Qf C F H locs la w hl ho
  subst ho'
  exact lv_ldc2 C.1 C.2.1 C.2.2.2.1 (C.2.2.2.2.1 _ hw) hd (k p l e s m args below meth c dC dI cI cB ad A cells slots Qf C F H locs la w hl (ok_cons ha ho))
theorem e_ldcw {own : String} {idx : Nat} {a : Int} (hd : decode (mC M) pc = .ok (.ldc_w idx, 3)) (ho' : (mY M).cls = own) (hw : Cond.constant own idx (I3 a) ∈ TB) (ha : RI a) (k : E M SX Q (pc + 3) ls (vi a :: st) h) : E M SX Q pc ls st h := by
  intro p l e s m args below meth c dC dI cI cB ad A cells slots Qf C F H locs la w hl ho
  subst ho'
  exact lv_ldcw C.1 C.2.1 C.2.2.2.1 (C.2.2.2.2.1 _ hw) hd (k p l e s m args below meth c dC dI cI cB ad A cells slots Qf C F H locs la w hl (ok_cons ha ho))
theorem e_iload_n {q : Fin 4} {a : Int} (hd : decode (mC M) pc = .ok (.iload_n q, 1)) (hk : ls[(q : Nat)]? = some (some (vi a))) (k : E M SX Q (pc + 1) ls (vi a :: st) h) : E M SX Q pc ls st h := by
  intro p l e s m args below meth c dC dI cI cB ad A cells slots Qf C F H locs la w hl ho
  have hv := hl.2.2 _ _ hk
  exact lv_iload_n C.1 C.2.1 hd rfl hv.1 (k p l e s m args below meth c dC dI cI cB ad A cells slots Qf C F H locs la w hl (ok_cons hv.2 ho))
theorem e_iload {i : Nat} {a : Int} (hd : decode (mC M) pc = .ok (.iload i, 2)) (hk : ls[i]? = some (some (vi a))) (k : E M SX Q (pc + 2) ls (vi a :: st) h) : E M SX Q pc ls st h := by
  intro p l e s m args below meth c dC dI cI cB ad A cells slots Qf C F H locs la w hl ho
  have hv := hl.2.2 _ _ hk
  exact lv_iload C.1 C.2.1 hd hv.1 (k p l e s m args below meth c dC dI cI cB ad A cells slots Qf C F H locs la w hl (ok_cons hv.2 ho))
theorem e_lload_n {q : Fin 4} {a : Int} (hd : decode (mC M) pc = .ok (.lload_n q, 1)) (hk : ls[(q : Nat)]? = some (some (vl a))) (k : E M SX Q (pc + 1) ls (vl a :: st) h) : E M SX Q pc ls st h := by
  intro p l e s m args below meth c dC dI cI cB ad A cells slots Qf C F H locs la w hl ho
  have hv := hl.2.2 _ _ hk
  exact lv_lload_n C.1 C.2.1 hd rfl hv.1 (k p l e s m args below meth c dC dI cI cB ad A cells slots Qf C F H locs la w hl (ok_cons hv.2 ho))
theorem e_lload {i : Nat} {a : Int} (hd : decode (mC M) pc = .ok (.lload i, 2)) (hk : ls[i]? = some (some (vl a))) (k : E M SX Q (pc + 2) ls (vl a :: st) h) : E M SX Q pc ls st h := by
  intro p l e s m args below meth c dC dI cI cB ad A cells slots Qf C F H locs la w hl ho
  have hv := hl.2.2 _ _ hk
  exact lv_lload C.1 C.2.1 hd hv.1 (k p l e s m args below meth c dC dI cI cB ad A cells slots Qf C F H locs la w hl (ok_cons hv.2 ho))
theorem e_aload_n {q : Fin 4} {x : Nat} (hd : decode (mC M) pc = .ok (.aload_n q, 1)) (hk : ls[(q : Nat)]? = some (some (vr x))) (k : E M SX Q (pc + 1) ls (vr x :: st) h) : E M SX Q pc ls st h := by
  intro p l e s m args below meth c dC dI cI cB ad A cells slots Qf C F H locs la w hl ho
  have hv := hl.2.2 _ _ hk
  exact lv_aload_n C.1 C.2.1 hd rfl hv.1 (k p l e s m args below meth c dC dI cI cB ad A cells slots Qf C F H locs la w hl (ok_cons hv.2 ho))
theorem e_aload {i : Nat} {x : Nat} (hd : decode (mC M) pc = .ok (.aload i, 2)) (hk : ls[i]? = some (some (vr x))) (k : E M SX Q (pc + 2) ls (vr x :: st) h) : E M SX Q pc ls st h := by
  intro p l e s m args below meth c dC dI cI cB ad A cells slots Qf C F H locs la w hl ho
  have hv := hl.2.2 _ _ hk
  exact lv_aload C.1 C.2.1 hd hv.1 (k p l e s m args below meth c dC dI cI cB ad A cells slots Qf C F H locs la w hl (ok_cons hv.2 ho))
theorem e_aload_nN {q : Fin 4}  (hd : decode (mC M) pc = .ok (.aload_n q, 1)) (hk : ls[(q : Nat)]? = some (some (vn))) (k : E M SX Q (pc + 1) ls (vn :: st) h) : E M SX Q pc ls st h := by
  intro p l e s m args below meth c dC dI cI cB ad A cells slots Qf C F H locs la w hl ho
  have hv := hl.2.2 _ _ hk
  exact lv_aload_nN C.1 C.2.1 hd rfl hv.1 (k p l e s m args below meth c dC dI cI cB ad A cells slots Qf C F H locs la w hl (ok_cons hv.2 ho))
def lrl (ad : Nat → Nat) : Nat → List (Option MV) → List (Nat × Value)
  | _, [] => []
  | i, none :: r => lrl ad (i + 1) r
  | i, some v :: r => (i, tv ad v) :: lrl ad (i + 1) r
theorem lrl_in {ad : Nat → Nat} : ∀ {ls : List (Option MV)} {i : Nat} {q : Nat × Value}, q ∈ lrl ad i ls → ∃ (j : Nat) (v : MV), ls[j]? = some (some v) ∧ q = (i + j, tv ad v)
  | [], i, q, h => by simp [lrl] at h
  | none :: r, i, q, h => by
    obtain ⟨j, v, h1, h2⟩ := lrl_in (ls := r) (i := i + 1) h
    exact ⟨j + 1, v, by simpa using h1, by rw [h2, show i + 1 + j = i + (j + 1) by omega]⟩
  | some v :: r, i, q, h => by
    rcases List.mem_cons.mp h with rfl | h
    · exact ⟨0, v, by simp, by simp⟩
    · obtain ⟨j, v, h1, h2⟩ := lrl_in (ls := r) (i := i + 1) h
      exact ⟨j + 1, v, by simpa using h1, by rw [h2, show i + 1 + j = i + (j + 1) by omega]⟩
theorem lrl_mem {ad : Nat → Nat} : ∀ {ls : List (Option MV)} {i j : Nat} {v : MV}, ls[j]? = some (some v) → (i + j, tv ad v) ∈ lrl ad i ls
  | [], i, j, v, h => by simp at h
  | none :: r, i, 0, v, h => by simp at h
  | none :: r, i, j + 1, v, h => by
    have := lrl_mem (ad := ad) (ls := r) (i := i + 1) (j := j) (v := v) (by simpa using h)
    rw [show i + 1 + j = i + (j + 1) by omega] at this
    exact this
  | some x :: r, i, 0, v, h => by
    simp at h; subst h
    exact List.mem_cons_self
  | some x :: r, i, j + 1, v, h => by
    have := lrl_mem (ad := ad) (ls := r) (i := i + 1) (j := j) (v := v) (by simpa using h)
    rw [show i + 1 + j = i + (j + 1) by omega] at this
    exact List.mem_cons_of_mem _ this
theorem Lr.has {ad : Nat → Nat} {nL : Nat} {la : Array Slot} (hl : Lr ad nL ls la) : lv_has la nL (lrl ad 0 ls) := by
  refine ⟨hl.1, hl.2.1, fun q hq => ?_⟩
  obtain ⟨j, v, h1, rfl⟩ := lrl_in hq
  rw [Nat.zero_add]
  exact (hl.2.2 j v h1).1
/-- a long that a store into its second half undoes -/
def isLo : Option (Option MV) → Bool
  | some (some (.inr (.inl _))) => true
  | _ => false
def kil (i : Nat) (ls : List (Option MV)) : List (Option MV) := if i = 0 then ls else if isLo ls[i - 1]? then ls.set (i - 1) none else ls
def stL1 (i : Nat) (v : MV) (ls : List (Option MV)) : List (Option MV) := (kil i ls).set i (some v)
def stL2 (i : Nat) (v : MV) (ls : List (Option MV)) : List (Option MV) := ((kil i ls).set i (some v)).set (i + 1) none
theorem kil_get {i j : Nat} {v : MV} (h1 : (kil i ls)[j]? = some (some v)) : ls[j]? = some (some v) ∧ ¬ (j + 1 = i ∧ ∃ a, v = vl a) := by
  unfold kil at h1
  by_cases hi : i = 0
  · rw [if_pos hi] at h1
    exact ⟨h1, by omega⟩
  rw [if_neg hi] at h1
  by_cases hL : isLo ls[i - 1]? = true
  · rw [if_pos hL] at h1
    by_cases hj : j = i - 1
    · subst hj
      rw [List.getElem?_set] at h1
      split at h1
      · split at h1 <;> simp at h1
      · omega
    · rw [List.getElem?_set_ne (by omega)] at h1
      exact ⟨h1, by omega⟩
  · rw [if_neg hL] at h1
    refine ⟨h1, fun q => ?_⟩
    obtain ⟨q1, a, rfl⟩ := q
    have hj : i - 1 = j := by omega
    rw [hj, h1] at hL
    exact hL rfl
theorem cat_tv {ad : Nat → Nat} {v : MV} (hc : (tv ad v).category = 2) : ∃ a, v = vl a := by
  match v with
  | .inl a => simp [tv, Value.category] at hc
  | .inr (.inl a) => exact ⟨a, rfl⟩
  | .inr (.inr none) => simp [tv, Value.category] at hc
  | .inr (.inr (some k)) => simp [tv, Value.category] at hc
theorem Lr.st1 {ad : Nat → Nat} {nL i : Nat} {v : MV} {ls' : List (Option MV)} {la la' : Array Slot} (hl : Lr ad nL ls la) (hv : okv v) (he : stL1 i v ls = ls') (h1 : lv_has la' nL ((i, tv ad v) :: (lrl ad 0 ls).filter (fun q => !(q.1 == i) && !(q.1 + 1 == i && q.2.category == 2)))) : Lr ad nL ls' la' := by
  subst he
  refine ⟨h1.1, h1.2.1, fun j x hj => ?_⟩
  unfold stL1 at hj
  by_cases hji : j = i
  · subst hji
    rw [List.getElem?_set] at hj
    simp only [if_pos] at hj
    split at hj
    · have hx : v = x := by simpa using hj
      subst hx
      exact ⟨h1.2.2 _ List.mem_cons_self, hv⟩
    · simp at hj
  · rw [List.getElem?_set_ne (fun q => hji q.symm)] at hj
    obtain ⟨h2, h3⟩ := kil_get hj
    have h4 := hl.2.2 j x h2
    refine ⟨?_, h4.2⟩
    have h5 : (j, tv ad x) ∈ lrl ad 0 ls := by
      have := lrl_mem (ad := ad) (i := 0) h2
      rwa [Nat.zero_add] at this
    refine h1.2.2 (j, tv ad x) (List.mem_cons_of_mem _ (List.mem_filter.mpr ⟨h5, ?_⟩))
    simp only [Bool.and_eq_true, Bool.not_eq_true', beq_eq_false_iff_ne, ne_eq, Bool.and_eq_false_iff]
    refine ⟨hji, ?_⟩
    by_cases c1 : j + 1 = i
    · right
      intro c2
      exact h3 ⟨c1, cat_tv c2⟩
    · left
      exact c1
theorem Lr.st2 {ad : Nat → Nat} {nL i : Nat} {v : MV} {ls' : List (Option MV)} {la la' : Array Slot} (hl : Lr ad nL ls la) (hv : okv v) (he : stL2 i v ls = ls') (h1 : lv_has la' nL ((i, tv ad v) :: (lrl ad 0 ls).filter (fun q => !(q.1 == i) && (!(q.1 == i + 1) && !(q.1 + 1 == i && q.2.category == 2))))) : Lr ad nL ls' la' := by
  subst he
  refine ⟨h1.1, h1.2.1, fun j x hj => ?_⟩
  unfold stL2 at hj
  by_cases hj1 : j = i + 1
  · subst hj1
    rw [List.getElem?_set] at hj
    simp only [if_pos] at hj
    split at hj <;> simp at hj
  rw [List.getElem?_set_ne (fun q => hj1 q.symm)] at hj
  by_cases hji : j = i
  · subst hji
    rw [List.getElem?_set] at hj
    simp only [if_pos] at hj
    split at hj
    · have hx : v = x := by simpa using hj
      subst hx
      exact ⟨h1.2.2 _ List.mem_cons_self, hv⟩
    · simp at hj
  · rw [List.getElem?_set_ne (fun q => hji q.symm)] at hj
    obtain ⟨h2, h3⟩ := kil_get hj
    have h4 := hl.2.2 j x h2
    refine ⟨?_, h4.2⟩
    have h5 : (j, tv ad x) ∈ lrl ad 0 ls := by
      have := lrl_mem (ad := ad) (i := 0) h2
      rwa [Nat.zero_add] at this
    refine h1.2.2 (j, tv ad x) (List.mem_cons_of_mem _ (List.mem_filter.mpr ⟨h5, ?_⟩))
    simp only [Bool.and_eq_true, Bool.not_eq_true', beq_eq_false_iff_ne, ne_eq, Bool.and_eq_false_iff]
    refine ⟨hji, hj1, ?_⟩
    by_cases c1 : j + 1 = i
    · right
      intro c2
      exact h3 ⟨c1, cat_tv c2⟩
    · left
      exact c1
theorem e_istore_n {q : Fin 4} {a : Int} {ls' : List (Option MV)} (hd : decode (mC M) pc = .ok (.istore_n q, 1)) (hi : (q : Nat) < mL M) (he : stL1 (q : Nat) (vi a) ls = ls') (k : E M SX Q (pc + 1) ls' st h) : E M SX Q pc ls (vi a :: st) h := by
  intro p l e s m args below meth c dC dI cI cB ad A cells slots Qf C F H locs la w hl ho
  exact lv_istore_n C.1 C.2.1 hd rfl hl.has hi rfl (fun la' h1 => k p l e s m args below meth c dC dI cI cB ad A cells slots Qf C F H locs la' w (hl.st1 (ok_head ho) he h1) (ok_tail ho))
theorem e_istore {i : Nat} {a : Int} {ls' : List (Option MV)} (hd : decode (mC M) pc = .ok (.istore i, 2)) (hi : i < mL M) (he : stL1 i (vi a) ls = ls') (k : E M SX Q (pc + 2) ls' st h) : E M SX Q pc ls (vi a :: st) h := by
  intro p l e s m args below meth c dC dI cI cB ad A cells slots Qf C F H locs la w hl ho
  exact lv_istore C.1 C.2.1 hd hl.has hi rfl (fun la' h1 => k p l e s m args below meth c dC dI cI cB ad A cells slots Qf C F H locs la' w (hl.st1 (ok_head ho) he h1) (ok_tail ho))
theorem e_lstore_n {q : Fin 4} {a : Int} {ls' : List (Option MV)} (hd : decode (mC M) pc = .ok (.lstore_n q, 1)) (hi : (q : Nat) + 1 < mL M) (he : stL2 (q : Nat) (vl a) ls = ls') (k : E M SX Q (pc + 1) ls' st h) : E M SX Q pc ls (vl a :: st) h := by
  intro p l e s m args below meth c dC dI cI cB ad A cells slots Qf C F H locs la w hl ho
  exact lv_lstore_n C.1 C.2.1 hd rfl hl.has hi rfl (fun la' h1 => k p l e s m args below meth c dC dI cI cB ad A cells slots Qf C F H locs la' w (hl.st2 (ok_head ho) he h1) (ok_tail ho))
theorem e_lstore {i : Nat} {a : Int} {ls' : List (Option MV)} (hd : decode (mC M) pc = .ok (.lstore i, 2)) (hi : i + 1 < mL M) (he : stL2 i (vl a) ls = ls') (k : E M SX Q (pc + 2) ls' st h) : E M SX Q pc ls (vl a :: st) h := by
  intro p l e s m args below meth c dC dI cI cB ad A cells slots Qf C F H locs la w hl ho
  exact lv_lstore C.1 C.2.1 hd hl.has hi rfl (fun la' h1 => k p l e s m args below meth c dC dI cI cB ad A cells slots Qf C F H locs la' w (hl.st2 (ok_head ho) he h1) (ok_tail ho))
theorem e_astore_n {q : Fin 4} {x : Nat} {ls' : List (Option MV)} (hd : decode (mC M) pc = .ok (.astore_n q, 1)) (hi : (q : Nat) < mL M) (he : stL1 (q : Nat) (vr x) ls = ls') (k : E M SX Q (pc + 1) ls' st h) : E M SX Q pc ls (vr x :: st) h := by
  intro p l e s m args below meth c dC dI cI cB ad A cells slots Qf C F H locs la w hl ho
  exact lv_astore_n C.1 C.2.1 hd rfl hl.has hi rfl (fun la' h1 => k p l e s m args below meth c dC dI cI cB ad A cells slots Qf C F H locs la' w (hl.st1 (ok_head ho) he h1) (ok_tail ho))
theorem e_astore {i : Nat} {x : Nat} {ls' : List (Option MV)} (hd : decode (mC M) pc = .ok (.astore i, 2)) (hi : i < mL M) (he : stL1 i (vr x) ls = ls') (k : E M SX Q (pc + 2) ls' st h) : E M SX Q pc ls (vr x :: st) h := by
  intro p l e s m args below meth c dC dI cI cB ad A cells slots Qf C F H locs la w hl ho
  exact lv_astore C.1 C.2.1 hd hl.has hi rfl (fun la' h1 => k p l e s m args below meth c dC dI cI cB ad A cells slots Qf C F H locs la' w (hl.st1 (ok_head ho) he h1) (ok_tail ho))
theorem e_astore_nN {q : Fin 4}  {ls' : List (Option MV)} (hd : decode (mC M) pc = .ok (.astore_n q, 1)) (hi : (q : Nat) < mL M) (he : stL1 (q : Nat) (vn) ls = ls') (k : E M SX Q (pc + 1) ls' st h) : E M SX Q pc ls (vn :: st) h := by
  intro p l e s m args below meth c dC dI cI cB ad A cells slots Qf C F H locs la w hl ho
  exact lv_astore_nN C.1 C.2.1 hd rfl hl.has hi rfl (fun la' h1 => k p l e s m args below meth c dC dI cI cB ad A cells slots Qf C F H locs la' w (hl.st1 (ok_head ho) he h1) (ok_tail ho))
theorem e_iinc {i : Nat} {n a : Int} {ls' : List (Option MV)} (hd : decode (mC M) pc = .ok (.iinc i n, 3)) (hk : ls[i]? = some (some (vi a))) (hi : i < mL M) (he : stL1 i (vi (wr (a + n))) ls = ls') (k : E M SX Q (pc + 3) ls' st h) : E M SX Q pc ls st h := by
  intro p l e s m args below meth c dC dI cI cB ad A cells slots Qf C F H locs la w hl ho
  have h5 : (i, Value.int (I3 a)) ∈ lrl ad 0 ls := by
    have := lrl_mem (ad := ad) (i := 0) hk
    rwa [Nat.zero_add] at this
  obtain ⟨j, hj⟩ := List.getElem?_of_mem h5
  have e1 : I3 a + Int32.ofInt n = I3 (wr (a + n)) := ((I3_wr _).trans (Int32.ofInt_add a n)).symm
  exact lv_iinc C.1 C.2.1 hd hl.has hj e1 hi rfl (fun la' h1 => k p l e s m args below meth c dC dI cI cB ad A cells slots Qf C F H locs la' w (hl.st1 (show okv (vi _) from RI_wr _) he h1) ho)
theorem e_weak (ls' : List (Option MV)) (hs : ∀ (i : Nat) (v : MV), ls'[i]? = some (some v) → ls[i]? = some (some v)) (k : E M SX Q pc ls' st h) : E M SX Q pc ls st h := by
  intro p l e s m args below meth c dC dI cI cB ad A cells slots Qf C F H locs la w hl ho
  exact k p l e s m args below meth c dC dI cI cB ad A cells slots Qf C F H locs la w ⟨hl.1, hl.2.1, fun i v q => hl.2.2 i v (hs i v q)⟩ ho
theorem cat_int {ad : Nat → Nat} (a : Int) : (tv ad (vi a)).category = 1 := rfl
theorem e_dup {v : MV} (hd : decode (mC M) pc = .ok (.dup, 1)) (hc : ∀ ad, (tv ad v).category = 1) (k : E M SX Q (pc + 1) ls (v :: v :: st) h) : E M SX Q pc ls (v :: st) h := by
  intro p l e s m args below meth c dC dI cI cB ad A cells slots Qf C F H locs la w hl ho
  exact lv_dup C.1 C.2.1 hd (hc ad) (k p l e s m args below meth c dC dI cI cB ad A cells slots Qf C F H locs la w hl (ok_cons (ok_head ho) ho))
theorem e_pop {v : MV} (hd : decode (mC M) pc = .ok (.pop, 1)) (hc : ∀ ad, (tv ad v).category = 1) (k : E M SX Q (pc + 1) ls st h) : E M SX Q pc ls (v :: st) h := by
  intro p l e s m args below meth c dC dI cI cB ad A cells slots Qf C F H locs la w hl ho
  exact lv_pop C.1 C.2.1 hd (hc ad) (k p l e s m args below meth c dC dI cI cB ad A cells slots Qf C F H locs la w hl (ok_tail ho))
theorem e_dup2 {v u : MV} (hd : decode (mC M) pc = .ok (.dup2, 1)) (hc : ∀ ad, (tv ad v).category = 1) (hc2 : ∀ ad, (tv ad u).category = 1) (k : E M SX Q (pc + 1) ls (v :: u :: v :: u :: st) h) : E M SX Q pc ls (v :: u :: st) h := by
  intro p l e s m args below meth c dC dI cI cB ad A cells slots Qf C F H locs la w hl ho
  exact lv_dup2_11 C.1 C.2.1 hd (hc ad) (hc2 ad) (k p l e s m args below meth c dC dI cI cB ad A cells slots Qf C F H locs la w hl (ok_cons (ok_head ho) (ok_cons (ok_head (ok_tail ho)) ho)))
theorem e_goto {off : Int} {tgt : Nat} (hd : decode (mC M) pc = .ok (.goto off, 3)) (ht : (pc : Int) + off = (tgt : Int)) (k : E M SX Q tgt ls st h) : E M SX Q pc ls st h := by
  intro p l e s m args below meth c dC dI cI cB ad A cells slots Qf C F H locs la w hl ho
  exact lv_goto C.1 C.2.1 hd ht (k p l e s m args below meth c dC dI cI cB ad A cells slots Qf C F H locs la w hl ho)
theorem e_null (hd : decode (mC M) pc = .ok (.aconst_null, 1)) (k : E M SX Q (pc + 1) ls (vn :: st) h) : E M SX Q pc ls st h := by
  intro p l e s m args below meth c dC dI cI cB ad A cells slots Qf C F H locs la w hl ho
  exact lv_null C.1 C.2.1 hd (k p l e s m args below meth c dC dI cI cB ad A cells slots Qf C F H locs la w hl (ok_cons (show okv vn from trivial) ho))
theorem e_ifnonnull {x : Nat} {off : Int} {tgt : Nat} (hd : decode (mC M) pc = .ok (.ifnonnull off, 3)) (ht : (pc : Int) + off = (tgt : Int)) (k : E M SX Q tgt ls st h) : E M SX Q pc ls (vr x :: st) h := by
  intro p l e s m args below meth c dC dI cI cB ad A cells slots Qf C F H locs la w hl ho
  exact lv_ifnonnull C.1 C.2.1 hd ht (k p l e s m args below meth c dC dI cI cB ad A cells slots Qf C F H locs la w hl (ok_tail ho))
theorem e_ifnonnullN {off : Int} (hd : decode (mC M) pc = .ok (.ifnonnull off, 3)) (k : E M SX Q (pc + 3) ls st h) : E M SX Q pc ls (vn :: st) h := by
  intro p l e s m args below meth c dC dI cI cB ad A cells slots Qf C F H locs la w hl ho
  exact lv_ifnonnullN C.1 C.2.1 hd (k p l e s m args below meth c dC dI cI cB ad A cells slots Qf C F H locs la w hl (ok_tail ho))
theorem e_if_eq {a : Int} {off : Int} {tgt : Nat} (hd : decode (mC M) pc = .ok (.ifCond .eq off, 3)) (ht : (pc : Int) + off = (tgt : Int)) (kt : a = 0 → E M SX Q tgt ls st h) (kf : ¬ a = 0 → E M SX Q (pc + 3) ls st h) : E M SX Q pc ls (vi a :: st) h := by
  intro p l e s m args below meth c dC dI cI cB ad A cells slots Qf C F H locs la w hl ho
  have E0 := z_eq (ok_head ho)
  exact lv_if_eq C.1 C.2.1 hd ht (fun q => kt (E0.mp q) p l e s m args below meth c dC dI cI cB ad A cells slots Qf C F H locs la w hl (ok_tail ho)) (fun q => kf (fun z => q (E0.mpr z)) p l e s m args below meth c dC dI cI cB ad A cells slots Qf C F H locs la w hl (ok_tail ho))
theorem e_icmp_eq {a b : Int} {off : Int} {tgt : Nat} (hd : decode (mC M) pc = .ok (.if_icmp .eq off, 3)) (ht : (pc : Int) + off = (tgt : Int)) (kt : a = b → E M SX Q tgt ls st h) (kf : ¬ a = b → E M SX Q (pc + 3) ls st h) : E M SX Q pc ls (vi b :: vi a :: st) h := by
  intro p l e s m args below meth c dC dI cI cB ad A cells slots Qf C F H locs la w hl ho
  have E0 := I3_inj (ok_head (ok_tail ho)) (ok_head ho)
  exact lv_icmp_eq C.1 C.2.1 hd ht (fun q => kt (E0.mp q) p l e s m args below meth c dC dI cI cB ad A cells slots Qf C F H locs la w hl (ok_tail (ok_tail ho))) (fun q => kf (fun z => q (E0.mpr z)) p l e s m args below meth c dC dI cI cB ad A cells slots Qf C F H locs la w hl (ok_tail (ok_tail ho)))
theorem e_if_ne {a : Int} {off : Int} {tgt : Nat} (hd : decode (mC M) pc = .ok (.ifCond .ne off, 3)) (ht : (pc : Int) + off = (tgt : Int)) (kt : ¬ a = 0 → E M SX Q tgt ls st h) (kf : a = 0 → E M SX Q (pc + 3) ls st h) : E M SX Q pc ls (vi a :: st) h := by
  intro p l e s m args below meth c dC dI cI cB ad A cells slots Qf C F H locs la w hl ho
  have E0 := not_congr (z_eq (ok_head ho))
  exact lv_if_ne C.1 C.2.1 hd ht (fun q => kt (E0.mp q) p l e s m args below meth c dC dI cI cB ad A cells slots Qf C F H locs la w hl (ok_tail ho)) (fun q => kf ((z_eq (ok_head ho)).mp q) p l e s m args below meth c dC dI cI cB ad A cells slots Qf C F H locs la w hl (ok_tail ho))
theorem e_icmp_ne {a b : Int} {off : Int} {tgt : Nat} (hd : decode (mC M) pc = .ok (.if_icmp .ne off, 3)) (ht : (pc : Int) + off = (tgt : Int)) (kt : ¬ a = b → E M SX Q tgt ls st h) (kf : a = b → E M SX Q (pc + 3) ls st h) : E M SX Q pc ls (vi b :: vi a :: st) h := by
  intro p l e s m args below meth c dC dI cI cB ad A cells slots Qf C F H locs la w hl ho
  have E0 := not_congr (I3_inj (ok_head (ok_tail ho)) (ok_head ho))
  exact lv_icmp_ne C.1 C.2.1 hd ht (fun q => kt (E0.mp q) p l e s m args below meth c dC dI cI cB ad A cells slots Qf C F H locs la w hl (ok_tail (ok_tail ho))) (fun q => kf ((I3_inj (ok_head (ok_tail ho)) (ok_head ho)).mp q) p l e s m args below meth c dC dI cI cB ad A cells slots Qf C F H locs la w hl (ok_tail (ok_tail ho)))
theorem e_if_lt {a : Int} {off : Int} {tgt : Nat} (hd : decode (mC M) pc = .ok (.ifCond .lt off, 3)) (ht : (pc : Int) + off = (tgt : Int)) (kt : a < 0 → E M SX Q tgt ls st h) (kf : ¬ a < 0 → E M SX Q (pc + 3) ls st h) : E M SX Q pc ls (vi a :: st) h := by
  intro p l e s m args below meth c dC dI cI cB ad A cells slots Qf C F H locs la w hl ho
  have E0 := z_lt (ok_head ho)
  exact lv_if_lt C.1 C.2.1 hd ht (fun q => kt (E0.mp q) p l e s m args below meth c dC dI cI cB ad A cells slots Qf C F H locs la w hl (ok_tail ho)) (fun q => kf (fun z => q (E0.mpr z)) p l e s m args below meth c dC dI cI cB ad A cells slots Qf C F H locs la w hl (ok_tail ho))
theorem e_icmp_lt {a b : Int} {off : Int} {tgt : Nat} (hd : decode (mC M) pc = .ok (.if_icmp .lt off, 3)) (ht : (pc : Int) + off = (tgt : Int)) (kt : a < b → E M SX Q tgt ls st h) (kf : ¬ a < b → E M SX Q (pc + 3) ls st h) : E M SX Q pc ls (vi b :: vi a :: st) h := by
  intro p l e s m args below meth c dC dI cI cB ad A cells slots Qf C F H locs la w hl ho
  have E0 := I3_lt (ok_head (ok_tail ho)) (ok_head ho)
  exact lv_icmp_lt C.1 C.2.1 hd ht (fun q => kt (E0.mp q) p l e s m args below meth c dC dI cI cB ad A cells slots Qf C F H locs la w hl (ok_tail (ok_tail ho))) (fun q => kf (fun z => q (E0.mpr z)) p l e s m args below meth c dC dI cI cB ad A cells slots Qf C F H locs la w hl (ok_tail (ok_tail ho)))
theorem e_if_ge {a : Int} {off : Int} {tgt : Nat} (hd : decode (mC M) pc = .ok (.ifCond .ge off, 3)) (ht : (pc : Int) + off = (tgt : Int)) (kt : 0 ≤ a → E M SX Q tgt ls st h) (kf : ¬ 0 ≤ a → E M SX Q (pc + 3) ls st h) : E M SX Q pc ls (vi a :: st) h := by
  intro p l e s m args below meth c dC dI cI cB ad A cells slots Qf C F H locs la w hl ho
  have E0 := z_ge (ok_head ho)
  exact lv_if_ge C.1 C.2.1 hd ht (fun q => kt (E0.mp q) p l e s m args below meth c dC dI cI cB ad A cells slots Qf C F H locs la w hl (ok_tail ho)) (fun q => kf (fun z => q (E0.mpr z)) p l e s m args below meth c dC dI cI cB ad A cells slots Qf C F H locs la w hl (ok_tail ho))
theorem e_icmp_ge {a b : Int} {off : Int} {tgt : Nat} (hd : decode (mC M) pc = .ok (.if_icmp .ge off, 3)) (ht : (pc : Int) + off = (tgt : Int)) (kt : b ≤ a → E M SX Q tgt ls st h) (kf : ¬ b ≤ a → E M SX Q (pc + 3) ls st h) : E M SX Q pc ls (vi b :: vi a :: st) h := by
  intro p l e s m args below meth c dC dI cI cB ad A cells slots Qf C F H locs la w hl ho
  have E0 := I3_le (ok_head ho) (ok_head (ok_tail ho))
  exact lv_icmp_ge C.1 C.2.1 hd ht (fun q => kt (E0.mp q) p l e s m args below meth c dC dI cI cB ad A cells slots Qf C F H locs la w hl (ok_tail (ok_tail ho))) (fun q => kf (fun z => q (E0.mpr z)) p l e s m args below meth c dC dI cI cB ad A cells slots Qf C F H locs la w hl (ok_tail (ok_tail ho)))
theorem e_if_gt {a : Int} {off : Int} {tgt : Nat} (hd : decode (mC M) pc = .ok (.ifCond .gt off, 3)) (ht : (pc : Int) + off = (tgt : Int)) (kt : 0 < a → E M SX Q tgt ls st h) (kf : ¬ 0 < a → E M SX Q (pc + 3) ls st h) : E M SX Q pc ls (vi a :: st) h := by
  intro p l e s m args below meth c dC dI cI cB ad A cells slots Qf C F H locs la w hl ho
  have E0 := z_gt (ok_head ho)
  exact lv_if_gt C.1 C.2.1 hd ht (fun q => kt (E0.mp q) p l e s m args below meth c dC dI cI cB ad A cells slots Qf C F H locs la w hl (ok_tail ho)) (fun q => kf (fun z => q (E0.mpr z)) p l e s m args below meth c dC dI cI cB ad A cells slots Qf C F H locs la w hl (ok_tail ho))
theorem e_icmp_gt {a b : Int} {off : Int} {tgt : Nat} (hd : decode (mC M) pc = .ok (.if_icmp .gt off, 3)) (ht : (pc : Int) + off = (tgt : Int)) (kt : b < a → E M SX Q tgt ls st h) (kf : ¬ b < a → E M SX Q (pc + 3) ls st h) : E M SX Q pc ls (vi b :: vi a :: st) h := by
  intro p l e s m args below meth c dC dI cI cB ad A cells slots Qf C F H locs la w hl ho
  have E0 := I3_lt (ok_head ho) (ok_head (ok_tail ho))
  exact lv_icmp_gt C.1 C.2.1 hd ht (fun q => kt (E0.mp q) p l e s m args below meth c dC dI cI cB ad A cells slots Qf C F H locs la w hl (ok_tail (ok_tail ho))) (fun q => kf (fun z => q (E0.mpr z)) p l e s m args below meth c dC dI cI cB ad A cells slots Qf C F H locs la w hl (ok_tail (ok_tail ho)))
theorem e_if_le {a : Int} {off : Int} {tgt : Nat} (hd : decode (mC M) pc = .ok (.ifCond .le off, 3)) (ht : (pc : Int) + off = (tgt : Int)) (kt : a ≤ 0 → E M SX Q tgt ls st h) (kf : ¬ a ≤ 0 → E M SX Q (pc + 3) ls st h) : E M SX Q pc ls (vi a :: st) h := by
  intro p l e s m args below meth c dC dI cI cB ad A cells slots Qf C F H locs la w hl ho
  have E0 := z_le (ok_head ho)
  exact lv_if_le C.1 C.2.1 hd ht (fun q => kt (E0.mp q) p l e s m args below meth c dC dI cI cB ad A cells slots Qf C F H locs la w hl (ok_tail ho)) (fun q => kf (fun z => q (E0.mpr z)) p l e s m args below meth c dC dI cI cB ad A cells slots Qf C F H locs la w hl (ok_tail ho))
theorem e_icmp_le {a b : Int} {off : Int} {tgt : Nat} (hd : decode (mC M) pc = .ok (.if_icmp .le off, 3)) (ht : (pc : Int) + off = (tgt : Int)) (kt : a ≤ b → E M SX Q tgt ls st h) (kf : ¬ a ≤ b → E M SX Q (pc + 3) ls st h) : E M SX Q pc ls (vi b :: vi a :: st) h := by
  intro p l e s m args below meth c dC dI cI cB ad A cells slots Qf C F H locs la w hl ho
  have E0 := I3_le (ok_head (ok_tail ho)) (ok_head ho)
  exact lv_icmp_le C.1 C.2.1 hd ht (fun q => kt (E0.mp q) p l e s m args below meth c dC dI cI cB ad A cells slots Qf C F H locs la w hl (ok_tail (ok_tail ho))) (fun q => kf (fun z => q (E0.mpr z)) p l e s m args below meth c dC dI cI cB ad A cells slots Qf C F H locs la w hl (ok_tail (ok_tail ho)))
theorem e_tswOut {a dflt lo hi : Int} {offs : Array Int} {len tgt : Nat} (hd : decode (mC M) pc = .ok (.tableswitch dflt lo hi offs, len)) (hc : a < lo ∨ hi < a) (ht : (pc : Int) + dflt = (tgt : Int)) (k : E M SX Q tgt ls st h) : E M SX Q pc ls (vi a :: st) h := by
  intro p l e s m args below meth c dC dI cI cB ad A cells slots Qf C F H locs la w hl ho
  exact lv_tableOut C.1 C.2.1 hd (by rw [toInt_I3 (ok_head ho)]; exact hc) ht (k p l e s m args below meth c dC dI cI cB ad A cells slots Qf C F H locs la w hl (ok_tail ho))
theorem e_tswIn {a dflt lo hi off : Int} {offs : Array Int} {len tgt : Nat} (hd : decode (mC M) pc = .ok (.tableswitch dflt lo hi offs, len)) (h1 : ¬ a < lo) (h2 : ¬ hi < a) (hoff : offs[(a - lo).toNat]? = some off) (ht : (pc : Int) + off = (tgt : Int)) (k : E M SX Q tgt ls st h) : E M SX Q pc ls (vi a :: st) h := by
  intro p l e s m args below meth c dC dI cI cB ad A cells slots Qf C F H locs la w hl ho
  exact lv_tableIn C.1 C.2.1 hd (by rw [toInt_I3 (ok_head ho)]; exact h1) (by rw [toInt_I3 (ok_head ho)]; exact h2) (by rw [toInt_I3 (ok_head ho)]; exact hoff) ht (k p l e s m args below meth c dC dI cI cB ad A cells slots Qf C F H locs la w hl (ok_tail ho))
theorem e_lsw {a dflt off : Int} {ps : Array (Int × Int)} {len tgt : Nat} (hd : decode (mC M) pc = .ok (.lookupswitch dflt ps, len)) (hp : (ps.toList.zip (ps.toList.drop 1)).all (fun (a, next) => a.1 < next.1) = true) (hoff : Op.lookupswitch.offset ps.toList dflt a = off) (ht : (pc : Int) + off = (tgt : Int)) (k : E M SX Q tgt ls st h) : E M SX Q pc ls (vi a :: st) h := by
  intro p l e s m args below meth c dC dI cI cB ad A cells slots Qf C F H locs la w hl ho
  exact lv_lookup C.1 C.2.1 hd hp (by rw [toInt_I3 (ok_head ho)]; exact hoff) ht (k p l e s m args below meth c dC dI cI cB ad A cells slots Qf C F H locs la w hl (ok_tail ho))
end ER2
end
section
section EM
variable {M : MI} {SX : Option (Nat × (Nat → Int32))} {Q : Option MV → Mem → Prop} {pc : Nat} {ls : List (Option MV)} {st : List MV} {h : Mem}
/-- a field's link, in the tables -/
def FLk (nest : Bool) (own : String) (idx ci k : Nat) : Prop := ∃ (C : String) (T : u_T) (N : Nat), vwCl[ci]? = some (C, T, N) ∧ k < N ∧ (∀ w ∈ u_ws C T N, w ∈ TB) ∧
  (if nest then ∃ host, Cond.fieldLinkNest own idx (T k).1 (T k).2.1 (T k).2.2.1 host ∈ NW else Cond.fieldLink own idx (T k).1 (T k).2.1 (T k).2.2.1 ∈ TB)
theorem em_get {nest : Bool} {p : Program} {l : Launch} {e : Env} {R : Room} {s : State} {m : MethodId} {args : Array Value} {below : List Frame} {meth : Method} {c : Code} {H : Heap} {locs : List Loc} {cells slots : Nat} {Qf : State → Prop} {cc : ByteArray} {la : Array Slot} {rest : List Value} {D : va_G} {tys : List (ClassId × FieldType)} {ws : va_W} {a : Nat}
    (hexec : p.tables.exec = Jvm.exec) (hb : c.code = cc) {own : String} {ci idx k q0 : Nat} (hF : FLk nest own idx ci k) (hts : ∀ w ∈ TB, w.before args s = true) (hnw : ∀ w ∈ NW, va_Nw w s) (hown : s.vm.findClass own = some m.cls) (hK : va_K D vwCl tys s) (hP : va_P D vwCl ws H) {fs : List Value} (he : ws[q0]? = some (a, .inr (ci, fs))) {v : Value} (hv : fs[k]? = some v) (hdg : decode cc pc = .ok (.getfield idx, 3))
    (kk : W p l e R s m args below meth c H locs cells slots Qf (F0 m (pc + 3) la (v :: rest))) : W p l e R s m args below meth c H locs cells slots Qf (F0 m pc la (.ref a :: rest)) := by
  obtain ⟨C, T, N, h1, h2, h3, h4⟩ := hF
  cases nest with
  | false => exact va_get hexec hb hts h3 hown hK hP q0 he h1 k h2 (hts _ h4) (fun _ z => z) hv hdg kk
  | true =>
    obtain ⟨host, h4⟩ := h4
    exact va_getN hexec hb hts h3 hown hK hP q0 he h1 k h2 (va_Nw.use rfl (hnw _ h4)) (fun _ z => z) hv hdg kk
theorem e_getI {nest : Bool} {own : String} {idx ci k x t : Nat} {fl : List FK} {kz : Int} (hkz : (k : Int) = kz) (hd : decode (mC M) pc = .ok (.getfield idx, 3)) (ho' : (mY M).cls = own) (hF : FLk nest own idx ci k) (hc : kd[x]? = some (.inl (ci, fl))) (hf : fl[k]? = some (.inr t)) (ht : t = 0 ∨ t = 2) (kk : E M SX Q (pc + 3) ls (vi (h x kz) :: st) h) : E M SX Q pc ls (vr x :: st) h := by
  intro p l e s m args below meth c dC dI cI cB ad A cells slots Qf C F H locs la w hl ho
  subst ho'
  subst hkz
  have hr : RI (h x k) := by
    have := w.2.2.2 x _ hc k _ hf
    rcases ht with rfl | rfl
    · exact this
    · exact RI_01 this
  refine em_get C.1 C.2.1 hF C.2.2.2.2.1 C.2.2.2.2.2.2.2.2.2.2.1 C.2.2.2.1 C.2.2.2.2.2.1 w.1 (wW_get hc) (fvs_get (k := 0) hf) hd ?_
  have k' := kk p l e s m args below meth c dC dI cI cB ad A cells slots Qf C F H locs la w hl (ok_cons (show okv (vi _) from hr) (ok_tail ho))
  rcases ht with rfl | rfl
  · rw [Nat.zero_add]; exact k'
  · rw [Nat.zero_add]; exact k'
theorem e_getL {nest : Bool} {own : String} {idx ci k x : Nat} {fl : List FK} {kz : Int} (hkz : (k : Int) = kz) (hd : decode (mC M) pc = .ok (.getfield idx, 3)) (ho' : (mY M).cls = own) (hF : FLk nest own idx ci k) (hc : kd[x]? = some (.inl (ci, fl))) (hf : fl[k]? = some (.inr 1)) (kk : E M SX Q (pc + 3) ls (vl (h x kz) :: st) h) : E M SX Q pc ls (vr x :: st) h := by
  intro p l e s m args below meth c dC dI cI cB ad A cells slots Qf C F H locs la w hl ho
  subst ho'
  subst hkz
  have hr : RL64 (h x k) := w.2.2.2 x _ hc k _ hf
  refine em_get C.1 C.2.1 hF C.2.2.2.2.1 C.2.2.2.2.2.2.2.2.2.2.1 C.2.2.2.1 C.2.2.2.2.2.1 w.1 (wW_get hc) (fvs_get (k := 0) hf) hd ?_
  have k' := kk p l e s m args below meth c dC dI cI cB ad A cells slots Qf C F H locs la w hl (ok_cons (show okv (vl _) from hr) (ok_tail ho))
  rw [Nat.zero_add]; exact k'
theorem e_getR {nest : Bool} {own : String} {idx ci k x j : Nat} {fl : List FK} (hd : decode (mC M) pc = .ok (.getfield idx, 3)) (ho' : (mY M).cls = own) (hF : FLk nest own idx ci k) (hc : kd[x]? = some (.inl (ci, fl))) (hf : fl[k]? = some (.inl j)) (kk : E M SX Q (pc + 3) ls (vr j :: st) h) : E M SX Q pc ls (vr x :: st) h := by
  intro p l e s m args below meth c dC dI cI cB ad A cells slots Qf C F H locs la w hl ho
  subst ho'
  refine em_get C.1 C.2.1 hF C.2.2.2.2.1 C.2.2.2.2.2.2.2.2.2.2.1 C.2.2.2.1 C.2.2.2.2.2.1 w.1 (wW_get hc) (fvs_get (k := 0) hf) hd ?_
  exact kk p l e s m args below meth c dC dI cI cB ad A cells slots Qf C F H locs la w hl (ok_cons (show okv (vr _) from trivial) (ok_tail ho))
def ftT : Nat → FieldType
  | 1 => .long
  | 2 => .boolean
  | _ => .int
/-- a field that may be written: not final, of a kind -/
def FPk (own : String) (idx ci k t : Nat) (nest : Bool) : Prop := ∃ (C : String) (T : u_T) (N : Nat) (ty : Nat → FieldType), vwCl[ci]? = some (C, T, N) ∧ k < N ∧ (∀ w ∈ u_ws C T N, w ∈ TB) ∧
  (∀ k, k < N → parseFieldDescriptor (T k).2.2.1 = some (ty k)) ∧ (∀ a, a < N → ∀ b, b < N → a ≠ b → (T a).2.1 ≠ (T b).2.1) ∧ (T k).2.2.2 = false ∧ parseFieldDescriptor (T k).2.2.1 = some (ftT t) ∧
  (if nest then ∃ host, Cond.fieldLinkNest own idx (T k).1 (T k).2.1 (T k).2.2.1 host ∈ NW else Cond.fieldLink own idx (T k).1 (T k).2.1 (T k).2.2.1 ∈ TB)
theorem em_put {nest : Bool} {p : Program} {l : Launch} {e : Env} {R : Room} {s : State} {m : MethodId} {args : Array Value} {below : List Frame} {meth : Method} {c : Code} {H : Heap} {locs : List Loc} {cells slots : Nat} {Qf : State → Prop} {cc : ByteArray} {la : Array Slot} {rest : List Value} {D : va_G} {tys : List (ClassId × FieldType)} {ws : va_W} {a : Nat} {A : Nat → Prop} {H0 : Heap}
    (hexec : p.tables.exec = Jvm.exec) (hb : c.code = cc) {own : String} {ci idx k q0 t : Nat} (hF : FPk own idx ci k t nest) (hts : ∀ w ∈ TB, w.before args s = true) (hnw : ∀ w ∈ NW, va_Nw w s) (hown : s.vm.findClass own = some m.cls) (hK : va_K D vwCl tys s) (hP : va_P D vwCl ws H) (hD : va_D A ws) (hS : va_S A H0 H locs) {fs : List Value} (he : ws[q0]? = some (a, .inr (ci, fs))) {v : Value} (hn : narrow (ftT t) v = v) (hfit : fits (ftT t) v = true) (hl : k < fs.length) (hdg : decode cc pc = .ok (.putfield idx, 3))
    (kk : ∀ (H1 : Heap) (locs1 : List Loc), va_P D vwCl (ws.set q0 (a, .inr (ci, fs.set k v))) H1 → va_D A (ws.set q0 (a, .inr (ci, fs.set k v))) → va_S A H0 H1 locs1 → W p l e R s m args below meth c H1 locs1 cells slots Qf (F0 m (pc + 3) la rest)) : W p l e R s m args below meth c H locs cells slots Qf (F0 m pc la (v :: .ref a :: rest)) := by
  obtain ⟨C, T, N, ty, h1, h2, h3, h4, h5, h6, h7, h8⟩ := hF
  cases nest with
  | false => exact va_put hexec hb hts h3 ty h4 h5 hown hK hP hD hS q0 he h1 k h2 (hts _ h8) (fun _ z => z) h6 h7 hn hfit hl hdg kk
  | true =>
    obtain ⟨host, h8⟩ := h8
    exact va_putN hexec hb hts h3 ty h4 h5 hown hK hP hD hS q0 he h1 k h2 (va_Nw.use rfl (hnw _ h8)) (fun _ z => z) h6 h7 hn hfit hl hdg kk
theorem wW_upF {cI cB : ClassId} {ad : Nat → Nat} {x ci k t : Nat} {fl : List FK} {a : Int} (hc : kd[x]? = some (.inl (ci, fl))) (hf : fl[k]? = some (.inr t)) : (wW cI cB ad h).set x (ad x, .inr (ci, (fvs ad (h x) 0 fl).set k (fv1 ad a (.inr t)))) = wW cI cB ad (up h x k a) := by
  rw [fvs_set hf, up_fun, ← wW_set hc]
  show _ = (wW cI cB ad h).set x (ad x, .inr (ci, fvs ad (fun y => if y = (k : Int) then a else h x y) 0 fl))
  rw [Nat.zero_add]
theorem fv_n {ad : Nat → Nat} {t : Nat} {a : Int} (hok : tyok t a) : narrow (ftT t) (fv1 ad a (.inr t)) = fv1 ad a (.inr t) ∧ fits (ftT t) (fv1 ad a (.inr t)) = true := by
  match t, hok with
  | 0, _ => exact ⟨rfl, rfl⟩
  | 1, _ => exact ⟨rfl, rfl⟩
  | 2, hok =>
    rcases hok with rfl | rfl
    · show narrow .boolean (.int (I3 0)) = .int (I3 0) ∧ fits .boolean (.int (I3 0)) = true
      decide
    · show narrow .boolean (.int (I3 1)) = .int (I3 1) ∧ fits .boolean (.int (I3 1)) = true
      decide
  | t + 3, _ => exact ⟨rfl, rfl⟩
theorem e_putI {nest : Bool} {own : String} {idx ci k x t : Nat} {fl : List FK} {a kz : Int} (hkz : (k : Int) = kz) (hd : decode (mC M) pc = .ok (.putfield idx, 3)) (ho' : (mY M).cls = own) (hF : FPk own idx ci k t nest) (hc : kd[x]? = some (.inl (ci, fl))) (hf : fl[k]? = some (.inr t)) (ht : t = 0 ∨ (t = 2 ∧ (a = 0 ∨ a = 1))) (kk : E M SX Q (pc + 3) ls st (up h x kz a)) : E M SX Q pc ls (vi a :: vr x :: st) h := by
  intro p l e s m args below meth c dC dI cI cB ad A cells slots Qf C F H locs la w hl ho
  subst ho'
  subst hkz
  have hok : tyok t a := by
    rcases ht with rfl | ⟨rfl, ht⟩
    · exact (show RI a from ok_head ho)
    · exact ht
  have hv : fv1 ad a (.inr t) = .int (I3 a) := by rcases ht with rfl | ⟨rfl, ht⟩ <;> rfl
  have hlen : k < (fvs ad (h x) 0 fl).length := by rw [fvs_len]; exact (List.getElem?_eq_some_iff.mp hf).1
  have hn := fv_n (ad := ad) hok
  show W p l e (mR M) s m args below meth c H locs cells slots Qf (F0 m pc la (.int (I3 a) :: .ref (ad x) :: st.map (tv ad)))
  rw [← hv]
  refine em_put C.1 C.2.1 hF C.2.2.2.2.1 C.2.2.2.2.2.2.2.2.2.2.1 C.2.2.2.1 C.2.2.2.2.2.1 w.1 w.2.1 w.2.2.1 (wW_get hc) hn.1 hn.2 hlen hd (fun H1 locs1 p1 d1 s1 => ?_)
  rw [wW_upF hc hf] at p1 d1
  exact kk p l e s m args below meth c dC dI cI cB ad A cells slots Qf C F H1 locs1 la ⟨p1, d1, s1, RM_upF w.2.2.2 hc hf hok⟩ hl (ok_tail (ok_tail ho))
theorem e_putL {nest : Bool} {own : String} {idx ci k x : Nat} {fl : List FK} {a kz : Int} (hkz : (k : Int) = kz) (hd : decode (mC M) pc = .ok (.putfield idx, 3)) (ho' : (mY M).cls = own) (hF : FPk own idx ci k 1 nest) (hc : kd[x]? = some (.inl (ci, fl))) (hf : fl[k]? = some (.inr 1)) (kk : E M SX Q (pc + 3) ls st (up h x kz a)) : E M SX Q pc ls (vl a :: vr x :: st) h := by
  intro p l e s m args below meth c dC dI cI cB ad A cells slots Qf C F H locs la w hl ho
  subst ho'
  subst hkz
  have hok : tyok 1 a := ok_head ho
  have hlen : k < (fvs ad (h x) 0 fl).length := by rw [fvs_len]; exact (List.getElem?_eq_some_iff.mp hf).1
  have hn := fv_n (ad := ad) hok
  show W p l e (mR M) s m args below meth c H locs cells slots Qf (F0 m pc la (fv1 ad a (.inr 1) :: .ref (ad x) :: st.map (tv ad)))
  refine em_put C.1 C.2.1 hF C.2.2.2.2.1 C.2.2.2.2.2.2.2.2.2.2.1 C.2.2.2.1 C.2.2.2.2.2.1 w.1 w.2.1 w.2.2.1 (wW_get hc) hn.1 hn.2 hlen hd (fun H1 locs1 p1 d1 s1 => ?_)
  rw [wW_upF hc hf] at p1 d1
  exact kk p l e s m args below meth c dC dI cI cB ad A cells slots Qf C F H1 locs1 la ⟨p1, d1, s1, RM_upF w.2.2.2 hc hf hok⟩ hl (ok_tail (ok_tail ho))
/-- rows of an array -/
theorem in_I3 {i : Int} {n : Nat} (hr : RI i) (h0 : 0 ≤ i) (h1 : i < n) : vp_in (I3 i) n := by
  intro q
  rcases q with q | q
  · exact absurd ((z_lt hr).mp q) (by omega)
  · rw [I3_clamp h0 hr] at q
    omega
theorem e_iald {x n : Nat} {i : Int} (hd : decode (mC M) pc = .ok (.iaload, 1)) (hc : kd[x]? = some (.inr (n, false))) (hi : 0 ≤ i ∧ i < n) (kk : E M SX Q (pc + 1) ls (vi (h x i) :: st) h) : E M SX Q pc ls (vi i :: vr x :: st) h := by
  intro p l e s m args below meth c dC dI cI cB ad A cells slots Qf C F H locs la w hl ho
  have hr : RI i := ok_head ho
  have hv : RI (h x i) := w.2.2.2 x _ hc i hi.1 hi.2
  refine va_iald C.1 C.2.1 C.2.2.2.2.2.1 w.1 x 0 (wW_get hc) rfl (in_I3 hr hi.1 hi.2) hd ?_
  have k' := kk p l e s m args below meth c dC dI cI cB ad A cells slots Qf C F H locs la w hl (ok_cons (show okv (vi _) from hv) (ok_tail (ok_tail ho)))
  rw [I3_clamp hi.1 hr, Int.toNat_of_nonneg hi.1]
  exact k'
theorem e_bald {x n : Nat} {i : Int} (hd : decode (mC M) pc = .ok (.baload, 1)) (hc : kd[x]? = some (.inr (n, true))) (hi : 0 ≤ i ∧ i < n) (kk : E M SX Q (pc + 1) ls (vi (h x i) :: st) h) : E M SX Q pc ls (vi i :: vr x :: st) h := by
  intro p l e s m args below meth c dC dI cI cB ad A cells slots Qf C F H locs la w hl ho
  have hr : RI i := ok_head ho
  have hv : RI (h x i) := RI_01 (w.2.2.2 x _ hc i hi.1 hi.2)
  refine va_zald C.1 C.2.1 C.2.2.2.2.2.1 w.1 x 1 (wW_get hc) rfl (in_I3 hr hi.1 hi.2) hd ?_
  have k' := kk p l e s m args below meth c dC dI cI cB ad A cells slots Qf C F H locs la w hl (ok_cons (show okv (vi _) from hv) (ok_tail (ok_tail ho)))
  rw [I3_clamp hi.1 hr, Int.toNat_of_nonneg hi.1]
  exact k'
theorem wW_upA {cI cB : ClassId} {ad : Nat → Nat} {x n : Nat} {b : Bool} {i a : Int} (hc : kd[x]? = some (.inr (n, b))) (hr : RI i) (h0 : 0 ≤ i) : (wW cI cB ad h).set x (ad x, .inl (if b then cB else cI, n, .inl (upd (fun j => I3 (h x (j : Int))) (I3 i).toNatClampNeg (I3 a)))) = wW cI cB ad (up h x i a) := by
  rw [up_fun, ← wW_set hc]
  congr 1
  show (_, Sum.inl (_, n, Sum.inl _)) = (_, Sum.inl (_, n, Sum.inl _))
  congr 4
  congr 1
  funext j
  rw [I3_clamp h0 hr]
  dsimp only
  unfold upd
  by_cases hj : j = i.toNat
  · rw [if_pos hj, if_pos (by omega)]
  · rw [if_neg hj, if_neg (by omega)]
theorem e_iast {x n : Nat} {i a : Int} (hd : decode (mC M) pc = .ok (.iastore, 1)) (hc : kd[x]? = some (.inr (n, false))) (hi : 0 ≤ i ∧ i < n) (kk : E M SX Q (pc + 1) ls st (up h x i a)) : E M SX Q pc ls (vi a :: vi i :: vr x :: st) h := by
  intro p l e s m args below meth c dC dI cI cB ad A cells slots Qf C F H locs la w hl ho
  have ha : RI a := ok_head ho
  have hr : RI i := ok_head (ok_tail ho)
  refine va_iast C.1 C.2.1 C.2.2.2.2.2.1 w.1 w.2.1 w.2.2.1 x 0 (wW_get hc) rfl (in_I3 hr hi.1 hi.2) hd (fun H1 locs1 p1 d1 s1 => ?_)
  have e1 := wW_upA (cI := cI) (cB := cB) (ad := ad) (h := h) (a := a) hc hr hi.1
  simp only [Bool.false_eq_true, if_false] at e1 p1 d1
  rw [e1] at p1 d1
  exact kk p l e s m args below meth c dC dI cI cB ad A cells slots Qf C F H1 locs1 la ⟨p1, d1, s1, RM_upA w.2.2.2 hc ha⟩ hl (ok_tail (ok_tail (ok_tail ho)))
theorem nar_01 {a : Int} (ha : a = 0 ∨ a = 1) : vp_nar .boolean (I3 a) = I3 a := by
  rcases ha with rfl | rfl <;> decide
theorem e_bast {x n : Nat} {i a : Int} (hd : decode (mC M) pc = .ok (.bastore, 1)) (hc : kd[x]? = some (.inr (n, true))) (hi : 0 ≤ i ∧ i < n) (ha : a = 0 ∨ a = 1) (kk : E M SX Q (pc + 1) ls st (up h x i a)) : E M SX Q pc ls (vi a :: vi i :: vr x :: st) h := by
  intro p l e s m args below meth c dC dI cI cB ad A cells slots Qf C F H locs la w hl ho
  have hr : RI i := ok_head (ok_tail ho)
  refine va_zast C.1 C.2.1 C.2.2.2.2.2.1 w.1 w.2.1 w.2.2.1 x 1 (wW_get hc) rfl (in_I3 hr hi.1 hi.2) hd (fun H1 locs1 p1 d1 s1 => ?_)
  have e1 := wW_upA (cI := cI) (cB := cB) (ad := ad) (h := h) (a := a) hc hr hi.1
  rw [nar_01 ha] at p1 d1
  simp only [if_true] at e1 p1 d1
  rw [e1] at p1 d1
  exact kk p l e s m args below meth c dC dI cI cB ad A cells slots Qf C F H1 locs1 la ⟨p1, d1, s1, RM_upA w.2.2.2 hc ha⟩ hl (ok_tail (ok_tail (ok_tail ho)))
/-- the table ORDERS, the script -/
theorem e_ords {own : String} {idx : Nat} (hd : decode (mC M) pc = .ok (.getstatic idx, 3)) (ho' : (mY M).cls = own) (hw : Cond.fieldLink own idx "StarRight" "ORDERS" "[I" ∈ TB) (kk : E M SX Q (pc + 3) ls (vr 63 :: st) h) : E M SX Q pc ls st h := by
  intro p l e s m args below meth c dC dI cI cB ad A cells slots Qf C F H locs la w hl ho
  subst ho'
  exact va_gets C.1 C.2.1 C.2.2.2.2.2.2.1 w.2.2.1 C.2.2.2.1 (C.2.2.2.2.1 _ hw) (fun _ z => z) hd (kk p l e s m args below meth c dC dI cI cB ad A cells slots Qf C F H locs la w hl (ok_cons (show okv (vr _) from trivial) ho))
theorem e_ordlen (hd : decode (mC M) pc = .ok (.arraylength, 1)) (kk : E M SX Q (pc + 1) ls (vi 6 :: st) h) : E M SX Q pc ls (vr 63 :: st) h := by
  intro p l e s m args below meth c dC dI cI cB ad A cells slots Qf C F H locs la w hl ho
  exact va_tlen C.1 C.2.1 C.2.2.2.2.2.2.2.1 w.2.2.1 rfl hd (kk p l e s m args below meth c dC dI cI cB ad A cells slots Qf C F H locs la w hl (ok_cons (show RI 6 from ⟨by decide, by decide⟩) (ok_tail ho)))
def ord6 (i : Int) : Int := if i = 0 then 1 else if i = 1 then 1 else if i = 2 then 2 else if i = 3 then 6 else if i = 4 then 24 else 120
theorem e_ordld {i : Int} (hd : decode (mC M) pc = .ok (.iaload, 1)) (hi : 0 ≤ i ∧ i < 6) (kk : E M SX Q (pc + 1) ls (vi (ord6 i) :: st) h) : E M SX Q pc ls (vi i :: vr 63 :: st) h := by
  intro p l e s m args below meth c dC dI cI cB ad A cells slots Qf C F H locs la w hl ho
  have hr : RI i := ok_head ho
  have hv : RI (ord6 i) := by unfold ord6 RI; omega
  refine va_ti C.1 C.2.1 C.2.2.2.2.2.2.2.1 w.2.2.1 (in_I3 (n := 6) hr hi.1 hi.2) (v := .int (I3 (ord6 i))) ?_ hd (kk p l e s m args below meth c dC dI cI cB ad A cells slots Qf C F H locs la w hl (ok_cons (show okv (vi _) from hv) (ok_tail (ok_tail ho))))
  rw [I3_clamp hi.1 hr]
  rcases (show i = 0 ∨ i = 1 ∨ i = 2 ∨ i = 3 ∨ i = 4 ∨ i = 5 by omega) with rfl | rfl | rfl | rfl | rfl | rfl <;> rfl
theorem e_slen {L : Nat} {xs : Nat → Int32} (hd : decode (mC M) pc = .ok (.arraylength, 1)) (hX : SX = some (L, xs)) (hL : L < 2147483648) (kk : E M SX Q (pc + 1) ls (vi L :: st) h) : E M SX Q pc ls (vr 64 :: st) h := by
  intro p l e s m args below meth c dC dI cI cB ad A cells slots Qf C F H locs la w hl ho
  obtain ⟨h1, h2, h3⟩ := C.2.2.2.2.2.2.2.2.2.2.2 L xs hX
  exact va_slen C.1 C.2.1 h1 h2 h3 w.2.2.1 hd (kk p l e s m args below meth c dC dI cI cB ad A cells slots Qf C F H locs la w hl (ok_cons (show RI _ from ⟨by omega, by omega⟩) (ok_tail ho)))
theorem e_sld {L : Nat} {xs : Nat → Int32} {i : Int} (hd : decode (mC M) pc = .ok (.iaload, 1)) (hX : SX = some (L, xs)) (hi : 0 ≤ i ∧ i < L) (kk : E M SX Q (pc + 1) ls (vi (xs i.toNat).toInt :: st) h) : E M SX Q pc ls (vi i :: vr 64 :: st) h := by
  intro p l e s m args below meth c dC dI cI cB ad A cells slots Qf C F H locs la w hl ho
  obtain ⟨h1, h2, h3⟩ := C.2.2.2.2.2.2.2.2.2.2.2 L xs hX
  have hr : RI i := ok_head ho
  refine va_sld C.1 C.2.1 h1 h2 h3 w.2.2.1 (in_I3 hr hi.1 hi.2) hd ?_
  have k' := kk p l e s m args below meth c dC dI cI cB ad A cells slots Qf C F H locs la w hl (ok_cons (show okv (vi _) from RI_toInt _) (ok_tail (ok_tail ho)))
  rw [I3_clamp hi.1 hr, ← I3_toInt (xs i.toNat)]
  exact k'
end EM
end
section
/-! ===== contracts, calls, returns ===== -/
def okav (av : List MV) : Prop := ∀ v ∈ av, okv v
def cQ (M : MI) (Q : Option MV → Mem → Prop) (dC : Nat → ClassId) (dI : Nat → Nat → Nat) (cI cB : ClassId) (ad : Nat → Nat) (A : Nat → Prop) : Array Value → State → Outcome → State → Prop := fun _ st oc t =>
  (∃ (r : Option MV) (h' : Mem), oc = .returned (r.map (tv ad)) ∧ Q r h' ∧ okr (mT M) r ∧ va_P (dC, dI) vwCl (wW cI cB ad h') t.heap ∧ va_D A (wW cI cB ad h') ∧ RM h') ∧ va_F A st t
def cP (av : List MV) (h : Mem) (dC : Nat → ClassId) (dI : Nat → Nat → Nat) (cI cB : ClassId) (ad : Nat → Nat) (sz : Nat) : Array Value → State → Prop := va_Pc (av.map (tv ad)) (fun U => U.heap.size = sz ∧ va_P (dC, dI) vwCl (wW cI cB ad h) U.heap ∧ va_K (dC, dI) vwCl [(cI, .int), (cB, .boolean)] U ∧ va_D (fun _ => True) (wW cI cB ad h) ∧ RM h ∧ okav av ∧
  va_Z "StarRight" "ORDERS" "[I" (.ref (ad 63)) (va_A (wW cI cB ad h) sz) U U.heap ∧ va_T .int (ad 63) 6 ordF (va_A (wW cI cB ad h) sz) U U.heap ∧ ∀ w ∈ NW, va_Nw w U)
def mW (M : MI) : List Cond := .code (mY M) (mC M) (mL M) (mT M) :: TB
/-- a method's contract at the mini level: from memory h, with these arguments, it returns, and Q holds of answer and memory -/
def Cn (M : MI) (av : List MV) (h : Mem) (Q : Option MV → Mem → Prop) : Prop := ∀ (l : Launch) (dC : Nat → ClassId) (dI : Nat → Nat → Nat) (cI cB : ClassId) (ad : Nat → Nat) (sz : Nat),
  Met l (mY M) (mW M) (mR M) (cP av h dC dI cI cB ad sz) (cQ M Q dC dI cI cB ad (va_A (wW cI cB ad h) sz)) 0 0 (va_A (wW cI cB ad h) sz)
theorem Cn.mono {M : MI} {av : List MV} {h : Mem} {Q Q' : Option MV → Mem → Prop} (hc : Cn M av h Q) (hq : ∀ r h', Q r h' → Q' r h') : Cn M av h Q' := by
  have hsub : ∀ (dC : Nat → ClassId) (dI : Nat → Nat → Nat) (cI cB : ClassId) (ad : Nat → Nat) (A : Nat → Prop) (a : Array Value) (s : State) (o : Outcome) (t : State), cQ M Q dC dI cI cB ad A a s o t → cQ M Q' dC dI cI cB ad A a s o t := by
    intro dC dI cI cB ad A a s o t q
    obtain ⟨⟨r, h', q1, q2, q3⟩, q4⟩ := q
    exact ⟨⟨r, h', q1, hq r h' q2, q3⟩, q4⟩
  intro l dC dI cI cB ad sz
  have h1 := hc l dC dI cI cB ad sz
  unfold Met at h1 ⊢
  intro p e ha hcc hk s m args below hf happ hP hK
  obtain ⟨k, o, t1, t2, t3, t4⟩ := h1 p e ha hcc hk s m args below hf happ hP hK
  exact ⟨k, o, t1, t2, t3, hsub _ _ _ _ _ _ _ _ _ _ t4.1, t4.2⟩
theorem nw_tab : ∀ w ∈ NW, w.onTables = true := by
  intro w hw
  rcases nw_kind w hw with ⟨a, i, b, n, d, h, rfl⟩ | ⟨a, i, x, h, rfl⟩ <;> rfl
theorem nw_warm {s U : State} (hW : s.WarmedH U.vm) (h : ∀ w ∈ NW, va_Nw w s) : ∀ w ∈ NW, va_Nw w U := by
  intro w hw
  have h0 := h w hw
  rcases nw_kind w hw with ⟨a, i, b, n, d, x, rfl⟩ | ⟨a, i, x, y, rfl⟩
  · exact va_Nw.warmF hW h0
  · exact va_Nw.warmM hW h0
theorem cP_blind {av : List MV} {h : Mem} {dC : Nat → ClassId} {dI : Nat → Nat → Nat} {cI cB : ClassId} {ad : Nat → Nat} {sz : Nat} : FrameBlind (cP av h dC dI cI cB ad sz) := by
  intro a U g mk q
  obtain ⟨q0, q1, q2, q3, q4, q5, q6, q7, q8, q9⟩ := q
  exact ⟨q0, q1, q2, va_K.moved (u := U) (U := U.calling g mk a) (Vm.Alike.refl U.vm) q3, q4, q5, q6, va_Z.moved (u := U) (U := U.calling g mk a) (Vm.Alike.refl U.vm) q7, va_T.moved (u := U) (U := U.calling g mk a) (Vm.Alike.refl U.vm) q8, fun w hw => va_Nw.same (u := U) (U := U.calling g mk a) (nw_tab w hw) rfl (q9 w hw)⟩
theorem okr_ok {t : Option FieldType} {r : Option MV} (hr : okr t r) : ∀ v ∈ r.toList, okv v := by
  intro v hv
  match t, r, hr with
  | none, none, _ => simp at hv
  | some .int, some (.inl a), hr => simp at hv; subst hv; exact hr
  | some .boolean, some (.inl a), hr => simp at hv; subst hv; exact (show RI a from RI_01 hr)
  | some .long, some (.inr (.inl a)), hr => simp at hv; subst hv; exact hr
  | some (.object _), some (.inr (.inr _)), hr => simp at hv; subst hv; exact trivial
def catv : MV → Nat
  | .inr (.inl _) => 2
  | _ => 1
theorem cat_eq (ad : Nat → Nat) (v : MV) : (tv ad v).category = catv v := by
  match v with
  | .inl a => rfl
  | .inr (.inl a) => rfl
  | .inr (.inr none) => rfl
  | .inr (.inr (some k)) => rfl
theorem cat_sum (ad : Nat → Nat) (st : List MV) : ((st.map (tv ad)).map fun v => v.category).sum = (st.map catv).sum := by
  rw [List.map_map]
  congr 1
  exact List.map_congr_left (fun v _ => cat_eq ad v)
/-- what the tables must say of a method that is called on an object -/
def VLk (own : String) (idx : Nat) (M : MI) (n : Nat) : Prop := Cond.methodLink own idx (mY M) ∈ TB ∧ Cond.instanceMethod (mY M) ∈ TB ∧ Cond.selects (mY M).cls (mY M) (mY M) ∈ TB ∧ Cond.initialized (mY M).cls ∈ TB ∧ Cond.code (mY M) (mC M) (mL M) (mT M) ∈ TB ∧
  ((mY M).cls ≠ "java/lang/invoke/MethodHandle" ∧ (mY M).cls ≠ "java/lang/invoke/VarHandle" ∧ (parseMethodDescriptor (mY M).desc).map (fun d => d.parameters.length) = some n)
def SLk (own : String) (idx : Nat) (M : MI) (n : Nat) : Prop := Cond.methodLink own idx (mY M) ∈ TB ∧ Cond.static (mY M) ∈ TB ∧ Cond.initialized (mY M).cls ∈ TB ∧ Cond.code (mY M) (mC M) (mL M) (mT M) ∈ TB ∧
  ((mY M).cls ≠ "java/lang/invoke/MethodHandle" ∧ (mY M).cls ≠ "java/lang/invoke/VarHandle" ∧ (parseMethodDescriptor (mY M).desc).map (fun d => d.parameters.length) = some n)
/-- the callee's room fits -/
def rfit (M' M : MI) : Prop := (mR M').cells = 0 ∧ (mR M').slots = 0 ∧ (mR M').frames + 1 ≤ (mR M).frames ∧ 8 + (mL M' + 11) + (mR M').locals ≤ (mR M).locals
section EC
variable {M M' : MI} {SX : Option (Nat × (Nat → Int32))} {Q : Option MV → Mem → Prop} {pc : Nat} {ls : List (Option MV)} {st : List MV} {h : Mem}
theorem tb_goodIn {ws : List Cond} (hw : ∀ w ∈ ws, w ∈ TB) : GoodIn TB ws := fun w h => ⟨hw w h, tb_good w (hw w h)⟩
theorem tbA {s : State} {cI cB : ClassId} {ad : Nat → Nat} {A : Nat → Prop} {H : Heap} {locs : List Loc} (hD : va_D A (wW cI cB ad h)) (hS : va_S A s.heap H locs) (hA : ∀ q, s.heap.size ≤ q → A q) : ∀ q, va_A (wW cI cB ad h) H.size q → A q := by
  intro q hq
  rcases hq with ⟨k, e, hk⟩ | hq
  · exact hD.2 k _ hk
  · exact hA q (Nat.le_trans hS.1 hq)
theorem cP_at {s : State} {m : MethodId} {p : Program} {args : Array Value} {meth : Method} {c : Code} {dC : Nat → ClassId} {dI : Nat → Nat → Nat} {cI cB : ClassId} {ad : Nat → Nat} {A : Nat → Prop} {cells slots : Nat} {H : Heap} {locs : List Loc} {av : List MV}
    (C : Ctx M SX p s m args meth c dC dI cI cB ad A cells slots) (w : Wd s dC dI cI cB ad A h H locs) (hav : okav av) : ∀ U : State, U.heap = H → s.WarmedH U.vm → cP av h dC dI cI cB ad H.size (av.map (tv ad)).toArray U := by
  intro U hU hW
  have hf := tbA (h := h) w.2.1 w.2.2.1 C.2.2.2.2.2.2.2.2.1
  refine ⟨rfl, by rw [hU], by rw [hU]; exact w.1, va_K.moved hW.alike C.2.2.2.2.2.1, w.2.1.weaken (fun _ _ _ _ => trivial), w.2.2.2, hav, ?_, ?_, nw_warm hW C.2.2.2.2.2.2.2.2.2.2.1⟩
  · rw [hU]
    exact va_Z.moved hW.alike ((C.2.2.2.2.2.2.1.kept (fun a h1 h2 => w.2.2.1.2.1 a h1 h2)).narrow hf)
  · rw [hU]
    exact va_T.moved hW.alike ((C.2.2.2.2.2.2.2.1.kept (fun a h1 h2 => w.2.2.1.2.1 a h1 h2)).narrow hf)
/-- behind a call -/
theorem e_back {p : Program} {l : Launch} {e : Env} {s : State} {m : MethodId} {args : Array Value} {below : List Frame} {meth : Method} {c : Code} {dC : Nat → ClassId} {dI : Nat → Nat → Nat} {cI cB : ClassId} {ad : Nat → Nat} {A : Nat → Prop} {cells slots : Nat} {Qf : State → Prop} {H : Heap} {locs : List Loc} {la : Array Slot} {st0 : List Value} {r0 : Option MV} {h0 : Mem} {aa : Array Value}
    (C : Ctx M SX p s m args meth c dC dI cI cB ad A cells slots) (F : Fn M Q p l e s m args below meth c dC dI cI cB ad A cells slots Qf) (w : Wd s dC dI cI cB ad A h H locs) (hl : Lr ad (mL M) ls la) (ho : ∀ v ∈ st, okv v)
    (hr : va_Run p l e (mR M) s m args below meth c H locs cells slots 0 0 (F0 m pc la st0) (st.map (tv ad)) (cQ M' (fun r h' => r = r0 ∧ h' = h0) dC dI cI cB ad (va_A (wW cI cB ad h) H.size) aa) (va_A (wW cI cB ad h) H.size))
    (kk : E M SX Q (pc + 3) ls (r0.toList ++ st) h0) : W p l e (mR M) s m args below meth c H locs cells slots Qf (F0 m pc la st0) := by
  have hf := tbA (h := h) w.2.1 w.2.2.1 C.2.2.2.2.2.2.2.2.1
  intro T hT X
  obtain ⟨v, st₀, t, T', L, g0, X', hL, e1, e2, ⟨⟨r, h', hv, ⟨q1, q2⟩, hok, hp, hd, hm⟩, hz, hk⟩, sg⟩ := hr T hT X
  subst q1 q2
  cases hv
  rw [g0] at hz hk
  have w' : Wd s dC dI cI cB ad A h' T'.heap (locs ++ L) := by
    refine ⟨by rw [e1]; exact hp, hd.weaken (fun k q _ z => hf q.1 z), ⟨Nat.le_trans w.2.2.1.1 (by rw [e1]; exact hz), fun q h1 h2 => ?_, fun q hq => ?_⟩, hm⟩
    · rw [e1, hk q (Nat.lt_of_lt_of_le h1 w.2.2.1.1) (fun z => h2 (hf q z))]
      exact w.2.2.1.2.1 q h1 h2
    · rcases List.mem_append.mp hq with z | z
      · exact w.2.2.1.2.2 q z
      · exact hf _ (hL q z)
  have ho' : ∀ v ∈ r.toList ++ st, okv v := fun v hv => by
    rcases List.mem_append.mp hv with z | z
    · exact okr_ok hok v z
    · exact ho v z
  obtain ⟨t2, a1, b1⟩ := kk p l e s m args below meth c dC dI cI cB ad A cells slots Qf C F T'.heap (locs ++ L) la w' hl ho' T' rfl X'
  refine ⟨t2, sg t2 ?_, b1⟩
  have es : (r.toList ++ st).map (tv ad) = (r.map (tv ad)).toList ++ st.map (tv ad) := by cases r <;> simp
  rw [es] at a1
  exact a1
theorem e_callV {av : List MV} {x idx n ci N : Nat} {T : u_T} {fl : List FK} {own : String} {r0 : Option MV} {h0 : Mem} (hd : decode (mC M) pc = .ok (.invokevirtual idx, 3)) (ho' : (mY M).cls = own) (hL : VLk own idx M' n) (hn : av.length = n) (hfit : rfit M' M)
    (hc : kd[x]? = some (.inl (ci, fl))) (hci : vwCl[ci]? = some ((mY M').cls, T, N)) (hst : (st.map catv).sum ≤ 8) (hcn : Cn M' (vr x :: av) h (fun r h' => r = r0 ∧ h' = h0)) (kk : E M SX Q (pc + 3) ls (r0.toList ++ st) h0) : E M SX Q pc ls (av.reverse ++ vr x :: st) h := by
  intro p l e s m args below meth c dC dI cI cB ad A cells slots Qf C F H locs la w hl ho
  subst ho'
  obtain ⟨L1, L2, L3, L4, L5, L6⟩ := hL
  have hav : okav (vr x :: av) := fun v hv => by
    rcases List.mem_cons.mp hv with rfl | hv
    · exact trivial
    · exact ho v (List.mem_append_left _ (List.mem_reverse.mpr hv))
  have ho2 : ∀ v ∈ st, okv v := fun v hv => ho v (List.mem_append_right _ (List.mem_cons_of_mem _ hv))
  refine e_back (M' := M') (h := h) (st := st) (aa := (Value.ref (ad x) :: av.map (tv ad)).toArray) C F w hl ho2 ?_ kk
  refine va_runV (As := av.map (tv ad)) (rest := st.map (tv ad)) (C := (mY M').cls) (b := ad x) (index := idx) ⟨C.1, C.2.1, C.2.2.1, C.2.2.2.1, C.2.2.2.2.1⟩ (hcn l dC dI cI cB ad H.size)
    (cwV (ws' := TB) n C.2.2.2.2.1 (tb_goodIn (fun v hv => ?_)) rfl hfit.1 hfit.2.1 ⟨rfl, L6⟩ hfit.2.2)
    ⟨cP_blind, va_recv C.2.2.2.2.2.1 w.1 hci (wW_get hc), fun U hU hW => cP_at (av := vr x :: av) C w hav U hU hW⟩ rfl (by rw [List.length_map]; exact hn) hl.1 (by simp [tv]) ?_ hd ⟨C.2.2.2.2.2.2.2.2.2.1.1, C.2.2.2.2.2.2.2.2.2.1.2⟩
  · simp only [wsV, mW, List.mem_append, List.mem_cons, List.not_mem_nil, or_false] at hv
    rcases hv with (rfl | rfl | rfl | rfl) | rfl | hv
    · exact L1
    · exact L2
    · exact L3
    · exact L4
    · exact L5
    · exact hv
  · show 2 * 0 + _ ≤ 8
    rw [cat_sum]
    omega
theorem e_callS {av : List MV} {idx n : Nat} {own : String} {r0 : Option MV} {h0 : Mem} (hd : decode (mC M) pc = .ok (.invokestatic idx, 3)) (ho' : (mY M).cls = own) (hL : SLk own idx M' n) (hn : av.length = n) (hfit : rfit M' M)
    (hst : (st.map catv).sum ≤ 8) (hcn : Cn M' av h (fun r h' => r = r0 ∧ h' = h0)) (kk : E M SX Q (pc + 3) ls (r0.toList ++ st) h0) : E M SX Q pc ls (av.reverse ++ st) h := by
  intro p l e s m args below meth c dC dI cI cB ad A cells slots Qf C F H locs la w hl ho
  subst ho'
  obtain ⟨L1, L2, L4, L5, L6⟩ := hL
  have hav : okav av := fun v hv => ho v (List.mem_append_left _ (List.mem_reverse.mpr hv))
  have ho2 : ∀ v ∈ st, okv v := fun v hv => ho v (List.mem_append_right _ hv)
  refine e_back (M' := M') (h := h) (st := st) (aa := (av.map (tv ad)).toArray) C F w hl ho2 ?_ kk
  refine va_runS (As := av.map (tv ad)) (rest := st.map (tv ad)) (index := idx) ⟨C.1, C.2.1, C.2.2.1, C.2.2.2.1, C.2.2.2.2.1⟩ (hcn l dC dI cI cB ad H.size)
    (va_cwS (ws' := TB) n C.2.2.2.2.1 (tb_goodIn (fun v hv => ?_)) rfl hfit.1 hfit.2.1 L6 hfit.2.2)
    ⟨cP_blind, fun U hU hW => cP_at (av := av) C w hav U hU hW⟩ rfl (by rw [List.length_map]; exact hn) hl.1 (by simp) ?_ hd ⟨C.2.2.2.2.2.2.2.2.2.1.1, C.2.2.2.2.2.2.2.2.2.1.2⟩
  · simp only [va_wsS, mW, List.mem_append, List.mem_cons, List.not_mem_nil, or_false] at hv
    rcases hv with (rfl | rfl | rfl) | rfl | hv
    · exact L1
    · exact L2
    · exact L4
    · exact L5
    · exact hv
  · show 2 * 0 + _ ≤ 8
    rw [cat_sum]
    omega
/-- a return -/
theorem e_ret {r : Option MV} (hd : decode (mC M) pc = .ok (retI r, 1)) (hok : (∀ v ∈ r.toList, okv v) → okr (mT M) r) (hq : Q r h) : E M SX Q pc ls r.toList h := by
  intro p l e s m args below meth c dC dI cI cB ad A cells slots Qf C F H locs la w hl ho
  exact F r h H locs pc la hq w (hok ho) hd
theorem e_ireturn {a : Int} (hd : decode (mC M) pc = .ok (.ireturn, 1)) (ht : mT M = some .int) (hq : Q (some (vi a)) h) : E M SX Q pc ls [vi a] h :=
  e_ret (r := some (vi a)) hd (fun ho => by rw [ht]; exact ho (vi a) (by simp)) hq
theorem e_zreturn {a : Int} (hd : decode (mC M) pc = .ok (.ireturn, 1)) (ht : mT M = some .boolean) (ha : a = 0 ∨ a = 1) (hq : Q (some (vi a)) h) : E M SX Q pc ls [vi a] h :=
  e_ret (r := some (vi a)) hd (fun _ => by rw [ht]; exact ha) hq
theorem e_lreturn {a : Int} (hd : decode (mC M) pc = .ok (.lreturn, 1)) (ht : mT M = some .long) (hq : Q (some (vl a)) h) : E M SX Q pc ls [vl a] h :=
  e_ret (r := some (vl a)) hd (fun ho => by rw [ht]; exact ho (vl a) (by simp)) hq
theorem e_return (hd : decode (mC M) pc = .ok (.return_, 1)) (ht : mT M = none) (hq : Q none h) : E M SX Q pc ls [] h :=
  e_ret (r := none) hd (fun _ => by rw [ht]; exact trivial) hq
theorem e_areturn {x : Nat} {nm : String} (hd : decode (mC M) pc = .ok (.areturn, 1)) (ht : mT M = some (.object nm)) (hq : Q (some (vr x)) h) : E M SX Q pc ls [vr x] h :=
  e_ret (r := some (vr x)) hd (fun _ => by rw [ht]; exact trivial) hq
theorem e_areturnN {nm : String} (hd : decode (mC M) pc = .ok (.areturn, 1)) (ht : mT M = some (.object nm)) (hq : Q (some vn) h) : E M SX Q pc ls [vn] h :=
  e_ret (r := some vn) hd (fun _ => by rw [ht]; exact trivial) hq
theorem e_mono {Q' : Option MV → Mem → Prop} (hq : ∀ r h', Q' r h' → Q r h') (k : E M SX Q' pc ls st h) : E M SX Q pc ls st h := by
  intro p l e s m args below meth c dC dI cI cB ad A cells slots Qf C F H locs la w hl ho
  exact k p l e s m args below meth c dC dI cI cB ad A cells slots Qf C (fun r h' H' locs' pc' ls' q => F r h' H' locs' pc' ls' (hq r h' q)) H locs la w hl ho
/-- a method's locals at its entry -/
def lsOf : List MV → List (Option MV)
  | [] => []
  | (.inr (.inl a)) :: r => some (vl a) :: none :: lsOf r
  | v :: r => some v :: lsOf r
theorem lsOf_in (ad : Nat → Nat) : ∀ (av : List MV) (k i : Nat) (v : MV), (lsOf av)[i]? = some (some v) → (k + i, tv ad v) ∈ lv_args k (av.map (tv ad)) ∧ v ∈ av
  | [], k, i, v, h => by simp [lsOf] at h
  | (.inr (.inl a)) :: r, k, 0, v, h => by
    simp [lsOf] at h; subst h
    exact ⟨List.mem_cons_self, List.mem_cons_self⟩
  | (.inr (.inl a)) :: r, k, 1, v, h => by simp [lsOf] at h
  | (.inr (.inl a)) :: r, k, i + 2, v, h => by
    have h' : (lsOf r)[i]? = some (some v) := by simpa [lsOf] using h
    obtain ⟨h1, h2⟩ := lsOf_in ad r (k + 2) i v h'
    refine ⟨List.mem_cons_of_mem _ ?_, List.mem_cons_of_mem _ h2⟩
    show _ ∈ lv_args (if (tv ad (vl a)).category = 2 then k + 2 else k + 1) _
    rw [if_pos (by rw [cat_eq]; simp [catv]), show k + (i + 2) = k + 2 + i by omega]
    exact h1
  | (.inl a) :: r, k, 0, v, h => by
    simp [lsOf] at h; subst h
    exact ⟨List.mem_cons_self, List.mem_cons_self⟩
  | (.inl a) :: r, k, i + 1, v, h => by
    have h' : (lsOf r)[i]? = some (some v) := by simpa [lsOf] using h
    obtain ⟨h1, h2⟩ := lsOf_in ad r (k + 1) i v h'
    refine ⟨List.mem_cons_of_mem _ ?_, List.mem_cons_of_mem _ h2⟩
    show _ ∈ lv_args (if (tv ad (vi a)).category = 2 then k + 2 else k + 1) _
    rw [if_neg (by rw [cat_eq]; simp [catv]), show k + (i + 1) = k + 1 + i by omega]
    exact h1
  | (.inr (.inr o)) :: r, k, 0, v, h => by
    simp [lsOf] at h; subst h
    exact ⟨List.mem_cons_self, List.mem_cons_self⟩
  | (.inr (.inr o)) :: r, k, i + 1, v, h => by
    have h' : (lsOf r)[i]? = some (some v) := by simpa [lsOf] using h
    obtain ⟨h1, h2⟩ := lsOf_in ad r (k + 1) i v h'
    refine ⟨List.mem_cons_of_mem _ ?_, List.mem_cons_of_mem _ h2⟩
    show _ ∈ lv_args (if (tv ad (.inr (.inr o))).category = 2 then k + 2 else k + 1) _
    rw [if_neg (by rw [cat_eq]; simp [catv]), show k + (i + 1) = k + 1 + i by omega]
    exact h1
theorem Cn_of {av : List MV} (hpl : plainName (mY M).cls = true) (hlen : ∀ ad : Nat → Nat, (lg_sl (av.map (tv ad))).length ≤ mL M) (hrc : (mR M).cells = 0 ∧ (mR M).slots = 0) (k : E M none Q 0 (lsOf av) [] h) : Cn M av h Q := by
  intro l dC dI cI cB ad sz
  refine Met.ofW (cc := mC M) (maxL := mL M) (ret := mT M) (ws' := TB) hpl rfl ?_
  intro p e s m args below meth c s₁ B hml hv
  obtain ⟨rfl, hsz, hP, hK, hD, hM, hav, hZ, hT, hN⟩ := hv
  subst hsz
  have hts : ∀ w ∈ mW M, w.before (av.map (tv ad)).toArray s = true := atoms_spec (ws := mW M) B.pre
  have C : Ctx M none p s m (av.map (tv ad)).toArray meth c dC dI cI cB ad (va_A (wW cI cB ad h) s.heap.size) 0 0 :=
    ⟨B.exec, B.bytes, hml, findClass_of_methodNamed B.named, fun w hw => hts w (List.mem_cons_of_mem _ hw), hK, hZ, hT, fun q hq => Or.inr hq, ⟨by rw [hrc.1]; exact Nat.le_refl 0, by rw [hrc.2]; exact Nat.le_refl 0⟩, hN, fun L xs q => by cases q⟩
  have hlocks := B.notSynchronized
  have hret := B.returns
  have F : Fn M Q p l e s m (av.map (tv ad)).toArray below meth c dC dI cI cB ad (va_A (wW cI cB ad h) s.heap.size) 0 0 (MQ below (cQ M Q dC dI cI cB ad (va_A (wW cI cB ad h) s.heap.size)) (av.map (tv ad)).toArray s 0 0 (va_A (wW cI cB ad h) s.heap.size)) := by
    intro r h' H locs pc la hq w hok hd
    have fin : ∀ t : State, t.heap = H → s.WarmedH t.vm → cQ M Q dC dI cI cB ad (va_A (wW cI cB ad h) s.heap.size) (av.map (tv ad)).toArray s (.returned (r.map (tv ad))) t :=
      fun t ht _ => ⟨⟨r, h', rfl, hq, hok, by rw [ht]; exact w.1, w.2.1, w.2.2.2⟩, w.2.2.1.F ht⟩
    generalize hmt : mT M = T0 at hok hret
    match T0, r, hok with
    | none, none, _ => exact W.vret C.1 C.2.1 hret fin w.2.2.1.2.2 hd
    | some .int, some (.inl a), _ => exact W.iret C.1 C.2.1 hret fin w.2.2.1.2.2 hd
    | some .boolean, some (.inl a), hok =>
      refine W.zret C.1 C.2.1 hret ?_ fin w.2.2.1.2.2 hd
      rcases hok with rfl | rfl <;> decide
    | some .long, some (.inr (.inl a)), _ => exact W.lret C.1 C.2.1 hret fin w.2.2.1.2.2 hd
    | some (.object nm), some (.inr (.inr none)), _ => exact W.aret C.1 C.2.1 hret (Or.inl ⟨nm, rfl⟩) (Or.inl rfl) fin w.2.2.1.2.2 hd
    | some (.object nm), some (.inr (.inr (some x))), _ => exact W.aret C.1 C.2.1 hret (Or.inl ⟨nm, rfl⟩) (Or.inr ⟨_, rfl⟩) fin w.2.2.1.2.2 hd
  have hl0 := lv_entry (av.map (tv ad)) (n := mL M) (hlen ad)
  rw [lg_entry_eq]
  refine k p l e s m (av.map (tv ad)).toArray below meth c dC dI cI cB ad _ 0 0 _ C F s.heap [] _ ⟨hP, hD.self, va_S.rf, hM⟩ ⟨hl0.1, hl0.2.1, fun i v hi => ?_⟩ (fun v hv => by cases hv)
  obtain ⟨h1, h2⟩ := lsOf_in ad av 0 i v hi
  rw [Nat.zero_add] at h1
  exact ⟨hl0.2.2 _ h1, hav v h2⟩
end EC
end
section
theorem RM_cp {h : Mem} {x y n0 n1 : Nat} {sp dp n : Int} (hM : RM h) (hx : kd[x]? = some (.inr (n0, false))) (hy : kd[y]? = some (.inr (n1, false))) (h1 : 0 ≤ sp) (h4 : sp + n ≤ n0) : RM (cp h x sp y dp n) := by
  intro i q hq
  by_cases hi : i = y
  · subst hi
    rw [hy] at hq
    cases hq
    intro k k1 k2
    have h0 := hM i _ hy k k1 k2
    simp only [Bool.false_eq_true, if_false] at h0 ⊢
    unfold cp
    split
    · have := hM x _ hx (sp + (k - dp)) (by omega) (by omega)
      simpa using this
    · exact h0
  · have e : cp h x sp y dp n i = h i := by
      funext k
      simp [cp, hi]
    rw [e]
    exact hM i q hq
theorem wW_cp {h : Mem} {cI cB : ClassId} {ad : Nat → Nat} {x y n0 n1 : Nat} {sp dp n : Int} (hy : kd[y]? = some (.inr (n1, false))) (h1 : 0 ≤ sp ∧ RI sp) (h2 : 0 ≤ dp ∧ RI dp) (h3 : 0 ≤ n ∧ RI n) :
    (wW cI cB ad h).set y (ad y, .inl (cI, n1, .inl (va_cpy (fun j => I3 (h x (j : Int))) (fun j => I3 (h y (j : Int))) (I3 sp).toNatClampNeg (I3 dp).toNatClampNeg (I3 n).toNatClampNeg))) = wW cI cB ad (cp h x sp y dp n) := by
  have e : cp h x sp y dp n = fun c => if c = y then (fun k => if dp ≤ k ∧ k < dp + n then h x (sp + (k - dp)) else h y k) else h c := by
    funext c k
    by_cases hc : c = y
    · subst hc; simp [cp]
    · simp [cp, hc]
  rw [e, ← wW_set hy]
  congr 1
  show (_, Sum.inl (_, n1, Sum.inl _)) = (_, Sum.inl (_, n1, Sum.inl _))
  congr 4
  congr 1
  funext j
  rw [I3_clamp h1.1 h1.2, I3_clamp h2.1 h2.2, I3_clamp h3.1 h3.2]
  unfold va_cpy
  dsimp only
  by_cases c : dp.toNat ≤ j ∧ j < dp.toNat + n.toNat
  · rw [if_pos c, if_pos (by omega)]
    congr 2
    omega
  · rw [if_neg c, if_neg (by omega)]
section EA
variable {M M' : MI} {SX : Option (Nat × (Nat → Int32))} {Q : Option MV → Mem → Prop} {pc : Nat} {ls : List (Option MV)} {st : List MV} {h : Mem}
theorem e_acopy {own : String} {idx x y n0 n1 : Nat} {sp dp n : Int} (hd : decode (mC M) pc = .ok (.invokestatic idx, 3)) (ho' : (mY M).cls = own) (hw : Cond.methodLink own idx arraycopyName ∈ TB) (hw2 : Cond.native arraycopyName ∈ TB ∧ Cond.static arraycopyName ∈ TB ∧ Cond.initialized "java/lang/System" ∈ TB)
    (hx : kd[x]? = some (.inr (n0, false))) (hy : kd[y]? = some (.inr (n1, false))) (h1 : 0 ≤ sp) (h2 : 0 ≤ dp) (h3 : 0 ≤ n) (h4 : sp + n ≤ n0) (h5 : dp + n ≤ n1) (hfr : 1 ≤ (mR M).frames) (hlo : (st.map catv).sum + 18 ≤ (mR M).locals)
    (kk : E M SX Q (pc + 3) ls st (cp h x sp y dp n)) : E M SX Q pc ls (vi n :: vi dp :: vr y :: vi sp :: vr x :: st) h := by
  intro p l e s m args below meth c dC dI cI cB ad A cells slots Qf C F H locs la w hl ho
  subst ho'
  have rn : RI n := ok_head ho
  have rd : RI dp := ok_head (ok_tail ho)
  have rs : RI sp := ok_head (ok_tail (ok_tail (ok_tail ho)))
  have nn : ∀ {z : Int}, 0 ≤ z → RI z → ¬ I3 z < 0 := fun h0 hz q => absurd ((z_lt hz).mp q) (by omega)
  refine va_copyi C.1 C.2.1 (by rw [C.2.2.1]; exact hl.1.symm) C.2.2.2.1 (C.2.2.2.2.1 _ hw) (C.2.2.2.2.1 _ hw2.1) (C.2.2.2.2.1 _ hw2.2.1) (C.2.2.2.2.1 _ hw2.2.2) C.2.2.2.2.2.1 w.1 w.2.1 w.2.2.1 x y 0 0 (wW_get hx) (wW_get hy) rfl rfl rfl (nn h1 rs) (nn h2 rd) (nn h3 rn) (by rw [I3_clamp h1 rs, I3_clamp h3 rn]; omega) (by rw [I3_clamp h2 rd, I3_clamp h3 rn]; omega) (fun i _ => rfl) hfr ?_ hd (fun H1 locs1 p1 d1 s1 => ?_)
  · rw [cat_sum]
    have : nativeFrameWords "java/lang/System" "arraycopy" 5 = 7 := by decide
    rw [this]
    exact hlo
  · have e1 := wW_cp (h := h) (cI := cI) (cB := cB) (ad := ad) (x := x) (n0 := n0) hy ⟨h1, rs⟩ ⟨h2, rd⟩ ⟨h3, rn⟩
    simp only [Bool.false_eq_true, if_false] at p1 d1
    rw [e1] at p1 d1
    exact kk p l e s m args below meth c dC dI cI cB ad A cells slots Qf C F H1 locs1 la ⟨p1, d1, s1, RM_cp w.2.2.2 hx hy h1 h4⟩ hl (ok_tail (ok_tail (ok_tail (ok_tail (ok_tail ho)))))
end EA
/-! ===== words of the printed functions ===== -/
/-- a guard: what comes, if it holds -/
def gd {α : Type} (c : Prop) [Decidable c] (k : Option α) : Option α := if c then k else none
theorem gd_some {α : Type} {c : Prop} [Decidable c] {k : Option α} {r : α} (h : gd c k = some r) : c ∧ k = some r := by
  unfold gd at h
  split at h
  · exact ⟨by assumption, h⟩
  · cases h
theorem gd_t {α : Type} {c : Prop} [Decidable c] (k : Option α) (h : c) : gd c k = k := if_pos h
def bd {α β : Type} (x : Option α) (k : α → Option β) : Option β := match x with
  | none => none
  | some a => k a
theorem bd_some {α β : Type} {x : Option α} {k : α → Option β} {r : β} (h : bd x k = some r) : ∃ a, x = some a ∧ k a = some r := by
  cases x with
  | none => cases h
  | some a => exact ⟨a, rfl, h⟩
theorem bd_t {α β : Type} {x : Option α} {a : α} (k : α → Option β) (h : x = some a) : bd x k = k a := by rw [h]; rfl
end
