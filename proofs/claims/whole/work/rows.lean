section
/-- a private method of a class that the tables say can be made, by its rows of tables_1 -/
def lw_okq (q : MethodName × Nat) : Prop := (q.1.cls ≠ "java/lang/invoke/MethodHandle" ∧ q.1.cls ≠ "java/lang/invoke/VarHandle") ∧ Cond.instantiable q.1.cls q.2 ∈ tables_1 ∧ Cond.privateMethod q.1 ∈ tables_1 ∧ Cond.instanceMethod q.1 ∈ tables_1
theorem lw_p0 : lw_okq (⟨"WhoCalls$Door", "copyAnswers", "(II)V"⟩, 5) := ⟨⟨by decide +kernel, by decide +kernel⟩, List.mem_of_getElem? (i := 25) (by decide +kernel), List.mem_of_getElem? (i := 144) (by decide +kernel), List.mem_of_getElem? (i := 145) (by decide +kernel)⟩
theorem lw_p1 : lw_okq (⟨"WhoCalls", "doorAt", "(I)LWhoCalls$Door;"⟩, 8) := ⟨⟨by decide +kernel, by decide +kernel⟩, List.mem_of_getElem? (i := 12) (by decide +kernel), List.mem_of_getElem? (i := 155) (by decide +kernel), List.mem_of_getElem? (i := 156) (by decide +kernel)⟩
theorem lw_p2 : lw_okq (⟨"WhoCalls", "isVersion", "(I)Z"⟩, 8) := ⟨⟨by decide +kernel, by decide +kernel⟩, List.mem_of_getElem? (i := 12) (by decide +kernel), List.mem_of_getElem? (i := 165) (by decide +kernel), List.mem_of_getElem? (i := 166) (by decide +kernel)⟩
theorem lw_p3 : lw_okq (⟨"WhoCalls$Door", "answerTo", "(II)I"⟩, 5) := ⟨⟨by decide +kernel, by decide +kernel⟩, List.mem_of_getElem? (i := 25) (by decide +kernel), List.mem_of_getElem? (i := 169) (by decide +kernel), List.mem_of_getElem? (i := 170) (by decide +kernel)⟩
theorem lw_p4 : lw_okq (⟨"WhoCalls$Door", "differing", "(II)I"⟩, 5) := ⟨⟨by decide +kernel, by decide +kernel⟩, List.mem_of_getElem? (i := 25) (by decide +kernel), List.mem_of_getElem? (i := 177) (by decide +kernel), List.mem_of_getElem? (i := 178) (by decide +kernel)⟩
theorem lw_p5 : lw_okq (⟨"WhoCalls", "houseAt", "(I)LWhoCalls$House;"⟩, 8) := ⟨⟨by decide +kernel, by decide +kernel⟩, List.mem_of_getElem? (i := 12) (by decide +kernel), List.mem_of_getElem? (i := 186) (by decide +kernel), List.mem_of_getElem? (i := 187) (by decide +kernel)⟩
theorem lw_p6 : lw_okq (⟨"WhoCalls$Text", "addCall", "(II)I"⟩, 7) := ⟨⟨by decide +kernel, by decide +kernel⟩, List.mem_of_getElem? (i := 61) (by decide +kernel), List.mem_of_getElem? (i := 194) (by decide +kernel), List.mem_of_getElem? (i := 195) (by decide +kernel)⟩
theorem lw_p7 : lw_okq (⟨"WhoCalls$Text", "added", "(IIIII)I"⟩, 7) := ⟨⟨by decide +kernel, by decide +kernel⟩, List.mem_of_getElem? (i := 61) (by decide +kernel), List.mem_of_getElem? (i := 198) (by decide +kernel), List.mem_of_getElem? (i := 199) (by decide +kernel)⟩
theorem lw_p8 : lw_okq (⟨"WhoCalls$Text", "has", "(I)Z"⟩, 7) := ⟨⟨by decide +kernel, by decide +kernel⟩, List.mem_of_getElem? (i := 61) (by decide +kernel), List.mem_of_getElem? (i := 206) (by decide +kernel), List.mem_of_getElem? (i := 207) (by decide +kernel)⟩
theorem lw_p9 : lw_okq (⟨"WhoCalls$Text", "addWrap", "(III)I"⟩, 7) := ⟨⟨by decide +kernel, by decide +kernel⟩, List.mem_of_getElem? (i := 61) (by decide +kernel), List.mem_of_getElem? (i := 211) (by decide +kernel), List.mem_of_getElem? (i := 212) (by decide +kernel)⟩
theorem lw_p10 : lw_okq (⟨"WhoCalls$Text", "addSplit", "(IIII)I"⟩, 7) := ⟨⟨by decide +kernel, by decide +kernel⟩, List.mem_of_getElem? (i := 61) (by decide +kernel), List.mem_of_getElem? (i := 219) (by decide +kernel), List.mem_of_getElem? (i := 220) (by decide +kernel)⟩
theorem lw_p11 : lw_okq (⟨"WhoCalls$Text", "stepsOf", "(I)I"⟩, 7) := ⟨⟨by decide +kernel, by decide +kernel⟩, List.mem_of_getElem? (i := 61) (by decide +kernel), List.mem_of_getElem? (i := 231) (by decide +kernel), List.mem_of_getElem? (i := 232) (by decide +kernel)⟩
theorem lw_p12 : lw_okq (⟨"WhoCalls$Text", "seenBy", "(II)I"⟩, 7) := ⟨⟨by decide +kernel, by decide +kernel⟩, List.mem_of_getElem? (i := 61) (by decide +kernel), List.mem_of_getElem? (i := 242) (by decide +kernel), List.mem_of_getElem? (i := 243) (by decide +kernel)⟩
theorem lw_p13 : lw_okq (⟨"WhoCalls$Text", "used", "(I)I"⟩, 7) := ⟨⟨by decide +kernel, by decide +kernel⟩, List.mem_of_getElem? (i := 61) (by decide +kernel), List.mem_of_getElem? (i := 250) (by decide +kernel), List.mem_of_getElem? (i := 251) (by decide +kernel)⟩
theorem lw_p14 : lw_okq (⟨"WhoCalls$House", "addCount", "(IIII)V"⟩, 6) := ⟨⟨by decide +kernel, by decide +kernel⟩, List.mem_of_getElem? (i := 55) (by decide +kernel), List.mem_of_getElem? (i := 272) (by decide +kernel), List.mem_of_getElem? (i := 273) (by decide +kernel)⟩
theorem lw_p15 : lw_okq (⟨"WhoCalls$Door", "isShutOn", "(I)Z"⟩, 5) := ⟨⟨by decide +kernel, by decide +kernel⟩, List.mem_of_getElem? (i := 25) (by decide +kernel), List.mem_of_getElem? (i := 276) (by decide +kernel), List.mem_of_getElem? (i := 277) (by decide +kernel)⟩
def lw_privs_1 : List (MethodName × Nat) := [(⟨"WhoCalls$Door", "copyAnswers", "(II)V"⟩, 5), (⟨"WhoCalls", "doorAt", "(I)LWhoCalls$Door;"⟩, 8), (⟨"WhoCalls", "isVersion", "(I)Z"⟩, 8), (⟨"WhoCalls$Door", "answerTo", "(II)I"⟩, 5), (⟨"WhoCalls$Door", "differing", "(II)I"⟩, 5), (⟨"WhoCalls", "houseAt", "(I)LWhoCalls$House;"⟩, 8), (⟨"WhoCalls$Text", "addCall", "(II)I"⟩, 7), (⟨"WhoCalls$Text", "added", "(IIIII)I"⟩, 7), (⟨"WhoCalls$Text", "has", "(I)Z"⟩, 7), (⟨"WhoCalls$Text", "addWrap", "(III)I"⟩, 7), (⟨"WhoCalls$Text", "addSplit", "(IIII)I"⟩, 7), (⟨"WhoCalls$Text", "stepsOf", "(I)I"⟩, 7), (⟨"WhoCalls$Text", "seenBy", "(II)I"⟩, 7), (⟨"WhoCalls$Text", "used", "(I)I"⟩, 7), (⟨"WhoCalls$House", "addCount", "(IIII)V"⟩, 6), (⟨"WhoCalls$Door", "isShutOn", "(I)Z"⟩, 5)]
theorem lw_r1 : ∀ q ∈ lw_privs_1, lw_okq q := List.forall_mem_cons.mpr ⟨lw_p0, List.forall_mem_cons.mpr ⟨lw_p1, List.forall_mem_cons.mpr ⟨lw_p2, List.forall_mem_cons.mpr ⟨lw_p3, List.forall_mem_cons.mpr ⟨lw_p4, List.forall_mem_cons.mpr ⟨lw_p5, List.forall_mem_cons.mpr ⟨lw_p6, List.forall_mem_cons.mpr ⟨lw_p7, List.forall_mem_cons.mpr ⟨lw_p8, List.forall_mem_cons.mpr ⟨lw_p9, List.forall_mem_cons.mpr ⟨lw_p10, List.forall_mem_cons.mpr ⟨lw_p11, List.forall_mem_cons.mpr ⟨lw_p12, List.forall_mem_cons.mpr ⟨lw_p13, List.forall_mem_cons.mpr ⟨lw_p14, List.forall_mem_cons.mpr ⟨lw_p15, fun _ h => absurd h List.not_mem_nil⟩⟩⟩⟩⟩⟩⟩⟩⟩⟩⟩⟩⟩⟩⟩⟩
theorem lw_p16 : lw_okq (⟨"WhoCalls$House", "counted", "(III)I"⟩, 6) := ⟨⟨by decide +kernel, by decide +kernel⟩, List.mem_of_getElem? (i := 55) (by decide +kernel), List.mem_of_getElem? (i := 287) (by decide +kernel), List.mem_of_getElem? (i := 288) (by decide +kernel)⟩
theorem lw_p17 : lw_okq (⟨"WhoCalls$House", "isSilent", "()Z"⟩, 6) := ⟨⟨by decide +kernel, by decide +kernel⟩, List.mem_of_getElem? (i := 55) (by decide +kernel), List.mem_of_getElem? (i := 295) (by decide +kernel), List.mem_of_getElem? (i := 296) (by decide +kernel)⟩
theorem lw_p18 : lw_okq (⟨"WhoCalls", "silentHouses", "()I"⟩, 8) := ⟨⟨by decide +kernel, by decide +kernel⟩, List.mem_of_getElem? (i := 12) (by decide +kernel), List.mem_of_getElem? (i := 303) (by decide +kernel), List.mem_of_getElem? (i := 304) (by decide +kernel)⟩
theorem lw_p19 : lw_okq (⟨"WhoCalls$Text", "someSeesOnly", "(II)Z"⟩, 7) := ⟨⟨by decide +kernel, by decide +kernel⟩, List.mem_of_getElem? (i := 61) (by decide +kernel), List.mem_of_getElem? (i := 311) (by decide +kernel), List.mem_of_getElem? (i := 312) (by decide +kernel)⟩
theorem lw_p20 : lw_okq (⟨"WhoCalls", "ruleAt", "(I)LWhoCalls$Rule;"⟩, 8) := ⟨⟨by decide +kernel, by decide +kernel⟩, List.mem_of_getElem? (i := 12) (by decide +kernel), List.mem_of_getElem? (i := 345) (by decide +kernel), List.mem_of_getElem? (i := 346) (by decide +kernel)⟩
theorem lw_p21 : lw_okq (⟨"WhoCalls", "isHeld", "(LWhoCalls$Rule;II)Z"⟩, 8) := ⟨⟨by decide +kernel, by decide +kernel⟩, List.mem_of_getElem? (i := 12) (by decide +kernel), List.mem_of_getElem? (i := 349) (by decide +kernel), List.mem_of_getElem? (i := 350) (by decide +kernel)⟩
theorem lw_p22 : lw_okq (⟨"WhoCalls$Door", "isPromised", "(I)Z"⟩, 5) := ⟨⟨by decide +kernel, by decide +kernel⟩, List.mem_of_getElem? (i := 25) (by decide +kernel), List.mem_of_getElem? (i := 373) (by decide +kernel), List.mem_of_getElem? (i := 374) (by decide +kernel)⟩
theorem lw_p23 : lw_okq (⟨"WhoCalls$Door", "latestPromise", "()I"⟩, 5) := ⟨⟨by decide +kernel, by decide +kernel⟩, List.mem_of_getElem? (i := 25) (by decide +kernel), List.mem_of_getElem? (i := 377) (by decide +kernel), List.mem_of_getElem? (i := 378) (by decide +kernel)⟩
theorem lw_p24 : lw_okq (⟨"WhoCalls$House", "calledAround", "(II)Z"⟩, 6) := ⟨⟨by decide +kernel, by decide +kernel⟩, List.mem_of_getElem? (i := 55) (by decide +kernel), List.mem_of_getElem? (i := 397) (by decide +kernel), List.mem_of_getElem? (i := 398) (by decide +kernel)⟩
theorem lw_p25 : lw_okq (⟨"WhoCalls", "hoursWithout", "(I)I"⟩, 8) := ⟨⟨by decide +kernel, by decide +kernel⟩, List.mem_of_getElem? (i := 12) (by decide +kernel), List.mem_of_getElem? (i := 425) (by decide +kernel), List.mem_of_getElem? (i := 426) (by decide +kernel)⟩
theorem lw_p26 : lw_okq (⟨"WhoCalls", "isKept", "(LWhoCalls$Door;I)Z"⟩, 8) := ⟨⟨by decide +kernel, by decide +kernel⟩, List.mem_of_getElem? (i := 12) (by decide +kernel), List.mem_of_getElem? (i := 429) (by decide +kernel), List.mem_of_getElem? (i := 430) (by decide +kernel)⟩
theorem lw_p27 : lw_okq (⟨"WhoCalls", "shutDoors", "()I"⟩, 8) := ⟨⟨by decide +kernel, by decide +kernel⟩, List.mem_of_getElem? (i := 12) (by decide +kernel), List.mem_of_getElem? (i := 437) (by decide +kernel), List.mem_of_getElem? (i := 438) (by decide +kernel)⟩
theorem lw_p28 : lw_okq (⟨"WhoCallsModel", "isVersion", "(I)Z"⟩, 31) := ⟨⟨by decide +kernel, by decide +kernel⟩, List.mem_of_getElem? (i := 445) (by decide +kernel), List.mem_of_getElem? (i := 559) (by decide +kernel), List.mem_of_getElem? (i := 560) (by decide +kernel)⟩
theorem lw_p29 : lw_okq (⟨"WhoCallsModel", "differs", "(III)I"⟩, 31) := ⟨⟨by decide +kernel, by decide +kernel⟩, List.mem_of_getElem? (i := 445) (by decide +kernel), List.mem_of_getElem? (i := 567) (by decide +kernel), List.mem_of_getElem? (i := 568) (by decide +kernel)⟩
theorem lw_p30 : lw_okq (⟨"WhoCallsModel", "comes", "(IIIIII)I"⟩, 31) := ⟨⟨by decide +kernel, by decide +kernel⟩, List.mem_of_getElem? (i := 445) (by decide +kernel), List.mem_of_getElem? (i := 585) (by decide +kernel), List.mem_of_getElem? (i := 586) (by decide +kernel)⟩
theorem lw_p31 : lw_okq (⟨"WhoCallsModel", "isLine", "(II)Z"⟩, 31) := ⟨⟨by decide +kernel, by decide +kernel⟩, List.mem_of_getElem? (i := 445) (by decide +kernel), List.mem_of_getElem? (i := 593) (by decide +kernel), List.mem_of_getElem? (i := 594) (by decide +kernel)⟩
def lw_privs_2 : List (MethodName × Nat) := [(⟨"WhoCalls$House", "counted", "(III)I"⟩, 6), (⟨"WhoCalls$House", "isSilent", "()Z"⟩, 6), (⟨"WhoCalls", "silentHouses", "()I"⟩, 8), (⟨"WhoCalls$Text", "someSeesOnly", "(II)Z"⟩, 7), (⟨"WhoCalls", "ruleAt", "(I)LWhoCalls$Rule;"⟩, 8), (⟨"WhoCalls", "isHeld", "(LWhoCalls$Rule;II)Z"⟩, 8), (⟨"WhoCalls$Door", "isPromised", "(I)Z"⟩, 5), (⟨"WhoCalls$Door", "latestPromise", "()I"⟩, 5), (⟨"WhoCalls$House", "calledAround", "(II)Z"⟩, 6), (⟨"WhoCalls", "hoursWithout", "(I)I"⟩, 8), (⟨"WhoCalls", "isKept", "(LWhoCalls$Door;I)Z"⟩, 8), (⟨"WhoCalls", "shutDoors", "()I"⟩, 8), (⟨"WhoCallsModel", "isVersion", "(I)Z"⟩, 31), (⟨"WhoCallsModel", "differs", "(III)I"⟩, 31), (⟨"WhoCallsModel", "comes", "(IIIIII)I"⟩, 31), (⟨"WhoCallsModel", "isLine", "(II)Z"⟩, 31)]
theorem lw_r2 : ∀ q ∈ lw_privs_2, lw_okq q := List.forall_mem_cons.mpr ⟨lw_p16, List.forall_mem_cons.mpr ⟨lw_p17, List.forall_mem_cons.mpr ⟨lw_p18, List.forall_mem_cons.mpr ⟨lw_p19, List.forall_mem_cons.mpr ⟨lw_p20, List.forall_mem_cons.mpr ⟨lw_p21, List.forall_mem_cons.mpr ⟨lw_p22, List.forall_mem_cons.mpr ⟨lw_p23, List.forall_mem_cons.mpr ⟨lw_p24, List.forall_mem_cons.mpr ⟨lw_p25, List.forall_mem_cons.mpr ⟨lw_p26, List.forall_mem_cons.mpr ⟨lw_p27, List.forall_mem_cons.mpr ⟨lw_p28, List.forall_mem_cons.mpr ⟨lw_p29, List.forall_mem_cons.mpr ⟨lw_p30, List.forall_mem_cons.mpr ⟨lw_p31, fun _ h => absurd h List.not_mem_nil⟩⟩⟩⟩⟩⟩⟩⟩⟩⟩⟩⟩⟩⟩⟩⟩
theorem lw_p32 : lw_okq (⟨"WhoCallsModel", "follow", "(II)V"⟩, 31) := ⟨⟨by decide +kernel, by decide +kernel⟩, List.mem_of_getElem? (i := 445) (by decide +kernel), List.mem_of_getElem? (i := 609) (by decide +kernel), List.mem_of_getElem? (i := 610) (by decide +kernel)⟩
theorem lw_p33 : lw_okq (⟨"WhoCallsModel", "piles", "(II)V"⟩, 31) := ⟨⟨by decide +kernel, by decide +kernel⟩, List.mem_of_getElem? (i := 445) (by decide +kernel), List.mem_of_getElem? (i := 613) (by decide +kernel), List.mem_of_getElem? (i := 614) (by decide +kernel)⟩
theorem lw_p34 : lw_okq (⟨"WhoCallsModel", "usesOf", "(II)I"⟩, 31) := ⟨⟨by decide +kernel, by decide +kernel⟩, List.mem_of_getElem? (i := 445) (by decide +kernel), List.mem_of_getElem? (i := 626) (by decide +kernel), List.mem_of_getElem? (i := 627) (by decide +kernel)⟩
theorem lw_p35 : lw_okq (⟨"WhoCallsModel", "isShut", "(I)Z"⟩, 31) := ⟨⟨by decide +kernel, by decide +kernel⟩, List.mem_of_getElem? (i := 445) (by decide +kernel), List.mem_of_getElem? (i := 638) (by decide +kernel), List.mem_of_getElem? (i := 639) (by decide +kernel)⟩
theorem lw_p36 : lw_okq (⟨"WhoCallsModel", "sumOf", "(IIII)I"⟩, 31) := ⟨⟨by decide +kernel, by decide +kernel⟩, List.mem_of_getElem? (i := 445) (by decide +kernel), List.mem_of_getElem? (i := 649) (by decide +kernel), List.mem_of_getElem? (i := 650) (by decide +kernel)⟩
theorem lw_p37 : lw_okq (⟨"WhoCallsModel", "isSilent", "(I)Z"⟩, 31) := ⟨⟨by decide +kernel, by decide +kernel⟩, List.mem_of_getElem? (i := 445) (by decide +kernel), List.mem_of_getElem? (i := 657) (by decide +kernel), List.mem_of_getElem? (i := 658) (by decide +kernel)⟩
theorem lw_p38 : lw_okq (⟨"WhoCallsModel", "isRule", "(I)Z"⟩, 31) := ⟨⟨by decide +kernel, by decide +kernel⟩, List.mem_of_getElem? (i := 445) (by decide +kernel), List.mem_of_getElem? (i := 677) (by decide +kernel), List.mem_of_getElem? (i := 678) (by decide +kernel)⟩
theorem lw_p39 : lw_okq (⟨"WhoCallsModel", "holdsFrom", "(III)Z"⟩, 31) := ⟨⟨by decide +kernel, by decide +kernel⟩, List.mem_of_getElem? (i := 445) (by decide +kernel), List.mem_of_getElem? (i := 681) (by decide +kernel), List.mem_of_getElem? (i := 682) (by decide +kernel)⟩
theorem lw_p40 : lw_okq (⟨"WhoCallsModel", "latest", "(I)I"⟩, 31) := ⟨⟨by decide +kernel, by decide +kernel⟩, List.mem_of_getElem? (i := 445) (by decide +kernel), List.mem_of_getElem? (i := 708) (by decide +kernel), List.mem_of_getElem? (i := 709) (by decide +kernel)⟩
theorem lw_p41 : lw_okq (⟨"WhoCallsModel", "harmOn", "(II)I"⟩, 31) := ⟨⟨by decide +kernel, by decide +kernel⟩, List.mem_of_getElem? (i := 445) (by decide +kernel), List.mem_of_getElem? (i := 724) (by decide +kernel), List.mem_of_getElem? (i := 725) (by decide +kernel)⟩
theorem lw_p42 : lw_okq (⟨"WhoCallsModel", "costOf", "(I)I"⟩, 31) := ⟨⟨by decide +kernel, by decide +kernel⟩, List.mem_of_getElem? (i := 445) (by decide +kernel), List.mem_of_getElem? (i := 740) (by decide +kernel), List.mem_of_getElem? (i := 741) (by decide +kernel)⟩
def lw_privs_3 : List (MethodName × Nat) := [(⟨"WhoCallsModel", "follow", "(II)V"⟩, 31), (⟨"WhoCallsModel", "piles", "(II)V"⟩, 31), (⟨"WhoCallsModel", "usesOf", "(II)I"⟩, 31), (⟨"WhoCallsModel", "isShut", "(I)Z"⟩, 31), (⟨"WhoCallsModel", "sumOf", "(IIII)I"⟩, 31), (⟨"WhoCallsModel", "isSilent", "(I)Z"⟩, 31), (⟨"WhoCallsModel", "isRule", "(I)Z"⟩, 31), (⟨"WhoCallsModel", "holdsFrom", "(III)Z"⟩, 31), (⟨"WhoCallsModel", "latest", "(I)I"⟩, 31), (⟨"WhoCallsModel", "harmOn", "(II)I"⟩, 31), (⟨"WhoCallsModel", "costOf", "(I)I"⟩, 31)]
theorem lw_r3 : ∀ q ∈ lw_privs_3, lw_okq q := List.forall_mem_cons.mpr ⟨lw_p32, List.forall_mem_cons.mpr ⟨lw_p33, List.forall_mem_cons.mpr ⟨lw_p34, List.forall_mem_cons.mpr ⟨lw_p35, List.forall_mem_cons.mpr ⟨lw_p36, List.forall_mem_cons.mpr ⟨lw_p37, List.forall_mem_cons.mpr ⟨lw_p38, List.forall_mem_cons.mpr ⟨lw_p39, List.forall_mem_cons.mpr ⟨lw_p40, List.forall_mem_cons.mpr ⟨lw_p41, List.forall_mem_cons.mpr ⟨lw_p42, fun _ h => absurd h List.not_mem_nil⟩⟩⟩⟩⟩⟩⟩⟩⟩⟩⟩
def lw_privs : List (MethodName × Nat) := lw_privs_1 ++ (lw_privs_2 ++ (lw_privs_3))
def lw_tbl : List Cond := k2_sels lw_privs ++ tables_1
theorem lw_privs_ok : ∀ q ∈ lw_privs, lw_okq q := by
  show ∀ q ∈ lw_privs_1 ++ (lw_privs_2 ++ (lw_privs_3)), lw_okq q
  exact List.forall_mem_append.mpr ⟨lw_r1, List.forall_mem_append.mpr ⟨lw_r2, lw_r3⟩⟩
end
section
def RX0 : String := "WhoCalls$Door"
def TX0 : u_T := fun k => match k with
  | 0 => ("WhoCalls$Door", "answers", "[I", true)
  | 1 => ("WhoCalls$Door", "promises", "[I", true)
  | 2 => ("WhoCalls$Door", "shutDay", "I", false)
  | 3 => ("WhoCalls$Door", "surprises", "I", false)
  | _ => ("WhoCalls$Door", "cost", "I", false)
def tyX0 : Nat → FieldType := fun k => match k with
  | 0 => .array .int
  | 1 => .array .int
  | 2 => .int
  | 3 => .int
  | _ => .int
theorem nmX0 : ∀ a, a < 5 → ∀ b, b < 5 → a ≠ b → (TX0 a).2.1 ≠ (TX0 b).2.1 := by decide +kernel
theorem tyX0_ok : ∀ k, k < 5 → parseFieldDescriptor (TX0 k).2.2.1 = some (tyX0 k) := by decide +kernel
abbrev cX0_init : ByteArray := prog_2_method_1_code
def yX0_init : MethodName := ⟨RX0, "<init>", "()V"⟩
abbrev cX0_answerTo : ByteArray := prog_2_method_2_code
def yX0_answerTo : MethodName := ⟨RX0, "answerTo", "(II)I"⟩
abbrev cX0_copyAnswers : ByteArray := prog_2_method_3_code
def yX0_copyAnswers : MethodName := ⟨RX0, "copyAnswers", "(II)V"⟩
abbrev cX0_differing : ByteArray := prog_2_method_4_code
def yX0_differing : MethodName := ⟨RX0, "differing", "(II)I"⟩
abbrev cX0_latestPromise : ByteArray := prog_2_method_5_code
def yX0_latestPromise : MethodName := ⟨RX0, "latestPromise", "()I"⟩
abbrev cX0_isPromised : ByteArray := prog_2_method_6_code
def yX0_isPromised : MethodName := ⟨RX0, "isPromised", "(I)Z"⟩
abbrev cX0_isShutOn : ByteArray := prog_2_method_7_code
def yX0_isShutOn : MethodName := ⟨RX0, "isShutOn", "(I)Z"⟩
def RX1 : String := "WhoCalls$House"
def TX1 : u_T := fun k => match k with
  | 0 => ("WhoCalls$House", "text", "LWhoCalls$Text;", true)
  | 1 => ("WhoCalls$House", "counts", "[I", true)
  | 2 => ("WhoCalls$House", "marks", "[Z", true)
  | 3 => ("WhoCalls$House", "hasCounts", "Z", false)
  | 4 => ("WhoCalls$House", "version", "I", false)
  | _ => ("WhoCalls$House", "hours", "I", false)
def tyX1 : Nat → FieldType := fun k => match k with
  | 0 => .object "WhoCalls$Text"
  | 1 => .array .int
  | 2 => .array .boolean
  | 3 => .boolean
  | 4 => .int
  | _ => .int
theorem nmX1 : ∀ a, a < 6 → ∀ b, b < 6 → a ≠ b → (TX1 a).2.1 ≠ (TX1 b).2.1 := by decide +kernel
theorem tyX1_ok : ∀ k, k < 6 → parseFieldDescriptor (TX1 k).2.2.1 = some (tyX1 k) := by decide +kernel
abbrev cX1_init : ByteArray := prog_3_method_1_code
def yX1_init : MethodName := ⟨RX1, "<init>", "()V"⟩
abbrev cX1_addCount : ByteArray := prog_3_method_2_code
def yX1_addCount : MethodName := ⟨RX1, "addCount", "(IIII)V"⟩
abbrev cX1_counted : ByteArray := prog_3_method_3_code
def yX1_counted : MethodName := ⟨RX1, "counted", "(III)I"⟩
abbrev cX1_calledAround : ByteArray := prog_3_method_4_code
def yX1_calledAround : MethodName := ⟨RX1, "calledAround", "(II)Z"⟩
abbrev cX1_isSilent : ByteArray := prog_3_method_5_code
def yX1_isSilent : MethodName := ⟨RX1, "isSilent", "()Z"⟩
def RX2 : String := "WhoCalls$Rule"
def TX2 : u_T := fun k => match k with
  | 0 => ("WhoCalls$Rule", "face", "I", true)
  | 1 => ("WhoCalls$Rule", "set", "I", true)
  | 2 => ("WhoCalls$Rule", "to", "I", true)
  | _ => ("WhoCalls$Rule", "d", "I", true)
def tyX2 : Nat → FieldType := fun k => match k with
  | 0 => .int
  | 1 => .int
  | 2 => .int
  | _ => .int
theorem nmX2 : ∀ a, a < 4 → ∀ b, b < 4 → a ≠ b → (TX2 a).2.1 ≠ (TX2 b).2.1 := by decide +kernel
theorem tyX2_ok : ∀ k, k < 4 → parseFieldDescriptor (TX2 k).2.2.1 = some (tyX2 k) := by decide +kernel
abbrev cX2_init : ByteArray := prog_4_method_1_code
def yX2_init : MethodName := ⟨RX2, "<init>", "(IIII)V"⟩
def RX3 : String := "WhoCalls$Text"
def TX3 : u_T := fun k => match k with
  | 0 => ("WhoCalls$Text", "kinds", "[I", true)
  | 1 => ("WhoCalls$Text", "firsts", "[I", true)
  | 2 => ("WhoCalls$Text", "seconds", "[I", true)
  | 3 => ("WhoCalls$Text", "numbers", "[I", true)
  | 4 => ("WhoCalls$Text", "sets", "[I", true)
  | 5 => ("WhoCalls$Text", "ends", "[I", true)
  | _ => ("WhoCalls$Text", "size", "I", false)
def tyX3 : Nat → FieldType := fun k => match k with
  | 0 => .array .int
  | 1 => .array .int
  | 2 => .array .int
  | 3 => .array .int
  | 4 => .array .int
  | 5 => .array .int
  | _ => .int
theorem nmX3 : ∀ a, a < 7 → ∀ b, b < 7 → a ≠ b → (TX3 a).2.1 ≠ (TX3 b).2.1 := by decide +kernel
theorem tyX3_ok : ∀ k, k < 7 → parseFieldDescriptor (TX3 k).2.2.1 = some (tyX3 k) := by decide +kernel
abbrev cX3_init : ByteArray := prog_5_method_1_code
def yX3_init : MethodName := ⟨RX3, "<init>", "()V"⟩
abbrev cX3_has : ByteArray := prog_5_method_2_code
def yX3_has : MethodName := ⟨RX3, "has", "(I)Z"⟩
abbrev cX3_addCall : ByteArray := prog_5_method_3_code
def yX3_addCall : MethodName := ⟨RX3, "addCall", "(II)I"⟩
abbrev cX3_addWrap : ByteArray := prog_5_method_4_code
def yX3_addWrap : MethodName := ⟨RX3, "addWrap", "(III)I"⟩
abbrev cX3_addSplit : ByteArray := prog_5_method_5_code
def yX3_addSplit : MethodName := ⟨RX3, "addSplit", "(IIII)I"⟩
abbrev cX3_added : ByteArray := prog_5_method_6_code
def yX3_added : MethodName := ⟨RX3, "added", "(IIIII)I"⟩
abbrev cX3_seenBy : ByteArray := prog_5_method_7_code
def yX3_seenBy : MethodName := ⟨RX3, "seenBy", "(II)I"⟩
abbrev cX3_used : ByteArray := prog_5_method_8_code
def yX3_used : MethodName := ⟨RX3, "used", "(I)I"⟩
abbrev cX3_someSeesOnly : ByteArray := prog_5_method_9_code
def yX3_someSeesOnly : MethodName := ⟨RX3, "someSeesOnly", "(II)Z"⟩
abbrev cX3_stepsOf : ByteArray := prog_5_method_10_code
def yX3_stepsOf : MethodName := ⟨RX3, "stepsOf", "(I)I"⟩
abbrev cX3_steps : ByteArray := prog_5_method_11_code
def yX3_steps : MethodName := ⟨RX3, "steps", "(LWhoCalls$Text;III)I"⟩
abbrev cX3_turned : ByteArray := prog_5_method_12_code
def yX3_turned : MethodName := ⟨RX3, "turned", "(II)I"⟩
def RX4 : String := "WhoCalls"
def TX4 : u_T := fun k => match k with
  | 0 => ("WhoCalls", "doors", "[LWhoCalls$Door;", true)
  | 1 => ("WhoCalls", "houses", "[LWhoCalls$House;", true)
  | 2 => ("WhoCalls", "rules", "[LWhoCalls$Rule;", true)
  | 3 => ("WhoCalls", "ruleCount", "I", false)
  | 4 => ("WhoCalls", "versionCount", "I", false)
  | 5 => ("WhoCalls", "today", "I", false)
  | 6 => ("WhoCalls", "mostADay", "I", false)
  | _ => ("WhoCalls", "traced", "J", false)
def tyX4 : Nat → FieldType := fun k => match k with
  | 0 => .array (.object "WhoCalls$Door")
  | 1 => .array (.object "WhoCalls$House")
  | 2 => .array (.object "WhoCalls$Rule")
  | 3 => .int
  | 4 => .int
  | 5 => .int
  | 6 => .int
  | _ => .long
theorem nmX4 : ∀ a, a < 8 → ∀ b, b < 8 → a ≠ b → (TX4 a).2.1 ≠ (TX4 b).2.1 := by decide +kernel
theorem tyX4_ok : ∀ k, k < 8 → parseFieldDescriptor (TX4 k).2.2.1 = some (tyX4 k) := by decide +kernel
abbrev cX4_init : ByteArray := prog_1_method_1_code
def yX4_init : MethodName := ⟨RX4, "<init>", "()V"⟩
abbrev cX4_version : ByteArray := prog_1_method_2_code
def yX4_version : MethodName := ⟨RX4, "version", "()I"⟩
abbrev cX4_answer : ByteArray := prog_1_method_3_code
def yX4_answer : MethodName := ⟨RX4, "answer", "(IIII)I"⟩
abbrev cX4_differ : ByteArray := prog_1_method_4_code
def yX4_differ : MethodName := ⟨RX4, "differ", "(III)I"⟩
abbrev cX4_goes : ByteArray := prog_1_method_5_code
def yX4_goes : MethodName := ⟨RX4, "goes", "(II)I"⟩
abbrev cX4_call : ByteArray := prog_1_method_6_code
def yX4_call : MethodName := ⟨RX4, "call", "(III)I"⟩
abbrev cX4_wrap : ByteArray := prog_1_method_7_code
def yX4_wrap : MethodName := ⟨RX4, "wrap", "(IIII)I"⟩
abbrev cX4_split : ByteArray := prog_1_method_8_code
def yX4_split : MethodName := ⟨RX4, "split", "(IIIII)I"⟩
abbrev cX4_clear : ByteArray := prog_1_method_9_code
def yX4_clear : MethodName := ⟨RX4, "clear", "(I)I"⟩
abbrev cX4_sees : ByteArray := prog_1_method_10_code
def yX4_sees : MethodName := ⟨RX4, "sees", "(III)I"⟩
abbrev cX4_uses : ByteArray := prog_1_method_11_code
def yX4_uses : MethodName := ⟨RX4, "uses", "(II)I"⟩
abbrev cX4_shape : ByteArray := prog_1_method_12_code
def yX4_shape : MethodName := ⟨RX4, "shape", "(II)I"⟩
abbrev cX4_count : ByteArray := prog_1_method_13_code
def yX4_count : MethodName := ⟨RX4, "count", "(IIIII)I"⟩
abbrev cX4_sum : ByteArray := prog_1_method_14_code
def yX4_sum : MethodName := ⟨RX4, "sum", "(IIII)I"⟩
abbrev cX4_silent : ByteArray := prog_1_method_15_code
def yX4_silent : MethodName := ⟨RX4, "silent", "(I)I"⟩
abbrev cX4_most : ByteArray := prog_1_method_16_code
def yX4_most : MethodName := ⟨RX4, "most", "(III)I"⟩
abbrev cX4_harm : ByteArray := prog_1_method_17_code
def yX4_harm : MethodName := ⟨RX4, "harm", "(III)I"⟩
abbrev cX4_rule : ByteArray := prog_1_method_18_code
def yX4_rule : MethodName := ⟨RX4, "rule", "(IIII)I"⟩
abbrev cX4_holds : ByteArray := prog_1_method_19_code
def yX4_holds : MethodName := ⟨RX4, "holds", "(III)I"⟩
abbrev cX4_clash : ByteArray := prog_1_method_20_code
def yX4_clash : MethodName := ⟨RX4, "clash", "(II)I"⟩
abbrev cX4_left : ByteArray := prog_1_method_21_code
def yX4_left : MethodName := ⟨RX4, "left", "(III)I"⟩
abbrev cX4_days : ByteArray := prog_1_method_22_code
def yX4_days : MethodName := ⟨RX4, "days", "(I)I"⟩
abbrev cX4_promise : ByteArray := prog_1_method_23_code
def yX4_promise : MethodName := ⟨RX4, "promise", "(III)I"⟩
abbrev cX4_shut : ByteArray := prog_1_method_24_code
def yX4_shut : MethodName := ⟨RX4, "shut", "(II)I"⟩
abbrev cX4_open : ByteArray := prog_1_method_25_code
def yX4_open : MethodName := ⟨RX4, "open", "(I)I"⟩
abbrev cX4_about : ByteArray := prog_1_method_26_code
def yX4_about : MethodName := ⟨RX4, "about", "(II)I"⟩
abbrev cX4_harmed : ByteArray := prog_1_method_27_code
def yX4_harmed : MethodName := ⟨RX4, "harmed", "(II)I"⟩
abbrev cX4_ready : ByteArray := prog_1_method_28_code
def yX4_ready : MethodName := ⟨RX4, "ready", "(I)I"⟩
abbrev cX4_set : ByteArray := prog_1_method_29_code
def yX4_set : MethodName := ⟨RX4, "set", "(III)I"⟩
abbrev cX4_plan : ByteArray := prog_1_method_30_code
def yX4_plan : MethodName := ⟨RX4, "plan", "(I)I"⟩
abbrev cX4_told : ByteArray := prog_1_method_31_code
def yX4_told : MethodName := ⟨RX4, "told", "(I)I"⟩
abbrev cX4_trace : ByteArray := prog_1_method_32_code
def yX4_trace : MethodName := ⟨RX4, "trace", "()J"⟩
abbrev cX4_isWithin : ByteArray := prog_1_method_33_code
def yX4_isWithin : MethodName := ⟨RX4, "isWithin", "(II)Z"⟩
abbrev cX4_isFace : ByteArray := prog_1_method_34_code
def yX4_isFace : MethodName := ⟨RX4, "isFace", "(I)Z"⟩
abbrev cX4_isDay : ByteArray := prog_1_method_35_code
def yX4_isDay : MethodName := ⟨RX4, "isDay", "(I)Z"⟩
abbrev cX4_isSpan : ByteArray := prog_1_method_36_code
def yX4_isSpan : MethodName := ⟨RX4, "isSpan", "(II)Z"⟩
abbrev cX4_isVersion : ByteArray := prog_1_method_37_code
def yX4_isVersion : MethodName := ⟨RX4, "isVersion", "(I)Z"⟩
abbrev cX4_doorAt : ByteArray := prog_1_method_38_code
def yX4_doorAt : MethodName := ⟨RX4, "doorAt", "(I)LWhoCalls$Door;"⟩
abbrev cX4_houseAt : ByteArray := prog_1_method_39_code
def yX4_houseAt : MethodName := ⟨RX4, "houseAt", "(I)LWhoCalls$House;"⟩
abbrev cX4_ruleAt : ByteArray := prog_1_method_40_code
def yX4_ruleAt : MethodName := ⟨RX4, "ruleAt", "(I)LWhoCalls$Rule;"⟩
abbrev cX4_isHeld : ByteArray := prog_1_method_41_code
def yX4_isHeld : MethodName := ⟨RX4, "isHeld", "(LWhoCalls$Rule;II)Z"⟩
abbrev cX4_silentHouses : ByteArray := prog_1_method_42_code
def yX4_silentHouses : MethodName := ⟨RX4, "silentHouses", "()I"⟩
abbrev cX4_shutDoors : ByteArray := prog_1_method_43_code
def yX4_shutDoors : MethodName := ⟨RX4, "shutDoors", "()I"⟩
abbrev cX4_becomeCost : ByteArray := prog_1_method_44_code
def yX4_becomeCost : MethodName := ⟨RX4, "becomeCost", "(LWhoCalls$Door;I)I"⟩
abbrev cX4_becomeHours : ByteArray := prog_1_method_45_code
def yX4_becomeHours : MethodName := ⟨RX4, "becomeHours", "(LWhoCalls$House;I)I"⟩
abbrev cX4_hoursWithout : ByteArray := prog_1_method_46_code
def yX4_hoursWithout : MethodName := ⟨RX4, "hoursWithout", "(I)I"⟩
abbrev cX4_isKept : ByteArray := prog_1_method_47_code
def yX4_isKept : MethodName := ⟨RX4, "isKept", "(LWhoCalls$Door;I)Z"⟩
def RX5 : String := "WhoCallsModel"
def TX5 : u_T := fun k => match k with
  | 0 => ("WhoCallsModel", "versions", "I", false)
  | 1 => ("WhoCallsModel", "answers", "[I", true)
  | 2 => ("WhoCallsModel", "goesBy", "[I", true)
  | 3 => ("WhoCallsModel", "lines", "[I", true)
  | 4 => ("WhoCallsModel", "kind", "[I", true)
  | 5 => ("WhoCallsModel", "first", "[I", true)
  | 6 => ("WhoCallsModel", "second", "[I", true)
  | 7 => ("WhoCallsModel", "by", "[I", true)
  | 8 => ("WhoCallsModel", "set", "[I", true)
  | 9 => ("WhoCallsModel", "counted", "[I", true)
  | 10 => ("WhoCallsModel", "isMarked", "[Z", true)
  | 11 => ("WhoCallsModel", "hasCounts", "[Z", true)
  | 12 => ("WhoCallsModel", "most", "I", false)
  | 13 => ("WhoCallsModel", "rules", "I", false)
  | 14 => ("WhoCallsModel", "ruleFace", "[I", true)
  | 15 => ("WhoCallsModel", "ruleSet", "[I", true)
  | 16 => ("WhoCallsModel", "ruleTo", "[I", true)
  | 17 => ("WhoCallsModel", "ruleBy", "[I", true)
  | 18 => ("WhoCallsModel", "today", "I", false)
  | 19 => ("WhoCallsModel", "promised", "[I", true)
  | 20 => ("WhoCallsModel", "shutOn", "[I", true)
  | 21 => ("WhoCallsModel", "surprises", "[I", true)
  | 22 => ("WhoCallsModel", "keepCost", "[I", true)
  | 23 => ("WhoCallsModel", "hours", "[I", true)
  | 24 => ("WhoCallsModel", "trace", "J", false)
  | 25 => ("WhoCallsModel", "pile", "[I", true)
  | 26 => ("WhoCallsModel", "pileSet", "[I", true)
  | 27 => ("WhoCallsModel", "seen", "[I", true)
  | 28 => ("WhoCallsModel", "asked", "J", false)
  | 29 => ("WhoCallsModel", "piled", "I", false)
  | _ => ("WhoCallsModel", "lossOf", "[I", true)
def tyX5 : Nat → FieldType := fun k => match k with
  | 0 => .int
  | 1 => .array .int
  | 2 => .array .int
  | 3 => .array .int
  | 4 => .array .int
  | 5 => .array .int
  | 6 => .array .int
  | 7 => .array .int
  | 8 => .array .int
  | 9 => .array .int
  | 10 => .array .boolean
  | 11 => .array .boolean
  | 12 => .int
  | 13 => .int
  | 14 => .array .int
  | 15 => .array .int
  | 16 => .array .int
  | 17 => .array .int
  | 18 => .int
  | 19 => .array .int
  | 20 => .array .int
  | 21 => .array .int
  | 22 => .array .int
  | 23 => .array .int
  | 24 => .long
  | 25 => .array .int
  | 26 => .array .int
  | 27 => .array .int
  | 28 => .long
  | 29 => .int
  | _ => .array .int
theorem nmX5 : ∀ a, a < 31 → ∀ b, b < 31 → a ≠ b → (TX5 a).2.1 ≠ (TX5 b).2.1 := by decide +kernel
theorem tyX5_ok : ∀ k, k < 31 → parseFieldDescriptor (TX5 k).2.2.1 = some (tyX5 k) := by decide +kernel
abbrev cX5_init : ByteArray := prog_7_method_1_code
def yX5_init : MethodName := ⟨RX5, "<init>", "()V"⟩
abbrev cX5_in : ByteArray := prog_7_method_3_code
def yX5_in : MethodName := ⟨RX5, "in", "(III)Z"⟩
abbrev cX5_isFace : ByteArray := prog_7_method_4_code
def yX5_isFace : MethodName := ⟨RX5, "isFace", "(I)Z"⟩
abbrev cX5_isHouse : ByteArray := prog_7_method_5_code
def yX5_isHouse : MethodName := ⟨RX5, "isHouse", "(I)Z"⟩
abbrev cX5_isVersion : ByteArray := prog_7_method_6_code
def yX5_isVersion : MethodName := ⟨RX5, "isVersion", "(I)Z"⟩
abbrev cX5_version : ByteArray := prog_7_method_7_code
def yX5_version : MethodName := ⟨RX5, "version", "()I"⟩
abbrev cX5_shown : ByteArray := prog_7_method_8_code
def yX5_shown : MethodName := ⟨RX5, "shown", "(I)I"⟩
abbrev cX5_answer : ByteArray := prog_7_method_9_code
def yX5_answer : MethodName := ⟨RX5, "answer", "(IIII)I"⟩
abbrev cX5_differs : ByteArray := prog_7_method_10_code
def yX5_differs : MethodName := ⟨RX5, "differs", "(III)I"⟩
abbrev cX5_differ : ByteArray := prog_7_method_11_code
def yX5_differ : MethodName := ⟨RX5, "differ", "(III)I"⟩
abbrev cX5_goes : ByteArray := prog_7_method_12_code
def yX5_goes : MethodName := ⟨RX5, "goes", "(II)I"⟩
abbrev cX5_isSet : ByteArray := prog_7_method_13_code
def yX5_isSet : MethodName := ⟨RX5, "isSet", "(I)Z"⟩
abbrev cX5_isLine : ByteArray := prog_7_method_14_code
def yX5_isLine : MethodName := ⟨RX5, "isLine", "(II)Z"⟩
abbrev cX5_comes : ByteArray := prog_7_method_15_code
def yX5_comes : MethodName := ⟨RX5, "comes", "(IIIIII)I"⟩
abbrev cX5_call : ByteArray := prog_7_method_16_code
def yX5_call : MethodName := ⟨RX5, "call", "(III)I"⟩
abbrev cX5_wrap : ByteArray := prog_7_method_17_code
def yX5_wrap : MethodName := ⟨RX5, "wrap", "(IIII)I"⟩
abbrev cX5_split : ByteArray := prog_7_method_18_code
def yX5_split : MethodName := ⟨RX5, "split", "(IIIII)I"⟩
abbrev cX5_clear : ByteArray := prog_7_method_19_code
def yX5_clear : MethodName := ⟨RX5, "clear", "(I)I"⟩
abbrev cX5_turned : ByteArray := prog_7_method_20_code
def yX5_turned : MethodName := ⟨RX5, "turned", "(II)I"⟩
abbrev cX5_piles : ByteArray := prog_7_method_21_code
def yX5_piles : MethodName := ⟨RX5, "piles", "(II)V"⟩
abbrev cX5_follow : ByteArray := prog_7_method_22_code
def yX5_follow : MethodName := ⟨RX5, "follow", "(II)V"⟩
abbrev cX5_sees : ByteArray := prog_7_method_23_code
def yX5_sees : MethodName := ⟨RX5, "sees", "(III)I"⟩
abbrev cX5_usesOf : ByteArray := prog_7_method_24_code
def yX5_usesOf : MethodName := ⟨RX5, "usesOf", "(II)I"⟩
abbrev cX5_uses : ByteArray := prog_7_method_25_code
def yX5_uses : MethodName := ⟨RX5, "uses", "(II)I"⟩
abbrev cX5_shape : ByteArray := prog_7_method_26_code
def yX5_shape : MethodName := ⟨RX5, "shape", "(II)I"⟩
abbrev cX5_isShut : ByteArray := prog_7_method_27_code
def yX5_isShut : MethodName := ⟨RX5, "isShut", "(I)Z"⟩
abbrev cX5_count : ByteArray := prog_7_method_28_code
def yX5_count : MethodName := ⟨RX5, "count", "(IIIII)I"⟩
abbrev cX5_isSpan : ByteArray := prog_7_method_29_code
def yX5_isSpan : MethodName := ⟨RX5, "isSpan", "(II)Z"⟩
abbrev cX5_sumOf : ByteArray := prog_7_method_30_code
def yX5_sumOf : MethodName := ⟨RX5, "sumOf", "(IIII)I"⟩
abbrev cX5_sum : ByteArray := prog_7_method_31_code
def yX5_sum : MethodName := ⟨RX5, "sum", "(IIII)I"⟩
abbrev cX5_isSilent : ByteArray := prog_7_method_32_code
def yX5_isSilent : MethodName := ⟨RX5, "isSilent", "(I)Z"⟩
abbrev cX5_silent : ByteArray := prog_7_method_33_code
def yX5_silent : MethodName := ⟨RX5, "silent", "(I)I"⟩
abbrev cX5_most : ByteArray := prog_7_method_34_code
def yX5_most : MethodName := ⟨RX5, "most", "(III)I"⟩
abbrev cX5_harm : ByteArray := prog_7_method_35_code
def yX5_harm : MethodName := ⟨RX5, "harm", "(III)I"⟩
abbrev cX5_rule : ByteArray := prog_7_method_36_code
def yX5_rule : MethodName := ⟨RX5, "rule", "(IIII)I"⟩
abbrev cX5_isRule : ByteArray := prog_7_method_37_code
def yX5_isRule : MethodName := ⟨RX5, "isRule", "(I)Z"⟩
abbrev cX5_holdsFrom : ByteArray := prog_7_method_38_code
def yX5_holdsFrom : MethodName := ⟨RX5, "holdsFrom", "(III)Z"⟩
abbrev cX5_holds : ByteArray := prog_7_method_39_code
def yX5_holds : MethodName := ⟨RX5, "holds", "(III)I"⟩
abbrev cX5_clash : ByteArray := prog_7_method_40_code
def yX5_clash : MethodName := ⟨RX5, "clash", "(II)I"⟩
abbrev cX5_left : ByteArray := prog_7_method_41_code
def yX5_left : MethodName := ⟨RX5, "left", "(III)I"⟩
abbrev cX5_days : ByteArray := prog_7_method_42_code
def yX5_days : MethodName := ⟨RX5, "days", "(I)I"⟩
abbrev cX5_latest : ByteArray := prog_7_method_43_code
def yX5_latest : MethodName := ⟨RX5, "latest", "(I)I"⟩
abbrev cX5_promise : ByteArray := prog_7_method_44_code
def yX5_promise : MethodName := ⟨RX5, "promise", "(III)I"⟩
abbrev cX5_shut : ByteArray := prog_7_method_45_code
def yX5_shut : MethodName := ⟨RX5, "shut", "(II)I"⟩
abbrev cX5_open : ByteArray := prog_7_method_46_code
def yX5_open : MethodName := ⟨RX5, "open", "(I)I"⟩
abbrev cX5_about : ByteArray := prog_7_method_47_code
def yX5_about : MethodName := ⟨RX5, "about", "(II)I"⟩
abbrev cX5_harmOn : ByteArray := prog_7_method_48_code
def yX5_harmOn : MethodName := ⟨RX5, "harmOn", "(II)I"⟩
abbrev cX5_harmed : ByteArray := prog_7_method_49_code
def yX5_harmed : MethodName := ⟨RX5, "harmed", "(II)I"⟩
abbrev cX5_ready : ByteArray := prog_7_method_50_code
def yX5_ready : MethodName := ⟨RX5, "ready", "(I)I"⟩
abbrev cX5_set : ByteArray := prog_7_method_51_code
def yX5_set : MethodName := ⟨RX5, "set", "(III)I"⟩
abbrev cX5_costOf : ByteArray := prog_7_method_52_code
def yX5_costOf : MethodName := ⟨RX5, "costOf", "(I)I"⟩
abbrev cX5_plan : ByteArray := prog_7_method_53_code
def yX5_plan : MethodName := ⟨RX5, "plan", "(I)I"⟩
abbrev cX5_told : ByteArray := prog_7_method_54_code
def yX5_told : MethodName := ⟨RX5, "told", "(I)I"⟩
abbrev cX5_trace : ByteArray := prog_7_method_55_code
def yX5_trace : MethodName := ⟨RX5, "trace", "()J"⟩
def RJ6 : String := "java/lang/Integer"
def TJ6 : u_T := fun k => match k with
  | _ => ("", "", "", false)
def tyJ6 : Nat → FieldType := fun k => match k with
  | _ => .int
theorem nmJ6 : ∀ a, a < 0 → ∀ b, b < 0 → a ≠ b → (TJ6 a).2.1 ≠ (TJ6 b).2.1 := by decide +kernel
theorem tyJ6_ok : ∀ k, k < 0 → parseFieldDescriptor (TJ6 k).2.2.1 = some (tyJ6 k) := by decide +kernel
abbrev cJ6_bitCount_0f7a4 : ByteArray := prog_8_method_49_code
def yJ6_bitCount_0f7a4 : MethodName := ⟨RJ6, "bitCount", "(I)I"⟩
def RJ9 : String := "java/lang/Math"
def TJ9 : u_T := fun k => match k with
  | _ => ("", "", "", false)
def tyJ9 : Nat → FieldType := fun k => match k with
  | _ => .int
theorem nmJ9 : ∀ a, a < 0 → ∀ b, b < 0 → a ≠ b → (TJ9 a).2.1 ≠ (TJ9 b).2.1 := by decide +kernel
theorem tyJ9_ok : ∀ k, k < 0 → parseFieldDescriptor (TJ9 k).2.2.1 = some (tyJ9 k) := by decide +kernel
abbrev cJ9_max_7cf53 : ByteArray := prog_9_method_65_code
def yJ9_max_7cf53 : MethodName := ⟨RJ9, "max", "(II)I"⟩
abbrev cJ9_min_7cf53 : ByteArray := prog_9_method_69_code
def yJ9_min_7cf53 : MethodName := ⟨RJ9, "min", "(II)I"⟩
def RJ10 : String := "java/lang/System"
def TJ10 : u_T := fun k => match k with
  | _ => ("", "", "", false)
def tyJ10 : Nat → FieldType := fun k => match k with
  | _ => .int
theorem nmJ10 : ∀ a, a < 0 → ∀ b, b < 0 → a ≠ b → (TJ10 a).2.1 ≠ (TJ10 b).2.1 := by decide +kernel
theorem tyJ10_ok : ∀ k, k < 0 → parseFieldDescriptor (TJ10 k).2.2.1 = some (tyJ10 k) := by decide +kernel
def RJ7 : String := "java/util/Arrays"
def TJ7 : u_T := fun k => match k with
  | _ => ("", "", "", false)
def tyJ7 : Nat → FieldType := fun k => match k with
  | _ => .int
theorem nmJ7 : ∀ a, a < 0 → ∀ b, b < 0 → a ≠ b → (TJ7 a).2.1 ≠ (TJ7 b).2.1 := by decide +kernel
theorem tyJ7_ok : ∀ k, k < 0 → parseFieldDescriptor (TJ7 k).2.2.1 = some (tyJ7 k) := by decide +kernel
abbrev cJ7_fill_53178 : ByteArray := prog_11_method_103_code
def yJ7_fill_53178 : MethodName := ⟨RJ7, "fill", "([II)V"⟩
def RL : String := "WhoCallsLaw"
abbrev cL_law : ByteArray := code
def yL_law : MethodName := ⟨RL, "law", "([I)Z"⟩
end
section
theorem dX0_init_0 : decode cX0_init 0 = .ok (.aload_n 0, 1) := by decide +kernel
theorem dX0_init_1 : decode cX0_init 1 = .ok (.invokespecial 3, 3) := by decide +kernel
theorem dX0_init_4 : decode cX0_init 4 = .ok (.aload_n 0, 1) := by decide +kernel
theorem dX0_init_5 : decode cX0_init 5 = .ok (.bipush 40, 2) := by decide +kernel
theorem dX0_init_7 : decode cX0_init 7 = .ok (.newarray .int, 2) := by decide +kernel
theorem dX0_init_9 : decode cX0_init 9 = .ok (.putfield 9, 3) := by decide +kernel
theorem dX0_init_12 : decode cX0_init 12 = .ok (.aload_n 0, 1) := by decide +kernel
theorem dX0_init_13 : decode cX0_init 13 = .ok (.bipush 6, 2) := by decide +kernel
theorem dX0_init_15 : decode cX0_init 15 = .ok (.newarray .int, 2) := by decide +kernel
theorem dX0_init_17 : decode cX0_init 17 = .ok (.putfield 15, 3) := by decide +kernel
theorem dX0_init_20 : decode cX0_init 20 = .ok (.aload_n 0, 1) := by decide +kernel
theorem dX0_init_21 : decode cX0_init 21 = .ok (.bipush (-9), 2) := by decide +kernel
theorem dX0_init_23 : decode cX0_init 23 = .ok (.putfield 18, 3) := by decide +kernel
theorem dX0_init_26 : decode cX0_init 26 = .ok (.aload_n 0, 1) := by decide +kernel
theorem dX0_init_27 : decode cX0_init 27 = .ok (.iconst 0, 1) := by decide +kernel
theorem dX0_init_28 : decode cX0_init 28 = .ok (.putfield 22, 3) := by decide +kernel
theorem dX0_init_31 : decode cX0_init 31 = .ok (.aload_n 0, 1) := by decide +kernel
theorem dX0_init_32 : decode cX0_init 32 = .ok (.iconst 0, 1) := by decide +kernel
theorem dX0_init_33 : decode cX0_init 33 = .ok (.putfield 25, 3) := by decide +kernel
theorem dX0_init_36 : decode cX0_init 36 = .ok (.aload_n 0, 1) := by decide +kernel
theorem dX0_init_37 : decode cX0_init 37 = .ok (.getfield 9, 3) := by decide +kernel
theorem dX0_init_40 : decode cX0_init 40 = .ok (.bipush (-9), 2) := by decide +kernel
theorem dX0_init_42 : decode cX0_init 42 = .ok (.invokestatic 28, 3) := by decide +kernel
theorem dX0_init_45 : decode cX0_init 45 = .ok (.aload_n 0, 1) := by decide +kernel
theorem dX0_init_46 : decode cX0_init 46 = .ok (.getfield 15, 3) := by decide +kernel
theorem dX0_init_49 : decode cX0_init 49 = .ok (.bipush (-9), 2) := by decide +kernel
theorem dX0_init_51 : decode cX0_init 51 = .ok (.invokestatic 28, 3) := by decide +kernel
theorem dX0_init_54 : decode cX0_init 54 = .ok (.return_, 1) := by decide +kernel
theorem dX0_answerTo_0 : decode cX0_answerTo 0 = .ok (.aload_n 0, 1) := by decide +kernel
theorem dX0_answerTo_1 : decode cX0_answerTo 1 = .ok (.getfield 9, 3) := by decide +kernel
theorem dX0_answerTo_4 : decode cX0_answerTo 4 = .ok (.iload_n 1, 1) := by decide +kernel
theorem dX0_answerTo_5 : decode cX0_answerTo 5 = .ok (.bipush 8, 2) := by decide +kernel
theorem dX0_answerTo_7 : decode cX0_answerTo 7 = .ok (.imul, 1) := by decide +kernel
theorem dX0_answerTo_8 : decode cX0_answerTo 8 = .ok (.iload_n 2, 1) := by decide +kernel
theorem dX0_answerTo_9 : decode cX0_answerTo 9 = .ok (.iadd, 1) := by decide +kernel
theorem dX0_answerTo_10 : decode cX0_answerTo 10 = .ok (.iaload, 1) := by decide +kernel
theorem dX0_answerTo_11 : decode cX0_answerTo 11 = .ok (.ireturn, 1) := by decide +kernel
theorem dX0_copyAnswers_0 : decode cX0_copyAnswers 0 = .ok (.aload_n 0, 1) := by decide +kernel
theorem dX0_copyAnswers_1 : decode cX0_copyAnswers 1 = .ok (.getfield 9, 3) := by decide +kernel
theorem dX0_copyAnswers_4 : decode cX0_copyAnswers 4 = .ok (.iload_n 1, 1) := by decide +kernel
theorem dX0_copyAnswers_5 : decode cX0_copyAnswers 5 = .ok (.bipush 8, 2) := by decide +kernel
theorem dX0_copyAnswers_7 : decode cX0_copyAnswers 7 = .ok (.imul, 1) := by decide +kernel
theorem dX0_copyAnswers_8 : decode cX0_copyAnswers 8 = .ok (.aload_n 0, 1) := by decide +kernel
theorem dX0_copyAnswers_9 : decode cX0_copyAnswers 9 = .ok (.getfield 9, 3) := by decide +kernel
theorem dX0_copyAnswers_12 : decode cX0_copyAnswers 12 = .ok (.iload_n 2, 1) := by decide +kernel
theorem dX0_copyAnswers_13 : decode cX0_copyAnswers 13 = .ok (.bipush 8, 2) := by decide +kernel
theorem dX0_copyAnswers_15 : decode cX0_copyAnswers 15 = .ok (.imul, 1) := by decide +kernel
theorem dX0_copyAnswers_16 : decode cX0_copyAnswers 16 = .ok (.bipush 8, 2) := by decide +kernel
theorem dX0_copyAnswers_18 : decode cX0_copyAnswers 18 = .ok (.invokestatic 34, 3) := by decide +kernel
theorem dX0_copyAnswers_21 : decode cX0_copyAnswers 21 = .ok (.return_, 1) := by decide +kernel
theorem dX0_differing_0 : decode cX0_differing 0 = .ok (.iconst 0, 1) := by decide +kernel
theorem dX0_differing_1 : decode cX0_differing 1 = .ok (.istore_n 3, 1) := by decide +kernel
theorem dX0_differing_2 : decode cX0_differing 2 = .ok (.iconst 0, 1) := by decide +kernel
theorem dX0_differing_3 : decode cX0_differing 3 = .ok (.istore 4, 2) := by decide +kernel
theorem dX0_differing_5 : decode cX0_differing 5 = .ok (.iload 4, 2) := by decide +kernel
theorem dX0_differing_7 : decode cX0_differing 7 = .ok (.bipush 8, 2) := by decide +kernel
theorem dX0_differing_9 : decode cX0_differing 9 = .ok (.if_icmp .ge 33, 3) := by decide +kernel
theorem dX0_differing_12 : decode cX0_differing 12 = .ok (.aload_n 0, 1) := by decide +kernel
theorem dX0_differing_13 : decode cX0_differing 13 = .ok (.iload_n 1, 1) := by decide +kernel
theorem dX0_differing_14 : decode cX0_differing 14 = .ok (.iload 4, 2) := by decide +kernel
theorem dX0_differing_16 : decode cX0_differing 16 = .ok (.invokevirtual 40, 3) := by decide +kernel
theorem dX0_differing_19 : decode cX0_differing 19 = .ok (.aload_n 0, 1) := by decide +kernel
theorem dX0_differing_20 : decode cX0_differing 20 = .ok (.iload_n 2, 1) := by decide +kernel
theorem dX0_differing_21 : decode cX0_differing 21 = .ok (.iload 4, 2) := by decide +kernel
theorem dX0_differing_23 : decode cX0_differing 23 = .ok (.invokevirtual 40, 3) := by decide +kernel
theorem dX0_differing_26 : decode cX0_differing 26 = .ok (.if_icmp .eq 10, 3) := by decide +kernel
theorem dX0_differing_29 : decode cX0_differing 29 = .ok (.iload_n 3, 1) := by decide +kernel
theorem dX0_differing_30 : decode cX0_differing 30 = .ok (.iconst 1, 1) := by decide +kernel
theorem dX0_differing_31 : decode cX0_differing 31 = .ok (.iload 4, 2) := by decide +kernel
theorem dX0_differing_33 : decode cX0_differing 33 = .ok (.ishl, 1) := by decide +kernel
theorem dX0_differing_34 : decode cX0_differing 34 = .ok (.ior, 1) := by decide +kernel
theorem dX0_differing_35 : decode cX0_differing 35 = .ok (.istore_n 3, 1) := by decide +kernel
theorem dX0_differing_36 : decode cX0_differing 36 = .ok (.iinc 4 1, 3) := by decide +kernel
theorem dX0_differing_39 : decode cX0_differing 39 = .ok (.goto (-34), 3) := by decide +kernel
theorem dX0_differing_42 : decode cX0_differing 42 = .ok (.iload_n 3, 1) := by decide +kernel
theorem dX0_differing_43 : decode cX0_differing 43 = .ok (.ireturn, 1) := by decide +kernel
theorem dX0_latestPromise_0 : decode cX0_latestPromise 0 = .ok (.bipush (-9), 2) := by decide +kernel
theorem dX0_latestPromise_2 : decode cX0_latestPromise 2 = .ok (.istore_n 1, 1) := by decide +kernel
theorem dX0_latestPromise_3 : decode cX0_latestPromise 3 = .ok (.aload_n 0, 1) := by decide +kernel
theorem dX0_latestPromise_4 : decode cX0_latestPromise 4 = .ok (.getfield 15, 3) := by decide +kernel
theorem dX0_latestPromise_7 : decode cX0_latestPromise 7 = .ok (.astore_n 2, 1) := by decide +kernel
theorem dX0_latestPromise_8 : decode cX0_latestPromise 8 = .ok (.aload_n 2, 1) := by decide +kernel
theorem dX0_latestPromise_9 : decode cX0_latestPromise 9 = .ok (.arraylength, 1) := by decide +kernel
theorem dX0_latestPromise_10 : decode cX0_latestPromise 10 = .ok (.istore_n 3, 1) := by decide +kernel
theorem dX0_latestPromise_11 : decode cX0_latestPromise 11 = .ok (.iconst 0, 1) := by decide +kernel
theorem dX0_latestPromise_12 : decode cX0_latestPromise 12 = .ok (.istore 4, 2) := by decide +kernel
theorem dX0_latestPromise_14 : decode cX0_latestPromise 14 = .ok (.iload 4, 2) := by decide +kernel
theorem dX0_latestPromise_16 : decode cX0_latestPromise 16 = .ok (.iload_n 3, 1) := by decide +kernel
theorem dX0_latestPromise_17 : decode cX0_latestPromise 17 = .ok (.if_icmp .ge 22, 3) := by decide +kernel
theorem dX0_latestPromise_20 : decode cX0_latestPromise 20 = .ok (.aload_n 2, 1) := by decide +kernel
theorem dX0_latestPromise_21 : decode cX0_latestPromise 21 = .ok (.iload 4, 2) := by decide +kernel
theorem dX0_latestPromise_23 : decode cX0_latestPromise 23 = .ok (.iaload, 1) := by decide +kernel
theorem dX0_latestPromise_24 : decode cX0_latestPromise 24 = .ok (.istore 5, 2) := by decide +kernel
theorem dX0_latestPromise_26 : decode cX0_latestPromise 26 = .ok (.iload_n 1, 1) := by decide +kernel
theorem dX0_latestPromise_27 : decode cX0_latestPromise 27 = .ok (.iload 5, 2) := by decide +kernel
theorem dX0_latestPromise_29 : decode cX0_latestPromise 29 = .ok (.invokestatic 44, 3) := by decide +kernel
theorem dX0_latestPromise_32 : decode cX0_latestPromise 32 = .ok (.istore_n 1, 1) := by decide +kernel
theorem dX0_latestPromise_33 : decode cX0_latestPromise 33 = .ok (.iinc 4 1, 3) := by decide +kernel
theorem dX0_latestPromise_36 : decode cX0_latestPromise 36 = .ok (.goto (-22), 3) := by decide +kernel
theorem dX0_latestPromise_39 : decode cX0_latestPromise 39 = .ok (.iload_n 1, 1) := by decide +kernel
theorem dX0_latestPromise_40 : decode cX0_latestPromise 40 = .ok (.ireturn, 1) := by decide +kernel
theorem dX0_isPromised_0 : decode cX0_isPromised 0 = .ok (.aload_n 0, 1) := by decide +kernel
theorem dX0_isPromised_1 : decode cX0_isPromised 1 = .ok (.invokevirtual 49, 3) := by decide +kernel
theorem dX0_isPromised_4 : decode cX0_isPromised 4 = .ok (.iload_n 1, 1) := by decide +kernel
theorem dX0_isPromised_5 : decode cX0_isPromised 5 = .ok (.if_icmp .lt 7, 3) := by decide +kernel
theorem dX0_isPromised_8 : decode cX0_isPromised 8 = .ok (.iconst 1, 1) := by decide +kernel
theorem dX0_isPromised_9 : decode cX0_isPromised 9 = .ok (.goto 4, 3) := by decide +kernel
theorem dX0_isPromised_12 : decode cX0_isPromised 12 = .ok (.iconst 0, 1) := by decide +kernel
theorem dX0_isPromised_13 : decode cX0_isPromised 13 = .ok (.ireturn, 1) := by decide +kernel
theorem dX0_isShutOn_0 : decode cX0_isShutOn 0 = .ok (.aload_n 0, 1) := by decide +kernel
theorem dX0_isShutOn_1 : decode cX0_isShutOn 1 = .ok (.getfield 18, 3) := by decide +kernel
theorem dX0_isShutOn_4 : decode cX0_isShutOn 4 = .ok (.bipush (-9), 2) := by decide +kernel
theorem dX0_isShutOn_6 : decode cX0_isShutOn 6 = .ok (.if_icmp .eq 15, 3) := by decide +kernel
theorem dX0_isShutOn_9 : decode cX0_isShutOn 9 = .ok (.aload_n 0, 1) := by decide +kernel
theorem dX0_isShutOn_10 : decode cX0_isShutOn 10 = .ok (.getfield 18, 3) := by decide +kernel
theorem dX0_isShutOn_13 : decode cX0_isShutOn 13 = .ok (.iload_n 1, 1) := by decide +kernel
theorem dX0_isShutOn_14 : decode cX0_isShutOn 14 = .ok (.if_icmp .gt 7, 3) := by decide +kernel
theorem dX0_isShutOn_17 : decode cX0_isShutOn 17 = .ok (.iconst 1, 1) := by decide +kernel
theorem dX0_isShutOn_18 : decode cX0_isShutOn 18 = .ok (.goto 4, 3) := by decide +kernel
theorem dX0_isShutOn_21 : decode cX0_isShutOn 21 = .ok (.iconst 0, 1) := by decide +kernel
theorem dX0_isShutOn_22 : decode cX0_isShutOn 22 = .ok (.ireturn, 1) := by decide +kernel
theorem dX1_init_0 : decode cX1_init 0 = .ok (.aload_n 0, 1) := by decide +kernel
theorem dX1_init_1 : decode cX1_init 1 = .ok (.invokespecial 3, 3) := by decide +kernel
theorem dX1_init_4 : decode cX1_init 4 = .ok (.aload_n 0, 1) := by decide +kernel
theorem dX1_init_5 : decode cX1_init 5 = .ok (.new 9, 3) := by decide +kernel
theorem dX1_init_8 : decode cX1_init 8 = .ok (.dup, 1) := by decide +kernel
theorem dX1_init_9 : decode cX1_init 9 = .ok (.invokespecial 11, 3) := by decide +kernel
theorem dX1_init_12 : decode cX1_init 12 = .ok (.putfield 12, 3) := by decide +kernel
theorem dX1_init_15 : decode cX1_init 15 = .ok (.aload_n 0, 1) := by decide +kernel
theorem dX1_init_16 : decode cX1_init 16 = .ok (.sipush 320, 3) := by decide +kernel
theorem dX1_init_19 : decode cX1_init 19 = .ok (.newarray .int, 2) := by decide +kernel
theorem dX1_init_21 : decode cX1_init 21 = .ok (.putfield 18, 3) := by decide +kernel
theorem dX1_init_24 : decode cX1_init 24 = .ok (.aload_n 0, 1) := by decide +kernel
theorem dX1_init_25 : decode cX1_init 25 = .ok (.bipush 100, 2) := by decide +kernel
theorem dX1_init_27 : decode cX1_init 27 = .ok (.newarray .boolean, 2) := by decide +kernel
theorem dX1_init_29 : decode cX1_init 29 = .ok (.putfield 22, 3) := by decide +kernel
theorem dX1_init_32 : decode cX1_init 32 = .ok (.aload_n 0, 1) := by decide +kernel
theorem dX1_init_33 : decode cX1_init 33 = .ok (.iconst 0, 1) := by decide +kernel
theorem dX1_init_34 : decode cX1_init 34 = .ok (.putfield 26, 3) := by decide +kernel
theorem dX1_init_37 : decode cX1_init 37 = .ok (.aload_n 0, 1) := by decide +kernel
theorem dX1_init_38 : decode cX1_init 38 = .ok (.iconst 0, 1) := by decide +kernel
theorem dX1_init_39 : decode cX1_init 39 = .ok (.putfield 30, 3) := by decide +kernel
theorem dX1_init_42 : decode cX1_init 42 = .ok (.aload_n 0, 1) := by decide +kernel
theorem dX1_init_43 : decode cX1_init 43 = .ok (.iconst 0, 1) := by decide +kernel
theorem dX1_init_44 : decode cX1_init 44 = .ok (.putfield 34, 3) := by decide +kernel
theorem dX1_init_47 : decode cX1_init 47 = .ok (.return_, 1) := by decide +kernel
theorem dX1_addCount_0 : decode cX1_addCount 0 = .ok (.aload_n 0, 1) := by decide +kernel
theorem dX1_addCount_1 : decode cX1_addCount 1 = .ok (.getfield 22, 3) := by decide +kernel
theorem dX1_addCount_4 : decode cX1_addCount 4 = .ok (.iload 4, 2) := by decide +kernel
theorem dX1_addCount_6 : decode cX1_addCount 6 = .ok (.iconst 1, 1) := by decide +kernel
theorem dX1_addCount_7 : decode cX1_addCount 7 = .ok (.bastore, 1) := by decide +kernel
theorem dX1_addCount_8 : decode cX1_addCount 8 = .ok (.aload_n 0, 1) := by decide +kernel
theorem dX1_addCount_9 : decode cX1_addCount 9 = .ok (.iconst 1, 1) := by decide +kernel
theorem dX1_addCount_10 : decode cX1_addCount 10 = .ok (.putfield 26, 3) := by decide +kernel
theorem dX1_addCount_13 : decode cX1_addCount 13 = .ok (.aload_n 0, 1) := by decide +kernel
theorem dX1_addCount_14 : decode cX1_addCount 14 = .ok (.getfield 18, 3) := by decide +kernel
theorem dX1_addCount_17 : decode cX1_addCount 17 = .ok (.iload_n 1, 1) := by decide +kernel
theorem dX1_addCount_18 : decode cX1_addCount 18 = .ok (.bipush 40, 2) := by decide +kernel
theorem dX1_addCount_20 : decode cX1_addCount 20 = .ok (.imul, 1) := by decide +kernel
theorem dX1_addCount_21 : decode cX1_addCount 21 = .ok (.iload_n 2, 1) := by decide +kernel
theorem dX1_addCount_22 : decode cX1_addCount 22 = .ok (.iadd, 1) := by decide +kernel
theorem dX1_addCount_23 : decode cX1_addCount 23 = .ok (.dup2, 1) := by decide +kernel
theorem dX1_addCount_24 : decode cX1_addCount 24 = .ok (.iaload, 1) := by decide +kernel
theorem dX1_addCount_25 : decode cX1_addCount 25 = .ok (.iload_n 3, 1) := by decide +kernel
theorem dX1_addCount_26 : decode cX1_addCount 26 = .ok (.iadd, 1) := by decide +kernel
theorem dX1_addCount_27 : decode cX1_addCount 27 = .ok (.iastore, 1) := by decide +kernel
theorem dX1_addCount_28 : decode cX1_addCount 28 = .ok (.return_, 1) := by decide +kernel
theorem dX1_counted_0 : decode cX1_counted 0 = .ok (.iconst 0, 1) := by decide +kernel
theorem dX1_counted_1 : decode cX1_counted 1 = .ok (.istore 4, 2) := by decide +kernel
theorem dX1_counted_3 : decode cX1_counted 3 = .ok (.iload_n 2, 1) := by decide +kernel
theorem dX1_counted_4 : decode cX1_counted 4 = .ok (.istore 5, 2) := by decide +kernel
theorem dX1_counted_6 : decode cX1_counted 6 = .ok (.iload 5, 2) := by decide +kernel
theorem dX1_counted_8 : decode cX1_counted 8 = .ok (.iload_n 3, 1) := by decide +kernel
theorem dX1_counted_9 : decode cX1_counted 9 = .ok (.if_icmp .gt 26, 3) := by decide +kernel
theorem dX1_counted_12 : decode cX1_counted 12 = .ok (.iload 4, 2) := by decide +kernel
theorem dX1_counted_14 : decode cX1_counted 14 = .ok (.aload_n 0, 1) := by decide +kernel
theorem dX1_counted_15 : decode cX1_counted 15 = .ok (.getfield 18, 3) := by decide +kernel
theorem dX1_counted_18 : decode cX1_counted 18 = .ok (.iload_n 1, 1) := by decide +kernel
theorem dX1_counted_19 : decode cX1_counted 19 = .ok (.bipush 40, 2) := by decide +kernel
theorem dX1_counted_21 : decode cX1_counted 21 = .ok (.imul, 1) := by decide +kernel
theorem dX1_counted_22 : decode cX1_counted 22 = .ok (.iload 5, 2) := by decide +kernel
theorem dX1_counted_24 : decode cX1_counted 24 = .ok (.iadd, 1) := by decide +kernel
theorem dX1_counted_25 : decode cX1_counted 25 = .ok (.iaload, 1) := by decide +kernel
theorem dX1_counted_26 : decode cX1_counted 26 = .ok (.iadd, 1) := by decide +kernel
theorem dX1_counted_27 : decode cX1_counted 27 = .ok (.istore 4, 2) := by decide +kernel
theorem dX1_counted_29 : decode cX1_counted 29 = .ok (.iinc 5 1, 3) := by decide +kernel
theorem dX1_counted_32 : decode cX1_counted 32 = .ok (.goto (-26), 3) := by decide +kernel
theorem dX1_counted_35 : decode cX1_counted 35 = .ok (.iload 4, 2) := by decide +kernel
theorem dX1_counted_37 : decode cX1_counted 37 = .ok (.ireturn, 1) := by decide +kernel
theorem dX1_calledAround_0 : decode cX1_calledAround 0 = .ok (.aload_n 0, 1) := by decide +kernel
theorem dX1_calledAround_1 : decode cX1_calledAround 1 = .ok (.iload_n 1, 1) := by decide +kernel
theorem dX1_calledAround_2 : decode cX1_calledAround 2 = .ok (.iload_n 2, 1) := by decide +kernel
theorem dX1_calledAround_3 : decode cX1_calledAround 3 = .ok (.bipush 7, 2) := by decide +kernel
theorem dX1_calledAround_5 : decode cX1_calledAround 5 = .ok (.isub, 1) := by decide +kernel
theorem dX1_calledAround_6 : decode cX1_calledAround 6 = .ok (.iconst 0, 1) := by decide +kernel
theorem dX1_calledAround_7 : decode cX1_calledAround 7 = .ok (.invokestatic 37, 3) := by decide +kernel
theorem dX1_calledAround_10 : decode cX1_calledAround 10 = .ok (.iload_n 2, 1) := by decide +kernel
theorem dX1_calledAround_11 : decode cX1_calledAround 11 = .ok (.bipush 39, 2) := by decide +kernel
theorem dX1_calledAround_13 : decode cX1_calledAround 13 = .ok (.invokestatic 43, 3) := by decide +kernel
theorem dX1_calledAround_16 : decode cX1_calledAround 16 = .ok (.invokevirtual 46, 3) := by decide +kernel
theorem dX1_calledAround_19 : decode cX1_calledAround 19 = .ok (.ifCond .le 7, 3) := by decide +kernel
theorem dX1_calledAround_22 : decode cX1_calledAround 22 = .ok (.iconst 1, 1) := by decide +kernel
theorem dX1_calledAround_23 : decode cX1_calledAround 23 = .ok (.goto 4, 3) := by decide +kernel
theorem dX1_calledAround_26 : decode cX1_calledAround 26 = .ok (.iconst 0, 1) := by decide +kernel
theorem dX1_calledAround_27 : decode cX1_calledAround 27 = .ok (.ireturn, 1) := by decide +kernel
theorem dX1_isSilent_0 : decode cX1_isSilent 0 = .ok (.aload_n 0, 1) := by decide +kernel
theorem dX1_isSilent_1 : decode cX1_isSilent 1 = .ok (.getfield 12, 3) := by decide +kernel
theorem dX1_isSilent_4 : decode cX1_isSilent 4 = .ok (.getfield 50, 3) := by decide +kernel
theorem dX1_isSilent_7 : decode cX1_isSilent 7 = .ok (.ifCond .ne 14, 3) := by decide +kernel
theorem dX1_isSilent_10 : decode cX1_isSilent 10 = .ok (.aload_n 0, 1) := by decide +kernel
theorem dX1_isSilent_11 : decode cX1_isSilent 11 = .ok (.getfield 26, 3) := by decide +kernel
theorem dX1_isSilent_14 : decode cX1_isSilent 14 = .ok (.ifCond .ne 7, 3) := by decide +kernel
theorem dX1_isSilent_17 : decode cX1_isSilent 17 = .ok (.iconst 1, 1) := by decide +kernel
theorem dX1_isSilent_18 : decode cX1_isSilent 18 = .ok (.goto 4, 3) := by decide +kernel
theorem dX1_isSilent_21 : decode cX1_isSilent 21 = .ok (.iconst 0, 1) := by decide +kernel
theorem dX1_isSilent_22 : decode cX1_isSilent 22 = .ok (.ireturn, 1) := by decide +kernel
theorem dX2_init_0 : decode cX2_init 0 = .ok (.aload_n 0, 1) := by decide +kernel
theorem dX2_init_1 : decode cX2_init 1 = .ok (.invokespecial 1, 3) := by decide +kernel
theorem dX2_init_4 : decode cX2_init 4 = .ok (.aload_n 0, 1) := by decide +kernel
theorem dX2_init_5 : decode cX2_init 5 = .ok (.iload_n 1, 1) := by decide +kernel
theorem dX2_init_6 : decode cX2_init 6 = .ok (.putfield 7, 3) := by decide +kernel
theorem dX2_init_9 : decode cX2_init 9 = .ok (.aload_n 0, 1) := by decide +kernel
theorem dX2_init_10 : decode cX2_init 10 = .ok (.iload_n 2, 1) := by decide +kernel
theorem dX2_init_11 : decode cX2_init 11 = .ok (.putfield 13, 3) := by decide +kernel
theorem dX2_init_14 : decode cX2_init 14 = .ok (.aload_n 0, 1) := by decide +kernel
theorem dX2_init_15 : decode cX2_init 15 = .ok (.iload_n 3, 1) := by decide +kernel
theorem dX2_init_16 : decode cX2_init 16 = .ok (.putfield 16, 3) := by decide +kernel
theorem dX2_init_19 : decode cX2_init 19 = .ok (.aload_n 0, 1) := by decide +kernel
theorem dX2_init_20 : decode cX2_init 20 = .ok (.iload 4, 2) := by decide +kernel
theorem dX2_init_22 : decode cX2_init 22 = .ok (.putfield 19, 3) := by decide +kernel
theorem dX2_init_25 : decode cX2_init 25 = .ok (.return_, 1) := by decide +kernel
theorem dX3_init_0 : decode cX3_init 0 = .ok (.aload_n 0, 1) := by decide +kernel
theorem dX3_init_1 : decode cX3_init 1 = .ok (.invokespecial 3, 3) := by decide +kernel
theorem dX3_init_4 : decode cX3_init 4 = .ok (.aload_n 0, 1) := by decide +kernel
theorem dX3_init_5 : decode cX3_init 5 = .ok (.bipush 12, 2) := by decide +kernel
theorem dX3_init_7 : decode cX3_init 7 = .ok (.newarray .int, 2) := by decide +kernel
theorem dX3_init_9 : decode cX3_init 9 = .ok (.putfield 9, 3) := by decide +kernel
theorem dX3_init_12 : decode cX3_init 12 = .ok (.aload_n 0, 1) := by decide +kernel
theorem dX3_init_13 : decode cX3_init 13 = .ok (.bipush 12, 2) := by decide +kernel
theorem dX3_init_15 : decode cX3_init 15 = .ok (.newarray .int, 2) := by decide +kernel
theorem dX3_init_17 : decode cX3_init 17 = .ok (.putfield 15, 3) := by decide +kernel
theorem dX3_init_20 : decode cX3_init 20 = .ok (.aload_n 0, 1) := by decide +kernel
theorem dX3_init_21 : decode cX3_init 21 = .ok (.bipush 12, 2) := by decide +kernel
theorem dX3_init_23 : decode cX3_init 23 = .ok (.newarray .int, 2) := by decide +kernel
theorem dX3_init_25 : decode cX3_init 25 = .ok (.putfield 18, 3) := by decide +kernel
theorem dX3_init_28 : decode cX3_init 28 = .ok (.aload_n 0, 1) := by decide +kernel
theorem dX3_init_29 : decode cX3_init 29 = .ok (.bipush 12, 2) := by decide +kernel
theorem dX3_init_31 : decode cX3_init 31 = .ok (.newarray .int, 2) := by decide +kernel
theorem dX3_init_33 : decode cX3_init 33 = .ok (.putfield 21, 3) := by decide +kernel
theorem dX3_init_36 : decode cX3_init 36 = .ok (.aload_n 0, 1) := by decide +kernel
theorem dX3_init_37 : decode cX3_init 37 = .ok (.bipush 12, 2) := by decide +kernel
theorem dX3_init_39 : decode cX3_init 39 = .ok (.newarray .int, 2) := by decide +kernel
theorem dX3_init_41 : decode cX3_init 41 = .ok (.putfield 24, 3) := by decide +kernel
theorem dX3_init_44 : decode cX3_init 44 = .ok (.aload_n 0, 1) := by decide +kernel
theorem dX3_init_45 : decode cX3_init 45 = .ok (.bipush 96, 2) := by decide +kernel
theorem dX3_init_47 : decode cX3_init 47 = .ok (.newarray .int, 2) := by decide +kernel
theorem dX3_init_49 : decode cX3_init 49 = .ok (.putfield 27, 3) := by decide +kernel
theorem dX3_init_52 : decode cX3_init 52 = .ok (.aload_n 0, 1) := by decide +kernel
theorem dX3_init_53 : decode cX3_init 53 = .ok (.iconst 0, 1) := by decide +kernel
theorem dX3_init_54 : decode cX3_init 54 = .ok (.putfield 30, 3) := by decide +kernel
theorem dX3_init_57 : decode cX3_init 57 = .ok (.return_, 1) := by decide +kernel
theorem dX3_has_0 : decode cX3_has 0 = .ok (.iload_n 1, 1) := by decide +kernel
theorem dX3_has_1 : decode cX3_has 1 = .ok (.aload_n 0, 1) := by decide +kernel
theorem dX3_has_2 : decode cX3_has 2 = .ok (.getfield 30, 3) := by decide +kernel
theorem dX3_has_5 : decode cX3_has 5 = .ok (.iconst 1, 1) := by decide +kernel
theorem dX3_has_6 : decode cX3_has 6 = .ok (.isub, 1) := by decide +kernel
theorem dX3_has_7 : decode cX3_has 7 = .ok (.invokestatic 34, 3) := by decide +kernel
theorem dX3_has_10 : decode cX3_has 10 = .ok (.ireturn, 1) := by decide +kernel
theorem dX3_addCall_0 : decode cX3_addCall 0 = .ok (.aload_n 0, 1) := by decide +kernel
theorem dX3_addCall_1 : decode cX3_addCall 1 = .ok (.getfield 30, 3) := by decide +kernel
theorem dX3_addCall_4 : decode cX3_addCall 4 = .ok (.bipush 12, 2) := by decide +kernel
theorem dX3_addCall_6 : decode cX3_addCall 6 = .ok (.if_icmp .lt 6, 3) := by decide +kernel
theorem dX3_addCall_9 : decode cX3_addCall 9 = .ok (.bipush (-3), 2) := by decide +kernel
theorem dX3_addCall_11 : decode cX3_addCall 11 = .ok (.ireturn, 1) := by decide +kernel
theorem dX3_addCall_12 : decode cX3_addCall 12 = .ok (.iconst 0, 1) := by decide +kernel
theorem dX3_addCall_13 : decode cX3_addCall 13 = .ok (.istore_n 3, 1) := by decide +kernel
theorem dX3_addCall_14 : decode cX3_addCall 14 = .ok (.iload_n 3, 1) := by decide +kernel
theorem dX3_addCall_15 : decode cX3_addCall 15 = .ok (.bipush 8, 2) := by decide +kernel
theorem dX3_addCall_17 : decode cX3_addCall 17 = .ok (.if_icmp .ge 29, 3) := by decide +kernel
theorem dX3_addCall_20 : decode cX3_addCall 20 = .ok (.aload_n 0, 1) := by decide +kernel
theorem dX3_addCall_21 : decode cX3_addCall 21 = .ok (.getfield 27, 3) := by decide +kernel
theorem dX3_addCall_24 : decode cX3_addCall 24 = .ok (.aload_n 0, 1) := by decide +kernel
theorem dX3_addCall_25 : decode cX3_addCall 25 = .ok (.getfield 30, 3) := by decide +kernel
theorem dX3_addCall_28 : decode cX3_addCall 28 = .ok (.bipush 8, 2) := by decide +kernel
theorem dX3_addCall_30 : decode cX3_addCall 30 = .ok (.imul, 1) := by decide +kernel
theorem dX3_addCall_31 : decode cX3_addCall 31 = .ok (.iload_n 3, 1) := by decide +kernel
theorem dX3_addCall_32 : decode cX3_addCall 32 = .ok (.iadd, 1) := by decide +kernel
theorem dX3_addCall_33 : decode cX3_addCall 33 = .ok (.iload_n 1, 1) := by decide +kernel
theorem dX3_addCall_34 : decode cX3_addCall 34 = .ok (.bipush 8, 2) := by decide +kernel
theorem dX3_addCall_36 : decode cX3_addCall 36 = .ok (.imul, 1) := by decide +kernel
theorem dX3_addCall_37 : decode cX3_addCall 37 = .ok (.iload_n 3, 1) := by decide +kernel
theorem dX3_addCall_38 : decode cX3_addCall 38 = .ok (.iadd, 1) := by decide +kernel
theorem dX3_addCall_39 : decode cX3_addCall 39 = .ok (.iastore, 1) := by decide +kernel
theorem dX3_addCall_40 : decode cX3_addCall 40 = .ok (.iinc 3 1, 3) := by decide +kernel
theorem dX3_addCall_43 : decode cX3_addCall 43 = .ok (.goto (-29), 3) := by decide +kernel
theorem dX3_addCall_46 : decode cX3_addCall 46 = .ok (.aload_n 0, 1) := by decide +kernel
theorem dX3_addCall_47 : decode cX3_addCall 47 = .ok (.iconst 0, 1) := by decide +kernel
theorem dX3_addCall_48 : decode cX3_addCall 48 = .ok (.iconst 0, 1) := by decide +kernel
theorem dX3_addCall_49 : decode cX3_addCall 49 = .ok (.iconst 0, 1) := by decide +kernel
theorem dX3_addCall_50 : decode cX3_addCall 50 = .ok (.iconst 0, 1) := by decide +kernel
theorem dX3_addCall_51 : decode cX3_addCall 51 = .ok (.iload_n 2, 1) := by decide +kernel
theorem dX3_addCall_52 : decode cX3_addCall 52 = .ok (.invokevirtual 38, 3) := by decide +kernel
theorem dX3_addCall_55 : decode cX3_addCall 55 = .ok (.ireturn, 1) := by decide +kernel
theorem dX3_addWrap_0 : decode cX3_addWrap 0 = .ok (.aload_n 0, 1) := by decide +kernel
theorem dX3_addWrap_1 : decode cX3_addWrap 1 = .ok (.getfield 30, 3) := by decide +kernel
theorem dX3_addWrap_4 : decode cX3_addWrap 4 = .ok (.bipush 12, 2) := by decide +kernel
theorem dX3_addWrap_6 : decode cX3_addWrap 6 = .ok (.if_icmp .lt 6, 3) := by decide +kernel
theorem dX3_addWrap_9 : decode cX3_addWrap 9 = .ok (.bipush (-3), 2) := by decide +kernel
theorem dX3_addWrap_11 : decode cX3_addWrap 11 = .ok (.ireturn, 1) := by decide +kernel
theorem dX3_addWrap_12 : decode cX3_addWrap 12 = .ok (.iconst 0, 1) := by decide +kernel
theorem dX3_addWrap_13 : decode cX3_addWrap 13 = .ok (.istore 4, 2) := by decide +kernel
theorem dX3_addWrap_15 : decode cX3_addWrap 15 = .ok (.iload 4, 2) := by decide +kernel
theorem dX3_addWrap_17 : decode cX3_addWrap 17 = .ok (.bipush 8, 2) := by decide +kernel
theorem dX3_addWrap_19 : decode cX3_addWrap 19 = .ok (.if_icmp .ge 41, 3) := by decide +kernel
theorem dX3_addWrap_22 : decode cX3_addWrap 22 = .ok (.aload_n 0, 1) := by decide +kernel
theorem dX3_addWrap_23 : decode cX3_addWrap 23 = .ok (.getfield 27, 3) := by decide +kernel
theorem dX3_addWrap_26 : decode cX3_addWrap 26 = .ok (.aload_n 0, 1) := by decide +kernel
theorem dX3_addWrap_27 : decode cX3_addWrap 27 = .ok (.getfield 30, 3) := by decide +kernel
theorem dX3_addWrap_30 : decode cX3_addWrap 30 = .ok (.bipush 8, 2) := by decide +kernel
theorem dX3_addWrap_32 : decode cX3_addWrap 32 = .ok (.imul, 1) := by decide +kernel
theorem dX3_addWrap_33 : decode cX3_addWrap 33 = .ok (.iload 4, 2) := by decide +kernel
theorem dX3_addWrap_35 : decode cX3_addWrap 35 = .ok (.iadd, 1) := by decide +kernel
theorem dX3_addWrap_36 : decode cX3_addWrap 36 = .ok (.aload_n 0, 1) := by decide +kernel
theorem dX3_addWrap_37 : decode cX3_addWrap 37 = .ok (.getfield 27, 3) := by decide +kernel
theorem dX3_addWrap_40 : decode cX3_addWrap 40 = .ok (.iload_n 1, 1) := by decide +kernel
theorem dX3_addWrap_41 : decode cX3_addWrap 41 = .ok (.bipush 8, 2) := by decide +kernel
theorem dX3_addWrap_43 : decode cX3_addWrap 43 = .ok (.imul, 1) := by decide +kernel
theorem dX3_addWrap_44 : decode cX3_addWrap 44 = .ok (.iload 4, 2) := by decide +kernel
theorem dX3_addWrap_46 : decode cX3_addWrap 46 = .ok (.iload_n 2, 1) := by decide +kernel
theorem dX3_addWrap_47 : decode cX3_addWrap 47 = .ok (.iadd, 1) := by decide +kernel
theorem dX3_addWrap_48 : decode cX3_addWrap 48 = .ok (.bipush 8, 2) := by decide +kernel
theorem dX3_addWrap_50 : decode cX3_addWrap 50 = .ok (.irem, 1) := by decide +kernel
theorem dX3_addWrap_51 : decode cX3_addWrap 51 = .ok (.iadd, 1) := by decide +kernel
theorem dX3_addWrap_52 : decode cX3_addWrap 52 = .ok (.iaload, 1) := by decide +kernel
theorem dX3_addWrap_53 : decode cX3_addWrap 53 = .ok (.iastore, 1) := by decide +kernel
theorem dX3_addWrap_54 : decode cX3_addWrap 54 = .ok (.iinc 4 1, 3) := by decide +kernel
theorem dX3_addWrap_57 : decode cX3_addWrap 57 = .ok (.goto (-42), 3) := by decide +kernel
theorem dX3_addWrap_60 : decode cX3_addWrap 60 = .ok (.aload_n 0, 1) := by decide +kernel
theorem dX3_addWrap_61 : decode cX3_addWrap 61 = .ok (.iconst 1, 1) := by decide +kernel
theorem dX3_addWrap_62 : decode cX3_addWrap 62 = .ok (.iload_n 1, 1) := by decide +kernel
theorem dX3_addWrap_63 : decode cX3_addWrap 63 = .ok (.iload_n 1, 1) := by decide +kernel
theorem dX3_addWrap_64 : decode cX3_addWrap 64 = .ok (.iload_n 2, 1) := by decide +kernel
theorem dX3_addWrap_65 : decode cX3_addWrap 65 = .ok (.iload_n 3, 1) := by decide +kernel
theorem dX3_addWrap_66 : decode cX3_addWrap 66 = .ok (.invokevirtual 38, 3) := by decide +kernel
theorem dX3_addWrap_69 : decode cX3_addWrap 69 = .ok (.ireturn, 1) := by decide +kernel
theorem dX3_addSplit_0 : decode cX3_addSplit 0 = .ok (.aload_n 0, 1) := by decide +kernel
theorem dX3_addSplit_1 : decode cX3_addSplit 1 = .ok (.getfield 30, 3) := by decide +kernel
theorem dX3_addSplit_4 : decode cX3_addSplit 4 = .ok (.bipush 12, 2) := by decide +kernel
theorem dX3_addSplit_6 : decode cX3_addSplit 6 = .ok (.if_icmp .lt 6, 3) := by decide +kernel
theorem dX3_addSplit_9 : decode cX3_addSplit 9 = .ok (.bipush (-3), 2) := by decide +kernel
theorem dX3_addSplit_11 : decode cX3_addSplit 11 = .ok (.ireturn, 1) := by decide +kernel
theorem dX3_addSplit_12 : decode cX3_addSplit 12 = .ok (.iconst 0, 1) := by decide +kernel
theorem dX3_addSplit_13 : decode cX3_addSplit 13 = .ok (.istore 5, 2) := by decide +kernel
theorem dX3_addSplit_15 : decode cX3_addSplit 15 = .ok (.iload 5, 2) := by decide +kernel
theorem dX3_addSplit_17 : decode cX3_addSplit 17 = .ok (.bipush 8, 2) := by decide +kernel
theorem dX3_addSplit_19 : decode cX3_addSplit 19 = .ok (.if_icmp .ge 46, 3) := by decide +kernel
theorem dX3_addSplit_22 : decode cX3_addSplit 22 = .ok (.aload_n 0, 1) := by decide +kernel
theorem dX3_addSplit_23 : decode cX3_addSplit 23 = .ok (.getfield 27, 3) := by decide +kernel
theorem dX3_addSplit_26 : decode cX3_addSplit 26 = .ok (.aload_n 0, 1) := by decide +kernel
theorem dX3_addSplit_27 : decode cX3_addSplit 27 = .ok (.getfield 30, 3) := by decide +kernel
theorem dX3_addSplit_30 : decode cX3_addSplit 30 = .ok (.bipush 8, 2) := by decide +kernel
theorem dX3_addSplit_32 : decode cX3_addSplit 32 = .ok (.imul, 1) := by decide +kernel
theorem dX3_addSplit_33 : decode cX3_addSplit 33 = .ok (.iload 5, 2) := by decide +kernel
theorem dX3_addSplit_35 : decode cX3_addSplit 35 = .ok (.iadd, 1) := by decide +kernel
theorem dX3_addSplit_36 : decode cX3_addSplit 36 = .ok (.aload_n 0, 1) := by decide +kernel
theorem dX3_addSplit_37 : decode cX3_addSplit 37 = .ok (.getfield 27, 3) := by decide +kernel
theorem dX3_addSplit_40 : decode cX3_addSplit 40 = .ok (.iload 5, 2) := by decide +kernel
theorem dX3_addSplit_42 : decode cX3_addSplit 42 = .ok (.iload_n 3, 1) := by decide +kernel
theorem dX3_addSplit_43 : decode cX3_addSplit 43 = .ok (.if_icmp .ge 7, 3) := by decide +kernel
theorem dX3_addSplit_46 : decode cX3_addSplit 46 = .ok (.iload_n 1, 1) := by decide +kernel
theorem dX3_addSplit_47 : decode cX3_addSplit 47 = .ok (.goto 4, 3) := by decide +kernel
theorem dX3_addSplit_50 : decode cX3_addSplit 50 = .ok (.iload_n 2, 1) := by decide +kernel
theorem dX3_addSplit_51 : decode cX3_addSplit 51 = .ok (.bipush 8, 2) := by decide +kernel
theorem dX3_addSplit_53 : decode cX3_addSplit 53 = .ok (.imul, 1) := by decide +kernel
theorem dX3_addSplit_54 : decode cX3_addSplit 54 = .ok (.iload 5, 2) := by decide +kernel
theorem dX3_addSplit_56 : decode cX3_addSplit 56 = .ok (.iadd, 1) := by decide +kernel
theorem dX3_addSplit_57 : decode cX3_addSplit 57 = .ok (.iaload, 1) := by decide +kernel
theorem dX3_addSplit_58 : decode cX3_addSplit 58 = .ok (.iastore, 1) := by decide +kernel
theorem dX3_addSplit_59 : decode cX3_addSplit 59 = .ok (.iinc 5 1, 3) := by decide +kernel
theorem dX3_addSplit_62 : decode cX3_addSplit 62 = .ok (.goto (-47), 3) := by decide +kernel
theorem dX3_addSplit_65 : decode cX3_addSplit 65 = .ok (.aload_n 0, 1) := by decide +kernel
theorem dX3_addSplit_66 : decode cX3_addSplit 66 = .ok (.iconst 2, 1) := by decide +kernel
theorem dX3_addSplit_67 : decode cX3_addSplit 67 = .ok (.iload_n 1, 1) := by decide +kernel
theorem dX3_addSplit_68 : decode cX3_addSplit 68 = .ok (.iload_n 2, 1) := by decide +kernel
theorem dX3_addSplit_69 : decode cX3_addSplit 69 = .ok (.iload_n 3, 1) := by decide +kernel
theorem dX3_addSplit_70 : decode cX3_addSplit 70 = .ok (.iload 4, 2) := by decide +kernel
theorem dX3_addSplit_72 : decode cX3_addSplit 72 = .ok (.invokevirtual 38, 3) := by decide +kernel
theorem dX3_addSplit_75 : decode cX3_addSplit 75 = .ok (.ireturn, 1) := by decide +kernel
theorem dX3_added_0 : decode cX3_added 0 = .ok (.aload_n 0, 1) := by decide +kernel
theorem dX3_added_1 : decode cX3_added 1 = .ok (.getfield 9, 3) := by decide +kernel
theorem dX3_added_4 : decode cX3_added 4 = .ok (.aload_n 0, 1) := by decide +kernel
theorem dX3_added_5 : decode cX3_added 5 = .ok (.getfield 30, 3) := by decide +kernel
theorem dX3_added_8 : decode cX3_added 8 = .ok (.iload_n 1, 1) := by decide +kernel
theorem dX3_added_9 : decode cX3_added 9 = .ok (.iastore, 1) := by decide +kernel
theorem dX3_added_10 : decode cX3_added 10 = .ok (.aload_n 0, 1) := by decide +kernel
theorem dX3_added_11 : decode cX3_added 11 = .ok (.getfield 15, 3) := by decide +kernel
theorem dX3_added_14 : decode cX3_added 14 = .ok (.aload_n 0, 1) := by decide +kernel
theorem dX3_added_15 : decode cX3_added 15 = .ok (.getfield 30, 3) := by decide +kernel
theorem dX3_added_18 : decode cX3_added 18 = .ok (.iload_n 2, 1) := by decide +kernel
theorem dX3_added_19 : decode cX3_added 19 = .ok (.iastore, 1) := by decide +kernel
theorem dX3_added_20 : decode cX3_added 20 = .ok (.aload_n 0, 1) := by decide +kernel
theorem dX3_added_21 : decode cX3_added 21 = .ok (.getfield 18, 3) := by decide +kernel
theorem dX3_added_24 : decode cX3_added 24 = .ok (.aload_n 0, 1) := by decide +kernel
theorem dX3_added_25 : decode cX3_added 25 = .ok (.getfield 30, 3) := by decide +kernel
theorem dX3_added_28 : decode cX3_added 28 = .ok (.iload_n 3, 1) := by decide +kernel
theorem dX3_added_29 : decode cX3_added 29 = .ok (.iastore, 1) := by decide +kernel
theorem dX3_added_30 : decode cX3_added 30 = .ok (.aload_n 0, 1) := by decide +kernel
theorem dX3_added_31 : decode cX3_added 31 = .ok (.getfield 21, 3) := by decide +kernel
theorem dX3_added_34 : decode cX3_added 34 = .ok (.aload_n 0, 1) := by decide +kernel
theorem dX3_added_35 : decode cX3_added 35 = .ok (.getfield 30, 3) := by decide +kernel
theorem dX3_added_38 : decode cX3_added 38 = .ok (.iload 4, 2) := by decide +kernel
theorem dX3_added_40 : decode cX3_added 40 = .ok (.iastore, 1) := by decide +kernel
theorem dX3_added_41 : decode cX3_added 41 = .ok (.aload_n 0, 1) := by decide +kernel
theorem dX3_added_42 : decode cX3_added 42 = .ok (.getfield 24, 3) := by decide +kernel
theorem dX3_added_45 : decode cX3_added 45 = .ok (.aload_n 0, 1) := by decide +kernel
theorem dX3_added_46 : decode cX3_added 46 = .ok (.getfield 30, 3) := by decide +kernel
theorem dX3_added_49 : decode cX3_added 49 = .ok (.iload 5, 2) := by decide +kernel
theorem dX3_added_51 : decode cX3_added 51 = .ok (.iastore, 1) := by decide +kernel
theorem dX3_added_52 : decode cX3_added 52 = .ok (.aload_n 0, 1) := by decide +kernel
theorem dX3_added_53 : decode cX3_added 53 = .ok (.dup, 1) := by decide +kernel
theorem dX3_added_54 : decode cX3_added 54 = .ok (.getfield 30, 3) := by decide +kernel
theorem dX3_added_57 : decode cX3_added 57 = .ok (.iconst 1, 1) := by decide +kernel
theorem dX3_added_58 : decode cX3_added 58 = .ok (.iadd, 1) := by decide +kernel
theorem dX3_added_59 : decode cX3_added 59 = .ok (.putfield 30, 3) := by decide +kernel
theorem dX3_added_62 : decode cX3_added 62 = .ok (.aload_n 0, 1) := by decide +kernel
theorem dX3_added_63 : decode cX3_added 63 = .ok (.getfield 30, 3) := by decide +kernel
theorem dX3_added_66 : decode cX3_added 66 = .ok (.iconst 1, 1) := by decide +kernel
theorem dX3_added_67 : decode cX3_added 67 = .ok (.isub, 1) := by decide +kernel
theorem dX3_added_68 : decode cX3_added 68 = .ok (.ireturn, 1) := by decide +kernel
theorem dX3_seenBy_0 : decode cX3_seenBy 0 = .ok (.iconst 0, 1) := by decide +kernel
theorem dX3_seenBy_1 : decode cX3_seenBy 1 = .ok (.istore_n 3, 1) := by decide +kernel
theorem dX3_seenBy_2 : decode cX3_seenBy 2 = .ok (.iconst 0, 1) := by decide +kernel
theorem dX3_seenBy_3 : decode cX3_seenBy 3 = .ok (.istore 4, 2) := by decide +kernel
theorem dX3_seenBy_5 : decode cX3_seenBy 5 = .ok (.iload 4, 2) := by decide +kernel
theorem dX3_seenBy_7 : decode cX3_seenBy 7 = .ok (.bipush 8, 2) := by decide +kernel
theorem dX3_seenBy_9 : decode cX3_seenBy 9 = .ok (.if_icmp .ge 56, 3) := by decide +kernel
theorem dX3_seenBy_12 : decode cX3_seenBy 12 = .ok (.aload_n 0, 1) := by decide +kernel
theorem dX3_seenBy_13 : decode cX3_seenBy 13 = .ok (.getfield 27, 3) := by decide +kernel
theorem dX3_seenBy_16 : decode cX3_seenBy 16 = .ok (.iload_n 1, 1) := by decide +kernel
theorem dX3_seenBy_17 : decode cX3_seenBy 17 = .ok (.bipush 8, 2) := by decide +kernel
theorem dX3_seenBy_19 : decode cX3_seenBy 19 = .ok (.imul, 1) := by decide +kernel
theorem dX3_seenBy_20 : decode cX3_seenBy 20 = .ok (.iload 4, 2) := by decide +kernel
theorem dX3_seenBy_22 : decode cX3_seenBy 22 = .ok (.iadd, 1) := by decide +kernel
theorem dX3_seenBy_23 : decode cX3_seenBy 23 = .ok (.iaload, 1) := by decide +kernel
theorem dX3_seenBy_24 : decode cX3_seenBy 24 = .ok (.istore 5, 2) := by decide +kernel
theorem dX3_seenBy_26 : decode cX3_seenBy 26 = .ok (.aload_n 0, 1) := by decide +kernel
theorem dX3_seenBy_27 : decode cX3_seenBy 27 = .ok (.getfield 24, 3) := by decide +kernel
theorem dX3_seenBy_30 : decode cX3_seenBy 30 = .ok (.iload_n 1, 1) := by decide +kernel
theorem dX3_seenBy_31 : decode cX3_seenBy 31 = .ok (.iaload, 1) := by decide +kernel
theorem dX3_seenBy_32 : decode cX3_seenBy 32 = .ok (.iload 4, 2) := by decide +kernel
theorem dX3_seenBy_34 : decode cX3_seenBy 34 = .ok (.ishr, 1) := by decide +kernel
theorem dX3_seenBy_35 : decode cX3_seenBy 35 = .ok (.iconst 1, 1) := by decide +kernel
theorem dX3_seenBy_36 : decode cX3_seenBy 36 = .ok (.iand, 1) := by decide +kernel
theorem dX3_seenBy_37 : decode cX3_seenBy 37 = .ok (.ifCond .eq 22, 3) := by decide +kernel
theorem dX3_seenBy_40 : decode cX3_seenBy 40 = .ok (.iload 5, 2) := by decide +kernel
theorem dX3_seenBy_42 : decode cX3_seenBy 42 = .ok (.bipush 8, 2) := by decide +kernel
theorem dX3_seenBy_44 : decode cX3_seenBy 44 = .ok (.idiv, 1) := by decide +kernel
theorem dX3_seenBy_45 : decode cX3_seenBy 45 = .ok (.iload_n 2, 1) := by decide +kernel
theorem dX3_seenBy_46 : decode cX3_seenBy 46 = .ok (.if_icmp .ne 13, 3) := by decide +kernel
theorem dX3_seenBy_49 : decode cX3_seenBy 49 = .ok (.iload_n 3, 1) := by decide +kernel
theorem dX3_seenBy_50 : decode cX3_seenBy 50 = .ok (.iconst 1, 1) := by decide +kernel
theorem dX3_seenBy_51 : decode cX3_seenBy 51 = .ok (.iload 5, 2) := by decide +kernel
theorem dX3_seenBy_53 : decode cX3_seenBy 53 = .ok (.bipush 8, 2) := by decide +kernel
theorem dX3_seenBy_55 : decode cX3_seenBy 55 = .ok (.irem, 1) := by decide +kernel
theorem dX3_seenBy_56 : decode cX3_seenBy 56 = .ok (.ishl, 1) := by decide +kernel
theorem dX3_seenBy_57 : decode cX3_seenBy 57 = .ok (.ior, 1) := by decide +kernel
theorem dX3_seenBy_58 : decode cX3_seenBy 58 = .ok (.istore_n 3, 1) := by decide +kernel
theorem dX3_seenBy_59 : decode cX3_seenBy 59 = .ok (.iinc 4 1, 3) := by decide +kernel
theorem dX3_seenBy_62 : decode cX3_seenBy 62 = .ok (.goto (-57), 3) := by decide +kernel
theorem dX3_seenBy_65 : decode cX3_seenBy 65 = .ok (.iload_n 3, 1) := by decide +kernel
theorem dX3_seenBy_66 : decode cX3_seenBy 66 = .ok (.ireturn, 1) := by decide +kernel
theorem dX3_used_0 : decode cX3_used 0 = .ok (.iconst 0, 1) := by decide +kernel
theorem dX3_used_1 : decode cX3_used 1 = .ok (.istore_n 2, 1) := by decide +kernel
theorem dX3_used_2 : decode cX3_used 2 = .ok (.iconst 0, 1) := by decide +kernel
theorem dX3_used_3 : decode cX3_used 3 = .ok (.istore_n 3, 1) := by decide +kernel
theorem dX3_used_4 : decode cX3_used 4 = .ok (.iload_n 3, 1) := by decide +kernel
theorem dX3_used_5 : decode cX3_used 5 = .ok (.aload_n 0, 1) := by decide +kernel
theorem dX3_used_6 : decode cX3_used 6 = .ok (.getfield 30, 3) := by decide +kernel
theorem dX3_used_9 : decode cX3_used 9 = .ok (.if_icmp .ge 18, 3) := by decide +kernel
theorem dX3_used_12 : decode cX3_used 12 = .ok (.iload_n 2, 1) := by decide +kernel
theorem dX3_used_13 : decode cX3_used 13 = .ok (.aload_n 0, 1) := by decide +kernel
theorem dX3_used_14 : decode cX3_used 14 = .ok (.iload_n 3, 1) := by decide +kernel
theorem dX3_used_15 : decode cX3_used 15 = .ok (.iload_n 1, 1) := by decide +kernel
theorem dX3_used_16 : decode cX3_used 16 = .ok (.invokevirtual 42, 3) := by decide +kernel
theorem dX3_used_19 : decode cX3_used 19 = .ok (.ior, 1) := by decide +kernel
theorem dX3_used_20 : decode cX3_used 20 = .ok (.istore_n 2, 1) := by decide +kernel
theorem dX3_used_21 : decode cX3_used 21 = .ok (.iinc 3 1, 3) := by decide +kernel
theorem dX3_used_24 : decode cX3_used 24 = .ok (.goto (-20), 3) := by decide +kernel
theorem dX3_used_27 : decode cX3_used 27 = .ok (.iload_n 2, 1) := by decide +kernel
theorem dX3_used_28 : decode cX3_used 28 = .ok (.ireturn, 1) := by decide +kernel
theorem dX3_someSeesOnly_0 : decode cX3_someSeesOnly 0 = .ok (.iconst 0, 1) := by decide +kernel
theorem dX3_someSeesOnly_1 : decode cX3_someSeesOnly 1 = .ok (.istore_n 3, 1) := by decide +kernel
theorem dX3_someSeesOnly_2 : decode cX3_someSeesOnly 2 = .ok (.iload_n 3, 1) := by decide +kernel
theorem dX3_someSeesOnly_3 : decode cX3_someSeesOnly 3 = .ok (.aload_n 0, 1) := by decide +kernel
theorem dX3_someSeesOnly_4 : decode cX3_someSeesOnly 4 = .ok (.getfield 30, 3) := by decide +kernel
theorem dX3_someSeesOnly_7 : decode cX3_someSeesOnly 7 = .ok (.if_icmp .ge 33, 3) := by decide +kernel
theorem dX3_someSeesOnly_10 : decode cX3_someSeesOnly 10 = .ok (.aload_n 0, 1) := by decide +kernel
theorem dX3_someSeesOnly_11 : decode cX3_someSeesOnly 11 = .ok (.iload_n 3, 1) := by decide +kernel
theorem dX3_someSeesOnly_12 : decode cX3_someSeesOnly 12 = .ok (.iload_n 1, 1) := by decide +kernel
theorem dX3_someSeesOnly_13 : decode cX3_someSeesOnly 13 = .ok (.invokevirtual 42, 3) := by decide +kernel
theorem dX3_someSeesOnly_16 : decode cX3_someSeesOnly 16 = .ok (.istore 4, 2) := by decide +kernel
theorem dX3_someSeesOnly_18 : decode cX3_someSeesOnly 18 = .ok (.iload 4, 2) := by decide +kernel
theorem dX3_someSeesOnly_20 : decode cX3_someSeesOnly 20 = .ok (.ifCond .eq 14, 3) := by decide +kernel
theorem dX3_someSeesOnly_23 : decode cX3_someSeesOnly 23 = .ok (.iload 4, 2) := by decide +kernel
theorem dX3_someSeesOnly_25 : decode cX3_someSeesOnly 25 = .ok (.iload_n 2, 1) := by decide +kernel
theorem dX3_someSeesOnly_26 : decode cX3_someSeesOnly 26 = .ok (.iconst (-1), 1) := by decide +kernel
theorem dX3_someSeesOnly_27 : decode cX3_someSeesOnly 27 = .ok (.ixor, 1) := by decide +kernel
theorem dX3_someSeesOnly_28 : decode cX3_someSeesOnly 28 = .ok (.iand, 1) := by decide +kernel
theorem dX3_someSeesOnly_29 : decode cX3_someSeesOnly 29 = .ok (.ifCond .ne 5, 3) := by decide +kernel
theorem dX3_someSeesOnly_32 : decode cX3_someSeesOnly 32 = .ok (.iconst 1, 1) := by decide +kernel
theorem dX3_someSeesOnly_33 : decode cX3_someSeesOnly 33 = .ok (.ireturn, 1) := by decide +kernel
theorem dX3_someSeesOnly_34 : decode cX3_someSeesOnly 34 = .ok (.iinc 3 1, 3) := by decide +kernel
theorem dX3_someSeesOnly_37 : decode cX3_someSeesOnly 37 = .ok (.goto (-35), 3) := by decide +kernel
theorem dX3_someSeesOnly_40 : decode cX3_someSeesOnly 40 = .ok (.iconst 0, 1) := by decide +kernel
theorem dX3_someSeesOnly_41 : decode cX3_someSeesOnly 41 = .ok (.ireturn, 1) := by decide +kernel
theorem dX3_stepsOf_0 : decode cX3_stepsOf 0 = .ok (.aload_n 0, 1) := by decide +kernel
theorem dX3_stepsOf_1 : decode cX3_stepsOf 1 = .ok (.iload_n 1, 1) := by decide +kernel
theorem dX3_stepsOf_2 : decode cX3_stepsOf 2 = .ok (.aload_n 0, 1) := by decide +kernel
theorem dX3_stepsOf_3 : decode cX3_stepsOf 3 = .ok (.getfield 24, 3) := by decide +kernel
theorem dX3_stepsOf_6 : decode cX3_stepsOf 6 = .ok (.iload_n 1, 1) := by decide +kernel
theorem dX3_stepsOf_7 : decode cX3_stepsOf 7 = .ok (.iaload, 1) := by decide +kernel
theorem dX3_stepsOf_8 : decode cX3_stepsOf 8 = .ok (.iconst 0, 1) := by decide +kernel
theorem dX3_stepsOf_9 : decode cX3_stepsOf 9 = .ok (.invokestatic 46, 3) := by decide +kernel
theorem dX3_stepsOf_12 : decode cX3_stepsOf 12 = .ok (.ireturn, 1) := by decide +kernel
theorem dX3_steps_0 : decode cX3_steps 0 = .ok (.iload_n 2, 1) := by decide +kernel
theorem dX3_steps_1 : decode cX3_steps 1 = .ok (.ifCond .eq 17, 3) := by decide +kernel
theorem dX3_steps_4 : decode cX3_steps 4 = .ok (.iload_n 3, 1) := by decide +kernel
theorem dX3_steps_5 : decode cX3_steps 5 = .ok (.bipush 12, 2) := by decide +kernel
theorem dX3_steps_7 : decode cX3_steps 7 = .ok (.if_icmp .ge 11, 3) := by decide +kernel
theorem dX3_steps_10 : decode cX3_steps 10 = .ok (.aload_n 0, 1) := by decide +kernel
theorem dX3_steps_11 : decode cX3_steps 11 = .ok (.iload_n 1, 1) := by decide +kernel
theorem dX3_steps_12 : decode cX3_steps 12 = .ok (.invokevirtual 50, 3) := by decide +kernel
theorem dX3_steps_15 : decode cX3_steps 15 = .ok (.ifCond .ne 5, 3) := by decide +kernel
theorem dX3_steps_18 : decode cX3_steps 18 = .ok (.iconst 0, 1) := by decide +kernel
theorem dX3_steps_19 : decode cX3_steps 19 = .ok (.ireturn, 1) := by decide +kernel
theorem dX3_steps_20 : decode cX3_steps 20 = .ok (.aload_n 0, 1) := by decide +kernel
theorem dX3_steps_21 : decode cX3_steps 21 = .ok (.getfield 21, 3) := by decide +kernel
theorem dX3_steps_24 : decode cX3_steps 24 = .ok (.iload_n 1, 1) := by decide +kernel
theorem dX3_steps_25 : decode cX3_steps 25 = .ok (.iaload, 1) := by decide +kernel
theorem dX3_steps_26 : decode cX3_steps 26 = .ok (.istore 4, 2) := by decide +kernel
theorem dX3_steps_28 : decode cX3_steps 28 = .ok (.aload_n 0, 1) := by decide +kernel
theorem dX3_steps_29 : decode cX3_steps 29 = .ok (.getfield 9, 3) := by decide +kernel
theorem dX3_steps_32 : decode cX3_steps 32 = .ok (.iload_n 1, 1) := by decide +kernel
theorem dX3_steps_33 : decode cX3_steps 33 = .ok (.iaload, 1) := by decide +kernel
theorem dX3_steps_34 : decode cX3_steps 34 = .ok (.lookupswitch 51 #[(0, 26), (1, 28)], 26) := by decide +kernel
theorem dX3_steps_60 : decode cX3_steps 60 = .ok (.iconst 1, 1) := by decide +kernel
theorem dX3_steps_61 : decode cX3_steps 61 = .ok (.ireturn, 1) := by decide +kernel
theorem dX3_steps_62 : decode cX3_steps 62 = .ok (.bipush 10, 2) := by decide +kernel
theorem dX3_steps_64 : decode cX3_steps 64 = .ok (.aload_n 0, 1) := by decide +kernel
theorem dX3_steps_65 : decode cX3_steps 65 = .ok (.aload_n 0, 1) := by decide +kernel
theorem dX3_steps_66 : decode cX3_steps 66 = .ok (.getfield 15, 3) := by decide +kernel
theorem dX3_steps_69 : decode cX3_steps 69 = .ok (.iload_n 1, 1) := by decide +kernel
theorem dX3_steps_70 : decode cX3_steps 70 = .ok (.iaload, 1) := by decide +kernel
theorem dX3_steps_71 : decode cX3_steps 71 = .ok (.iload_n 2, 1) := by decide +kernel
theorem dX3_steps_72 : decode cX3_steps 72 = .ok (.iload 4, 2) := by decide +kernel
theorem dX3_steps_74 : decode cX3_steps 74 = .ok (.invokestatic 54, 3) := by decide +kernel
theorem dX3_steps_77 : decode cX3_steps 77 = .ok (.iload_n 3, 1) := by decide +kernel
theorem dX3_steps_78 : decode cX3_steps 78 = .ok (.iconst 1, 1) := by decide +kernel
theorem dX3_steps_79 : decode cX3_steps 79 = .ok (.iadd, 1) := by decide +kernel
theorem dX3_steps_80 : decode cX3_steps 80 = .ok (.invokestatic 46, 3) := by decide +kernel
theorem dX3_steps_83 : decode cX3_steps 83 = .ok (.iadd, 1) := by decide +kernel
theorem dX3_steps_84 : decode cX3_steps 84 = .ok (.ireturn, 1) := by decide +kernel
theorem dX3_steps_85 : decode cX3_steps 85 = .ok (.iconst 1, 1) := by decide +kernel
theorem dX3_steps_86 : decode cX3_steps 86 = .ok (.iload 4, 2) := by decide +kernel
theorem dX3_steps_88 : decode cX3_steps 88 = .ok (.ishl, 1) := by decide +kernel
theorem dX3_steps_89 : decode cX3_steps 89 = .ok (.iconst 1, 1) := by decide +kernel
theorem dX3_steps_90 : decode cX3_steps 90 = .ok (.isub, 1) := by decide +kernel
theorem dX3_steps_91 : decode cX3_steps 91 = .ok (.istore 5, 2) := by decide +kernel
theorem dX3_steps_93 : decode cX3_steps 93 = .ok (.bipush 100, 2) := by decide +kernel
theorem dX3_steps_95 : decode cX3_steps 95 = .ok (.aload_n 0, 1) := by decide +kernel
theorem dX3_steps_96 : decode cX3_steps 96 = .ok (.aload_n 0, 1) := by decide +kernel
theorem dX3_steps_97 : decode cX3_steps 97 = .ok (.getfield 15, 3) := by decide +kernel
theorem dX3_steps_100 : decode cX3_steps 100 = .ok (.iload_n 1, 1) := by decide +kernel
theorem dX3_steps_101 : decode cX3_steps 101 = .ok (.iaload, 1) := by decide +kernel
theorem dX3_steps_102 : decode cX3_steps 102 = .ok (.iload_n 2, 1) := by decide +kernel
theorem dX3_steps_103 : decode cX3_steps 103 = .ok (.iload 5, 2) := by decide +kernel
theorem dX3_steps_105 : decode cX3_steps 105 = .ok (.iand, 1) := by decide +kernel
theorem dX3_steps_106 : decode cX3_steps 106 = .ok (.iload_n 3, 1) := by decide +kernel
theorem dX3_steps_107 : decode cX3_steps 107 = .ok (.iconst 1, 1) := by decide +kernel
theorem dX3_steps_108 : decode cX3_steps 108 = .ok (.iadd, 1) := by decide +kernel
theorem dX3_steps_109 : decode cX3_steps 109 = .ok (.invokestatic 46, 3) := by decide +kernel
theorem dX3_steps_112 : decode cX3_steps 112 = .ok (.iadd, 1) := by decide +kernel
theorem dX3_steps_113 : decode cX3_steps 113 = .ok (.aload_n 0, 1) := by decide +kernel
theorem dX3_steps_114 : decode cX3_steps 114 = .ok (.aload_n 0, 1) := by decide +kernel
theorem dX3_steps_115 : decode cX3_steps 115 = .ok (.getfield 18, 3) := by decide +kernel
theorem dX3_steps_118 : decode cX3_steps 118 = .ok (.iload_n 1, 1) := by decide +kernel
theorem dX3_steps_119 : decode cX3_steps 119 = .ok (.iaload, 1) := by decide +kernel
theorem dX3_steps_120 : decode cX3_steps 120 = .ok (.iload_n 2, 1) := by decide +kernel
theorem dX3_steps_121 : decode cX3_steps 121 = .ok (.iload 5, 2) := by decide +kernel
theorem dX3_steps_123 : decode cX3_steps 123 = .ok (.iconst (-1), 1) := by decide +kernel
theorem dX3_steps_124 : decode cX3_steps 124 = .ok (.ixor, 1) := by decide +kernel
theorem dX3_steps_125 : decode cX3_steps 125 = .ok (.iand, 1) := by decide +kernel
theorem dX3_steps_126 : decode cX3_steps 126 = .ok (.iload_n 3, 1) := by decide +kernel
theorem dX3_steps_127 : decode cX3_steps 127 = .ok (.iconst 1, 1) := by decide +kernel
theorem dX3_steps_128 : decode cX3_steps 128 = .ok (.iadd, 1) := by decide +kernel
theorem dX3_steps_129 : decode cX3_steps 129 = .ok (.invokestatic 46, 3) := by decide +kernel
theorem dX3_steps_132 : decode cX3_steps 132 = .ok (.iadd, 1) := by decide +kernel
theorem dX3_steps_133 : decode cX3_steps 133 = .ok (.ireturn, 1) := by decide +kernel
theorem dX3_turned_0 : decode cX3_turned 0 = .ok (.iload_n 0, 1) := by decide +kernel
theorem dX3_turned_1 : decode cX3_turned 1 = .ok (.iload_n 1, 1) := by decide +kernel
theorem dX3_turned_2 : decode cX3_turned 2 = .ok (.ishl, 1) := by decide +kernel
theorem dX3_turned_3 : decode cX3_turned 3 = .ok (.iload_n 0, 1) := by decide +kernel
theorem dX3_turned_4 : decode cX3_turned 4 = .ok (.bipush 8, 2) := by decide +kernel
theorem dX3_turned_6 : decode cX3_turned 6 = .ok (.iload_n 1, 1) := by decide +kernel
theorem dX3_turned_7 : decode cX3_turned 7 = .ok (.isub, 1) := by decide +kernel
theorem dX3_turned_8 : decode cX3_turned 8 = .ok (.ishr, 1) := by decide +kernel
theorem dX3_turned_9 : decode cX3_turned 9 = .ok (.ior, 1) := by decide +kernel
theorem dX3_turned_10 : decode cX3_turned 10 = .ok (.sipush 255, 3) := by decide +kernel
theorem dX3_turned_13 : decode cX3_turned 13 = .ok (.iand, 1) := by decide +kernel
theorem dX3_turned_14 : decode cX3_turned 14 = .ok (.ireturn, 1) := by decide +kernel
theorem dX4_init_0 : decode cX4_init 0 = .ok (.aload_n 0, 1) := by decide +kernel
theorem dX4_init_1 : decode cX4_init 1 = .ok (.invokespecial 1, 3) := by decide +kernel
theorem dX4_init_4 : decode cX4_init 4 = .ok (.aload_n 0, 1) := by decide +kernel
theorem dX4_init_5 : decode cX4_init 5 = .ok (.bipush 8, 2) := by decide +kernel
theorem dX4_init_7 : decode cX4_init 7 = .ok (.anewarray 9, 3) := by decide +kernel
theorem dX4_init_10 : decode cX4_init 10 = .ok (.putfield 11, 3) := by decide +kernel
theorem dX4_init_13 : decode cX4_init 13 = .ok (.aload_n 0, 1) := by decide +kernel
theorem dX4_init_14 : decode cX4_init 14 = .ok (.bipush 6, 2) := by decide +kernel
theorem dX4_init_16 : decode cX4_init 16 = .ok (.anewarray 15, 3) := by decide +kernel
theorem dX4_init_19 : decode cX4_init 19 = .ok (.putfield 17, 3) := by decide +kernel
theorem dX4_init_22 : decode cX4_init 22 = .ok (.aload_n 0, 1) := by decide +kernel
theorem dX4_init_23 : decode cX4_init 23 = .ok (.bipush 12, 2) := by decide +kernel
theorem dX4_init_25 : decode cX4_init 25 = .ok (.anewarray 21, 3) := by decide +kernel
theorem dX4_init_28 : decode cX4_init 28 = .ok (.putfield 23, 3) := by decide +kernel
theorem dX4_init_31 : decode cX4_init 31 = .ok (.aload_n 0, 1) := by decide +kernel
theorem dX4_init_32 : decode cX4_init 32 = .ok (.iconst 0, 1) := by decide +kernel
theorem dX4_init_33 : decode cX4_init 33 = .ok (.putfield 27, 3) := by decide +kernel
theorem dX4_init_36 : decode cX4_init 36 = .ok (.aload_n 0, 1) := by decide +kernel
theorem dX4_init_37 : decode cX4_init 37 = .ok (.iconst 1, 1) := by decide +kernel
theorem dX4_init_38 : decode cX4_init 38 = .ok (.putfield 31, 3) := by decide +kernel
theorem dX4_init_41 : decode cX4_init 41 = .ok (.aload_n 0, 1) := by decide +kernel
theorem dX4_init_42 : decode cX4_init 42 = .ok (.iconst 0, 1) := by decide +kernel
theorem dX4_init_43 : decode cX4_init 43 = .ok (.putfield 34, 3) := by decide +kernel
theorem dX4_init_46 : decode cX4_init 46 = .ok (.aload_n 0, 1) := by decide +kernel
theorem dX4_init_47 : decode cX4_init 47 = .ok (.bipush 100, 2) := by decide +kernel
theorem dX4_init_49 : decode cX4_init 49 = .ok (.putfield 37, 3) := by decide +kernel
theorem dX4_init_52 : decode cX4_init 52 = .ok (.aload_n 0, 1) := by decide +kernel
theorem dX4_init_53 : decode cX4_init 53 = .ok (.lconst 0, 1) := by decide +kernel
theorem dX4_init_54 : decode cX4_init 54 = .ok (.putfield 40, 3) := by decide +kernel
theorem dX4_init_57 : decode cX4_init 57 = .ok (.iconst 0, 1) := by decide +kernel
theorem dX4_init_58 : decode cX4_init 58 = .ok (.istore_n 1, 1) := by decide +kernel
theorem dX4_init_59 : decode cX4_init 59 = .ok (.iload_n 1, 1) := by decide +kernel
theorem dX4_init_60 : decode cX4_init 60 = .ok (.bipush 8, 2) := by decide +kernel
theorem dX4_init_62 : decode cX4_init 62 = .ok (.if_icmp .ge 22, 3) := by decide +kernel
theorem dX4_init_65 : decode cX4_init 65 = .ok (.aload_n 0, 1) := by decide +kernel
theorem dX4_init_66 : decode cX4_init 66 = .ok (.getfield 11, 3) := by decide +kernel
theorem dX4_init_69 : decode cX4_init 69 = .ok (.iload_n 1, 1) := by decide +kernel
theorem dX4_init_70 : decode cX4_init 70 = .ok (.new 9, 3) := by decide +kernel
theorem dX4_init_73 : decode cX4_init 73 = .ok (.dup, 1) := by decide +kernel
theorem dX4_init_74 : decode cX4_init 74 = .ok (.invokespecial 44, 3) := by decide +kernel
theorem dX4_init_77 : decode cX4_init 77 = .ok (.aastore, 1) := by decide +kernel
theorem dX4_init_78 : decode cX4_init 78 = .ok (.iinc 1 1, 3) := by decide +kernel
theorem dX4_init_81 : decode cX4_init 81 = .ok (.goto (-22), 3) := by decide +kernel
theorem dX4_init_84 : decode cX4_init 84 = .ok (.iconst 0, 1) := by decide +kernel
theorem dX4_init_85 : decode cX4_init 85 = .ok (.istore_n 1, 1) := by decide +kernel
theorem dX4_init_86 : decode cX4_init 86 = .ok (.iload_n 1, 1) := by decide +kernel
theorem dX4_init_87 : decode cX4_init 87 = .ok (.bipush 6, 2) := by decide +kernel
theorem dX4_init_89 : decode cX4_init 89 = .ok (.if_icmp .ge 22, 3) := by decide +kernel
theorem dX4_init_92 : decode cX4_init 92 = .ok (.aload_n 0, 1) := by decide +kernel
theorem dX4_init_93 : decode cX4_init 93 = .ok (.getfield 17, 3) := by decide +kernel
theorem dX4_init_96 : decode cX4_init 96 = .ok (.iload_n 1, 1) := by decide +kernel
theorem dX4_init_97 : decode cX4_init 97 = .ok (.new 15, 3) := by decide +kernel
theorem dX4_init_100 : decode cX4_init 100 = .ok (.dup, 1) := by decide +kernel
theorem dX4_init_101 : decode cX4_init 101 = .ok (.invokespecial 45, 3) := by decide +kernel
theorem dX4_init_104 : decode cX4_init 104 = .ok (.aastore, 1) := by decide +kernel
theorem dX4_init_105 : decode cX4_init 105 = .ok (.iinc 1 1, 3) := by decide +kernel
theorem dX4_init_108 : decode cX4_init 108 = .ok (.goto (-22), 3) := by decide +kernel
theorem dX4_init_111 : decode cX4_init 111 = .ok (.return_, 1) := by decide +kernel
theorem dX4_version_0 : decode cX4_version 0 = .ok (.aload_n 0, 1) := by decide +kernel
theorem dX4_version_1 : decode cX4_version 1 = .ok (.getfield 31, 3) := by decide +kernel
theorem dX4_version_4 : decode cX4_version 4 = .ok (.iconst 5, 1) := by decide +kernel
theorem dX4_version_5 : decode cX4_version 5 = .ok (.if_icmp .lt 6, 3) := by decide +kernel
theorem dX4_version_8 : decode cX4_version 8 = .ok (.bipush (-3), 2) := by decide +kernel
theorem dX4_version_10 : decode cX4_version 10 = .ok (.ireturn, 1) := by decide +kernel
theorem dX4_version_11 : decode cX4_version 11 = .ok (.aload_n 0, 1) := by decide +kernel
theorem dX4_version_12 : decode cX4_version 12 = .ok (.getfield 11, 3) := by decide +kernel
theorem dX4_version_15 : decode cX4_version 15 = .ok (.astore_n 1, 1) := by decide +kernel
theorem dX4_version_16 : decode cX4_version 16 = .ok (.aload_n 1, 1) := by decide +kernel
theorem dX4_version_17 : decode cX4_version 17 = .ok (.arraylength, 1) := by decide +kernel
theorem dX4_version_18 : decode cX4_version 18 = .ok (.istore_n 2, 1) := by decide +kernel
theorem dX4_version_19 : decode cX4_version 19 = .ok (.iconst 0, 1) := by decide +kernel
theorem dX4_version_20 : decode cX4_version 20 = .ok (.istore_n 3, 1) := by decide +kernel
theorem dX4_version_21 : decode cX4_version 21 = .ok (.iload_n 3, 1) := by decide +kernel
theorem dX4_version_22 : decode cX4_version 22 = .ok (.iload_n 2, 1) := by decide +kernel
theorem dX4_version_23 : decode cX4_version 23 = .ok (.if_icmp .ge 29, 3) := by decide +kernel
theorem dX4_version_26 : decode cX4_version 26 = .ok (.aload_n 1, 1) := by decide +kernel
theorem dX4_version_27 : decode cX4_version 27 = .ok (.iload_n 3, 1) := by decide +kernel
theorem dX4_version_28 : decode cX4_version 28 = .ok (.aaload, 1) := by decide +kernel
theorem dX4_version_29 : decode cX4_version 29 = .ok (.astore 4, 2) := by decide +kernel
theorem dX4_version_31 : decode cX4_version 31 = .ok (.aload 4, 2) := by decide +kernel
theorem dX4_version_33 : decode cX4_version 33 = .ok (.aload_n 0, 1) := by decide +kernel
theorem dX4_version_34 : decode cX4_version 34 = .ok (.getfield 31, 3) := by decide +kernel
theorem dX4_version_37 : decode cX4_version 37 = .ok (.iconst 1, 1) := by decide +kernel
theorem dX4_version_38 : decode cX4_version 38 = .ok (.isub, 1) := by decide +kernel
theorem dX4_version_39 : decode cX4_version 39 = .ok (.aload_n 0, 1) := by decide +kernel
theorem dX4_version_40 : decode cX4_version 40 = .ok (.getfield 31, 3) := by decide +kernel
theorem dX4_version_43 : decode cX4_version 43 = .ok (.invokevirtual 46, 3) := by decide +kernel
theorem dX4_version_46 : decode cX4_version 46 = .ok (.iinc 3 1, 3) := by decide +kernel
theorem dX4_version_49 : decode cX4_version 49 = .ok (.goto (-28), 3) := by decide +kernel
theorem dX4_version_52 : decode cX4_version 52 = .ok (.aload_n 0, 1) := by decide +kernel
theorem dX4_version_53 : decode cX4_version 53 = .ok (.dup, 1) := by decide +kernel
theorem dX4_version_54 : decode cX4_version 54 = .ok (.getfield 31, 3) := by decide +kernel
theorem dX4_version_57 : decode cX4_version 57 = .ok (.iconst 1, 1) := by decide +kernel
theorem dX4_version_58 : decode cX4_version 58 = .ok (.iadd, 1) := by decide +kernel
theorem dX4_version_59 : decode cX4_version 59 = .ok (.putfield 31, 3) := by decide +kernel
theorem dX4_version_62 : decode cX4_version 62 = .ok (.aload_n 0, 1) := by decide +kernel
theorem dX4_version_63 : decode cX4_version 63 = .ok (.getfield 31, 3) := by decide +kernel
theorem dX4_version_66 : decode cX4_version 66 = .ok (.iconst 1, 1) := by decide +kernel
theorem dX4_version_67 : decode cX4_version 67 = .ok (.isub, 1) := by decide +kernel
theorem dX4_version_68 : decode cX4_version 68 = .ok (.ireturn, 1) := by decide +kernel
theorem dX4_answer_0 : decode cX4_answer 0 = .ok (.aload_n 0, 1) := by decide +kernel
theorem dX4_answer_1 : decode cX4_answer 1 = .ok (.iload_n 1, 1) := by decide +kernel
theorem dX4_answer_2 : decode cX4_answer 2 = .ok (.invokevirtual 50, 3) := by decide +kernel
theorem dX4_answer_5 : decode cX4_answer 5 = .ok (.astore 5, 2) := by decide +kernel
theorem dX4_answer_7 : decode cX4_answer 7 = .ok (.aload 5, 2) := by decide +kernel
theorem dX4_answer_9 : decode cX4_answer 9 = .ok (.ifnull 20, 3) := by decide +kernel
theorem dX4_answer_12 : decode cX4_answer 12 = .ok (.aload_n 0, 1) := by decide +kernel
theorem dX4_answer_13 : decode cX4_answer 13 = .ok (.iload_n 2, 1) := by decide +kernel
theorem dX4_answer_14 : decode cX4_answer 14 = .ok (.invokevirtual 54, 3) := by decide +kernel
theorem dX4_answer_17 : decode cX4_answer 17 = .ok (.ifCond .eq 12, 3) := by decide +kernel
theorem dX4_answer_20 : decode cX4_answer 20 = .ok (.iload_n 3, 1) := by decide +kernel
theorem dX4_answer_21 : decode cX4_answer 21 = .ok (.bipush 7, 2) := by decide +kernel
theorem dX4_answer_23 : decode cX4_answer 23 = .ok (.invokestatic 58, 3) := by decide +kernel
theorem dX4_answer_26 : decode cX4_answer 26 = .ok (.ifCond .ne 6, 3) := by decide +kernel
theorem dX4_answer_29 : decode cX4_answer 29 = .ok (.bipush (-2), 2) := by decide +kernel
theorem dX4_answer_31 : decode cX4_answer 31 = .ok (.ireturn, 1) := by decide +kernel
theorem dX4_answer_32 : decode cX4_answer 32 = .ok (.iload 4, 2) := by decide +kernel
theorem dX4_answer_34 : decode cX4_answer 34 = .ok (.bipush (-9), 2) := by decide +kernel
theorem dX4_answer_36 : decode cX4_answer 36 = .ok (.if_icmp .eq 16, 3) := by decide +kernel
theorem dX4_answer_39 : decode cX4_answer 39 = .ok (.iload 4, 2) := by decide +kernel
theorem dX4_answer_41 : decode cX4_answer 41 = .ok (.bipush 9, 2) := by decide +kernel
theorem dX4_answer_43 : decode cX4_answer 43 = .ok (.invokestatic 58, 3) := by decide +kernel
theorem dX4_answer_46 : decode cX4_answer 46 = .ok (.ifCond .ne 6, 3) := by decide +kernel
theorem dX4_answer_49 : decode cX4_answer 49 = .ok (.bipush (-2), 2) := by decide +kernel
theorem dX4_answer_51 : decode cX4_answer 51 = .ok (.ireturn, 1) := by decide +kernel
theorem dX4_answer_52 : decode cX4_answer 52 = .ok (.aload 5, 2) := by decide +kernel
theorem dX4_answer_54 : decode cX4_answer 54 = .ok (.iload_n 2, 1) := by decide +kernel
theorem dX4_answer_55 : decode cX4_answer 55 = .ok (.iload_n 3, 1) := by decide +kernel
theorem dX4_answer_56 : decode cX4_answer 56 = .ok (.invokevirtual 62, 3) := by decide +kernel
theorem dX4_answer_59 : decode cX4_answer 59 = .ok (.istore 6, 2) := by decide +kernel
theorem dX4_answer_61 : decode cX4_answer 61 = .ok (.aload 5, 2) := by decide +kernel
theorem dX4_answer_63 : decode cX4_answer 63 = .ok (.getfield 66, 3) := by decide +kernel
theorem dX4_answer_66 : decode cX4_answer 66 = .ok (.iload_n 2, 1) := by decide +kernel
theorem dX4_answer_67 : decode cX4_answer 67 = .ok (.bipush 8, 2) := by decide +kernel
theorem dX4_answer_69 : decode cX4_answer 69 = .ok (.imul, 1) := by decide +kernel
theorem dX4_answer_70 : decode cX4_answer 70 = .ok (.iload_n 3, 1) := by decide +kernel
theorem dX4_answer_71 : decode cX4_answer 71 = .ok (.iadd, 1) := by decide +kernel
theorem dX4_answer_72 : decode cX4_answer 72 = .ok (.iload 4, 2) := by decide +kernel
theorem dX4_answer_74 : decode cX4_answer 74 = .ok (.iastore, 1) := by decide +kernel
theorem dX4_answer_75 : decode cX4_answer 75 = .ok (.iload 6, 2) := by decide +kernel
theorem dX4_answer_77 : decode cX4_answer 77 = .ok (.ireturn, 1) := by decide +kernel
theorem dX4_differ_0 : decode cX4_differ 0 = .ok (.aload_n 0, 1) := by decide +kernel
theorem dX4_differ_1 : decode cX4_differ 1 = .ok (.iload_n 1, 1) := by decide +kernel
theorem dX4_differ_2 : decode cX4_differ 2 = .ok (.invokevirtual 50, 3) := by decide +kernel
theorem dX4_differ_5 : decode cX4_differ 5 = .ok (.astore 4, 2) := by decide +kernel
theorem dX4_differ_7 : decode cX4_differ 7 = .ok (.aload 4, 2) := by decide +kernel
theorem dX4_differ_9 : decode cX4_differ 9 = .ok (.ifnull 19, 3) := by decide +kernel
theorem dX4_differ_12 : decode cX4_differ 12 = .ok (.aload_n 0, 1) := by decide +kernel
theorem dX4_differ_13 : decode cX4_differ 13 = .ok (.iload_n 2, 1) := by decide +kernel
theorem dX4_differ_14 : decode cX4_differ 14 = .ok (.invokevirtual 54, 3) := by decide +kernel
theorem dX4_differ_17 : decode cX4_differ 17 = .ok (.ifCond .eq 11, 3) := by decide +kernel
theorem dX4_differ_20 : decode cX4_differ 20 = .ok (.aload_n 0, 1) := by decide +kernel
theorem dX4_differ_21 : decode cX4_differ 21 = .ok (.iload_n 3, 1) := by decide +kernel
theorem dX4_differ_22 : decode cX4_differ 22 = .ok (.invokevirtual 54, 3) := by decide +kernel
theorem dX4_differ_25 : decode cX4_differ 25 = .ok (.ifCond .ne 5, 3) := by decide +kernel
theorem dX4_differ_28 : decode cX4_differ 28 = .ok (.iconst (-1), 1) := by decide +kernel
theorem dX4_differ_29 : decode cX4_differ 29 = .ok (.ireturn, 1) := by decide +kernel
theorem dX4_differ_30 : decode cX4_differ 30 = .ok (.aload 4, 2) := by decide +kernel
theorem dX4_differ_32 : decode cX4_differ 32 = .ok (.iload_n 2, 1) := by decide +kernel
theorem dX4_differ_33 : decode cX4_differ 33 = .ok (.iload_n 3, 1) := by decide +kernel
theorem dX4_differ_34 : decode cX4_differ 34 = .ok (.invokevirtual 70, 3) := by decide +kernel
theorem dX4_differ_37 : decode cX4_differ 37 = .ok (.ireturn, 1) := by decide +kernel
theorem dX4_goes_0 : decode cX4_goes 0 = .ok (.aload_n 0, 1) := by decide +kernel
theorem dX4_goes_1 : decode cX4_goes 1 = .ok (.iload_n 1, 1) := by decide +kernel
theorem dX4_goes_2 : decode cX4_goes 2 = .ok (.invokevirtual 73, 3) := by decide +kernel
theorem dX4_goes_5 : decode cX4_goes 5 = .ok (.astore_n 3, 1) := by decide +kernel
theorem dX4_goes_6 : decode cX4_goes 6 = .ok (.aload_n 3, 1) := by decide +kernel
theorem dX4_goes_7 : decode cX4_goes 7 = .ok (.ifnull 11, 3) := by decide +kernel
theorem dX4_goes_10 : decode cX4_goes 10 = .ok (.aload_n 0, 1) := by decide +kernel
theorem dX4_goes_11 : decode cX4_goes 11 = .ok (.iload_n 2, 1) := by decide +kernel
theorem dX4_goes_12 : decode cX4_goes 12 = .ok (.invokevirtual 54, 3) := by decide +kernel
theorem dX4_goes_15 : decode cX4_goes 15 = .ok (.ifCond .ne 5, 3) := by decide +kernel
theorem dX4_goes_18 : decode cX4_goes 18 = .ok (.iconst (-1), 1) := by decide +kernel
theorem dX4_goes_19 : decode cX4_goes 19 = .ok (.ireturn, 1) := by decide +kernel
theorem dX4_goes_20 : decode cX4_goes 20 = .ok (.aload_n 3, 1) := by decide +kernel
theorem dX4_goes_21 : decode cX4_goes 21 = .ok (.getfield 77, 3) := by decide +kernel
theorem dX4_goes_24 : decode cX4_goes 24 = .ok (.istore 4, 2) := by decide +kernel
theorem dX4_goes_26 : decode cX4_goes 26 = .ok (.aload_n 3, 1) := by decide +kernel
theorem dX4_goes_27 : decode cX4_goes 27 = .ok (.iload_n 2, 1) := by decide +kernel
theorem dX4_goes_28 : decode cX4_goes 28 = .ok (.putfield 77, 3) := by decide +kernel
theorem dX4_goes_31 : decode cX4_goes 31 = .ok (.iload 4, 2) := by decide +kernel
theorem dX4_goes_33 : decode cX4_goes 33 = .ok (.ireturn, 1) := by decide +kernel
theorem dX4_call_0 : decode cX4_call 0 = .ok (.aload_n 0, 1) := by decide +kernel
theorem dX4_call_1 : decode cX4_call 1 = .ok (.iload_n 1, 1) := by decide +kernel
theorem dX4_call_2 : decode cX4_call 2 = .ok (.invokevirtual 73, 3) := by decide +kernel
theorem dX4_call_5 : decode cX4_call 5 = .ok (.astore 4, 2) := by decide +kernel
theorem dX4_call_7 : decode cX4_call 7 = .ok (.aload 4, 2) := by decide +kernel
theorem dX4_call_9 : decode cX4_call 9 = .ok (.ifnull 20, 3) := by decide +kernel
theorem dX4_call_12 : decode cX4_call 12 = .ok (.iload_n 2, 1) := by decide +kernel
theorem dX4_call_13 : decode cX4_call 13 = .ok (.invokestatic 80, 3) := by decide +kernel
theorem dX4_call_16 : decode cX4_call 16 = .ok (.ifCond .eq 13, 3) := by decide +kernel
theorem dX4_call_19 : decode cX4_call 19 = .ok (.iload_n 3, 1) := by decide +kernel
theorem dX4_call_20 : decode cX4_call 20 = .ok (.sipush 255, 3) := by decide +kernel
theorem dX4_call_23 : decode cX4_call 23 = .ok (.invokestatic 58, 3) := by decide +kernel
theorem dX4_call_26 : decode cX4_call 26 = .ok (.ifCond .ne 5, 3) := by decide +kernel
theorem dX4_call_29 : decode cX4_call 29 = .ok (.iconst (-1), 1) := by decide +kernel
theorem dX4_call_30 : decode cX4_call 30 = .ok (.ireturn, 1) := by decide +kernel
theorem dX4_call_31 : decode cX4_call 31 = .ok (.aload 4, 2) := by decide +kernel
theorem dX4_call_33 : decode cX4_call 33 = .ok (.getfield 83, 3) := by decide +kernel
theorem dX4_call_36 : decode cX4_call 36 = .ok (.iload_n 2, 1) := by decide +kernel
theorem dX4_call_37 : decode cX4_call 37 = .ok (.iload_n 3, 1) := by decide +kernel
theorem dX4_call_38 : decode cX4_call 38 = .ok (.invokevirtual 87, 3) := by decide +kernel
theorem dX4_call_41 : decode cX4_call 41 = .ok (.ireturn, 1) := by decide +kernel
theorem dX4_wrap_0 : decode cX4_wrap 0 = .ok (.aload_n 0, 1) := by decide +kernel
theorem dX4_wrap_1 : decode cX4_wrap 1 = .ok (.iload_n 1, 1) := by decide +kernel
theorem dX4_wrap_2 : decode cX4_wrap 2 = .ok (.invokevirtual 73, 3) := by decide +kernel
theorem dX4_wrap_5 : decode cX4_wrap 5 = .ok (.astore 5, 2) := by decide +kernel
theorem dX4_wrap_7 : decode cX4_wrap 7 = .ok (.aload 5, 2) := by decide +kernel
theorem dX4_wrap_9 : decode cX4_wrap 9 = .ok (.ifnull 35, 3) := by decide +kernel
theorem dX4_wrap_12 : decode cX4_wrap 12 = .ok (.aload 5, 2) := by decide +kernel
theorem dX4_wrap_14 : decode cX4_wrap 14 = .ok (.getfield 83, 3) := by decide +kernel
theorem dX4_wrap_17 : decode cX4_wrap 17 = .ok (.iload_n 2, 1) := by decide +kernel
theorem dX4_wrap_18 : decode cX4_wrap 18 = .ok (.invokevirtual 92, 3) := by decide +kernel
theorem dX4_wrap_21 : decode cX4_wrap 21 = .ok (.ifCond .eq 23, 3) := by decide +kernel
theorem dX4_wrap_24 : decode cX4_wrap 24 = .ok (.iload_n 3, 1) := by decide +kernel
theorem dX4_wrap_25 : decode cX4_wrap 25 = .ok (.bipush 7, 2) := by decide +kernel
theorem dX4_wrap_27 : decode cX4_wrap 27 = .ok (.invokestatic 58, 3) := by decide +kernel
theorem dX4_wrap_30 : decode cX4_wrap 30 = .ok (.ifCond .eq 14, 3) := by decide +kernel
theorem dX4_wrap_33 : decode cX4_wrap 33 = .ok (.iload 4, 2) := by decide +kernel
theorem dX4_wrap_35 : decode cX4_wrap 35 = .ok (.sipush 255, 3) := by decide +kernel
theorem dX4_wrap_38 : decode cX4_wrap 38 = .ok (.invokestatic 58, 3) := by decide +kernel
theorem dX4_wrap_41 : decode cX4_wrap 41 = .ok (.ifCond .ne 5, 3) := by decide +kernel
theorem dX4_wrap_44 : decode cX4_wrap 44 = .ok (.iconst (-1), 1) := by decide +kernel
theorem dX4_wrap_45 : decode cX4_wrap 45 = .ok (.ireturn, 1) := by decide +kernel
theorem dX4_wrap_46 : decode cX4_wrap 46 = .ok (.aload 5, 2) := by decide +kernel
theorem dX4_wrap_48 : decode cX4_wrap 48 = .ok (.getfield 83, 3) := by decide +kernel
theorem dX4_wrap_51 : decode cX4_wrap 51 = .ok (.iload_n 2, 1) := by decide +kernel
theorem dX4_wrap_52 : decode cX4_wrap 52 = .ok (.iload_n 3, 1) := by decide +kernel
theorem dX4_wrap_53 : decode cX4_wrap 53 = .ok (.iload 4, 2) := by decide +kernel
theorem dX4_wrap_55 : decode cX4_wrap 55 = .ok (.invokevirtual 95, 3) := by decide +kernel
theorem dX4_wrap_58 : decode cX4_wrap 58 = .ok (.ireturn, 1) := by decide +kernel
theorem dX4_split_0 : decode cX4_split 0 = .ok (.aload_n 0, 1) := by decide +kernel
theorem dX4_split_1 : decode cX4_split 1 = .ok (.iload_n 1, 1) := by decide +kernel
theorem dX4_split_2 : decode cX4_split 2 = .ok (.invokevirtual 73, 3) := by decide +kernel
theorem dX4_split_5 : decode cX4_split 5 = .ok (.astore 6, 2) := by decide +kernel
theorem dX4_split_7 : decode cX4_split 7 = .ok (.aload 6, 2) := by decide +kernel
theorem dX4_split_9 : decode cX4_split 9 = .ok (.ifnull 27, 3) := by decide +kernel
theorem dX4_split_12 : decode cX4_split 12 = .ok (.aload 6, 2) := by decide +kernel
theorem dX4_split_14 : decode cX4_split 14 = .ok (.getfield 83, 3) := by decide +kernel
theorem dX4_split_17 : decode cX4_split 17 = .ok (.iload_n 2, 1) := by decide +kernel
theorem dX4_split_18 : decode cX4_split 18 = .ok (.invokevirtual 92, 3) := by decide +kernel
theorem dX4_split_21 : decode cX4_split 21 = .ok (.ifCond .eq 15, 3) := by decide +kernel
theorem dX4_split_24 : decode cX4_split 24 = .ok (.aload 6, 2) := by decide +kernel
theorem dX4_split_26 : decode cX4_split 26 = .ok (.getfield 83, 3) := by decide +kernel
theorem dX4_split_29 : decode cX4_split 29 = .ok (.iload_n 3, 1) := by decide +kernel
theorem dX4_split_30 : decode cX4_split 30 = .ok (.invokevirtual 92, 3) := by decide +kernel
theorem dX4_split_33 : decode cX4_split 33 = .ok (.ifCond .ne 5, 3) := by decide +kernel
theorem dX4_split_36 : decode cX4_split 36 = .ok (.iconst (-1), 1) := by decide +kernel
theorem dX4_split_37 : decode cX4_split 37 = .ok (.ireturn, 1) := by decide +kernel
theorem dX4_split_38 : decode cX4_split 38 = .ok (.iload 4, 2) := by decide +kernel
theorem dX4_split_40 : decode cX4_split 40 = .ok (.iconst 1, 1) := by decide +kernel
theorem dX4_split_41 : decode cX4_split 41 = .ok (.if_icmp .lt 21, 3) := by decide +kernel
theorem dX4_split_44 : decode cX4_split 44 = .ok (.iload 4, 2) := by decide +kernel
theorem dX4_split_46 : decode cX4_split 46 = .ok (.bipush 7, 2) := by decide +kernel
theorem dX4_split_48 : decode cX4_split 48 = .ok (.if_icmp .gt 14, 3) := by decide +kernel
theorem dX4_split_51 : decode cX4_split 51 = .ok (.iload 5, 2) := by decide +kernel
theorem dX4_split_53 : decode cX4_split 53 = .ok (.sipush 255, 3) := by decide +kernel
theorem dX4_split_56 : decode cX4_split 56 = .ok (.invokestatic 58, 3) := by decide +kernel
theorem dX4_split_59 : decode cX4_split 59 = .ok (.ifCond .ne 5, 3) := by decide +kernel
theorem dX4_split_62 : decode cX4_split 62 = .ok (.iconst (-1), 1) := by decide +kernel
theorem dX4_split_63 : decode cX4_split 63 = .ok (.ireturn, 1) := by decide +kernel
theorem dX4_split_64 : decode cX4_split 64 = .ok (.aload 6, 2) := by decide +kernel
theorem dX4_split_66 : decode cX4_split 66 = .ok (.getfield 83, 3) := by decide +kernel
theorem dX4_split_69 : decode cX4_split 69 = .ok (.iload_n 2, 1) := by decide +kernel
theorem dX4_split_70 : decode cX4_split 70 = .ok (.iload_n 3, 1) := by decide +kernel
theorem dX4_split_71 : decode cX4_split 71 = .ok (.iload 4, 2) := by decide +kernel
theorem dX4_split_73 : decode cX4_split 73 = .ok (.iload 5, 2) := by decide +kernel
theorem dX4_split_75 : decode cX4_split 75 = .ok (.invokevirtual 99, 3) := by decide +kernel
theorem dX4_split_78 : decode cX4_split 78 = .ok (.ireturn, 1) := by decide +kernel
theorem dX4_clear_0 : decode cX4_clear 0 = .ok (.aload_n 0, 1) := by decide +kernel
theorem dX4_clear_1 : decode cX4_clear 1 = .ok (.iload_n 1, 1) := by decide +kernel
theorem dX4_clear_2 : decode cX4_clear 2 = .ok (.invokevirtual 73, 3) := by decide +kernel
theorem dX4_clear_5 : decode cX4_clear 5 = .ok (.astore_n 2, 1) := by decide +kernel
theorem dX4_clear_6 : decode cX4_clear 6 = .ok (.aload_n 2, 1) := by decide +kernel
theorem dX4_clear_7 : decode cX4_clear 7 = .ok (.ifnonnull 5, 3) := by decide +kernel
theorem dX4_clear_10 : decode cX4_clear 10 = .ok (.iconst (-1), 1) := by decide +kernel
theorem dX4_clear_11 : decode cX4_clear 11 = .ok (.ireturn, 1) := by decide +kernel
theorem dX4_clear_12 : decode cX4_clear 12 = .ok (.aload_n 2, 1) := by decide +kernel
theorem dX4_clear_13 : decode cX4_clear 13 = .ok (.getfield 83, 3) := by decide +kernel
theorem dX4_clear_16 : decode cX4_clear 16 = .ok (.getfield 103, 3) := by decide +kernel
theorem dX4_clear_19 : decode cX4_clear 19 = .ok (.istore_n 3, 1) := by decide +kernel
theorem dX4_clear_20 : decode cX4_clear 20 = .ok (.aload_n 2, 1) := by decide +kernel
theorem dX4_clear_21 : decode cX4_clear 21 = .ok (.getfield 83, 3) := by decide +kernel
theorem dX4_clear_24 : decode cX4_clear 24 = .ok (.iconst 0, 1) := by decide +kernel
theorem dX4_clear_25 : decode cX4_clear 25 = .ok (.putfield 103, 3) := by decide +kernel
theorem dX4_clear_28 : decode cX4_clear 28 = .ok (.iload_n 3, 1) := by decide +kernel
theorem dX4_clear_29 : decode cX4_clear 29 = .ok (.ireturn, 1) := by decide +kernel
theorem dX4_sees_0 : decode cX4_sees 0 = .ok (.aload_n 0, 1) := by decide +kernel
theorem dX4_sees_1 : decode cX4_sees 1 = .ok (.iload_n 1, 1) := by decide +kernel
theorem dX4_sees_2 : decode cX4_sees 2 = .ok (.invokevirtual 73, 3) := by decide +kernel
theorem dX4_sees_5 : decode cX4_sees 5 = .ok (.astore 4, 2) := by decide +kernel
theorem dX4_sees_7 : decode cX4_sees 7 = .ok (.aload 4, 2) := by decide +kernel
theorem dX4_sees_9 : decode cX4_sees 9 = .ok (.ifnull 22, 3) := by decide +kernel
theorem dX4_sees_12 : decode cX4_sees 12 = .ok (.aload 4, 2) := by decide +kernel
theorem dX4_sees_14 : decode cX4_sees 14 = .ok (.getfield 83, 3) := by decide +kernel
theorem dX4_sees_17 : decode cX4_sees 17 = .ok (.iload_n 2, 1) := by decide +kernel
theorem dX4_sees_18 : decode cX4_sees 18 = .ok (.invokevirtual 92, 3) := by decide +kernel
theorem dX4_sees_21 : decode cX4_sees 21 = .ok (.ifCond .eq 10, 3) := by decide +kernel
theorem dX4_sees_24 : decode cX4_sees 24 = .ok (.iload_n 3, 1) := by decide +kernel
theorem dX4_sees_25 : decode cX4_sees 25 = .ok (.invokestatic 80, 3) := by decide +kernel
theorem dX4_sees_28 : decode cX4_sees 28 = .ok (.ifCond .ne 5, 3) := by decide +kernel
theorem dX4_sees_31 : decode cX4_sees 31 = .ok (.iconst (-1), 1) := by decide +kernel
theorem dX4_sees_32 : decode cX4_sees 32 = .ok (.ireturn, 1) := by decide +kernel
theorem dX4_sees_33 : decode cX4_sees 33 = .ok (.aload_n 0, 1) := by decide +kernel
theorem dX4_sees_34 : decode cX4_sees 34 = .ok (.dup, 1) := by decide +kernel
theorem dX4_sees_35 : decode cX4_sees 35 = .ok (.getfield 40, 3) := by decide +kernel
theorem dX4_sees_38 : decode cX4_sees 38 = .ok (.aload 4, 2) := by decide +kernel
theorem dX4_sees_40 : decode cX4_sees 40 = .ok (.getfield 83, 3) := by decide +kernel
theorem dX4_sees_43 : decode cX4_sees 43 = .ok (.iload_n 2, 1) := by decide +kernel
theorem dX4_sees_44 : decode cX4_sees 44 = .ok (.invokevirtual 106, 3) := by decide +kernel
theorem dX4_sees_47 : decode cX4_sees 47 = .ok (.i2l, 1) := by decide +kernel
theorem dX4_sees_48 : decode cX4_sees 48 = .ok (.ladd, 1) := by decide +kernel
theorem dX4_sees_49 : decode cX4_sees 49 = .ok (.putfield 40, 3) := by decide +kernel
theorem dX4_sees_52 : decode cX4_sees 52 = .ok (.aload 4, 2) := by decide +kernel
theorem dX4_sees_54 : decode cX4_sees 54 = .ok (.getfield 83, 3) := by decide +kernel
theorem dX4_sees_57 : decode cX4_sees 57 = .ok (.iload_n 2, 1) := by decide +kernel
theorem dX4_sees_58 : decode cX4_sees 58 = .ok (.iload_n 3, 1) := by decide +kernel
theorem dX4_sees_59 : decode cX4_sees 59 = .ok (.invokevirtual 110, 3) := by decide +kernel
theorem dX4_sees_62 : decode cX4_sees 62 = .ok (.ireturn, 1) := by decide +kernel
theorem dX4_uses_0 : decode cX4_uses 0 = .ok (.aload_n 0, 1) := by decide +kernel
theorem dX4_uses_1 : decode cX4_uses 1 = .ok (.iload_n 1, 1) := by decide +kernel
theorem dX4_uses_2 : decode cX4_uses 2 = .ok (.invokevirtual 73, 3) := by decide +kernel
theorem dX4_uses_5 : decode cX4_uses 5 = .ok (.astore_n 3, 1) := by decide +kernel
theorem dX4_uses_6 : decode cX4_uses 6 = .ok (.aload_n 3, 1) := by decide +kernel
theorem dX4_uses_7 : decode cX4_uses 7 = .ok (.ifnull 10, 3) := by decide +kernel
theorem dX4_uses_10 : decode cX4_uses 10 = .ok (.iload_n 2, 1) := by decide +kernel
theorem dX4_uses_11 : decode cX4_uses 11 = .ok (.invokestatic 80, 3) := by decide +kernel
theorem dX4_uses_14 : decode cX4_uses 14 = .ok (.ifCond .ne 5, 3) := by decide +kernel
theorem dX4_uses_17 : decode cX4_uses 17 = .ok (.iconst (-1), 1) := by decide +kernel
theorem dX4_uses_18 : decode cX4_uses 18 = .ok (.ireturn, 1) := by decide +kernel
theorem dX4_uses_19 : decode cX4_uses 19 = .ok (.aload_n 3, 1) := by decide +kernel
theorem dX4_uses_20 : decode cX4_uses 20 = .ok (.getfield 83, 3) := by decide +kernel
theorem dX4_uses_23 : decode cX4_uses 23 = .ok (.iload_n 2, 1) := by decide +kernel
theorem dX4_uses_24 : decode cX4_uses 24 = .ok (.invokevirtual 113, 3) := by decide +kernel
theorem dX4_uses_27 : decode cX4_uses 27 = .ok (.ireturn, 1) := by decide +kernel
theorem dX4_shape_0 : decode cX4_shape 0 = .ok (.aload_n 0, 1) := by decide +kernel
theorem dX4_shape_1 : decode cX4_shape 1 = .ok (.iload_n 1, 1) := by decide +kernel
theorem dX4_shape_2 : decode cX4_shape 2 = .ok (.invokevirtual 73, 3) := by decide +kernel
theorem dX4_shape_5 : decode cX4_shape 5 = .ok (.astore_n 3, 1) := by decide +kernel
theorem dX4_shape_6 : decode cX4_shape 6 = .ok (.aload_n 3, 1) := by decide +kernel
theorem dX4_shape_7 : decode cX4_shape 7 = .ok (.ifnull 10, 3) := by decide +kernel
theorem dX4_shape_10 : decode cX4_shape 10 = .ok (.iload_n 2, 1) := by decide +kernel
theorem dX4_shape_11 : decode cX4_shape 11 = .ok (.invokestatic 80, 3) := by decide +kernel
theorem dX4_shape_14 : decode cX4_shape 14 = .ok (.ifCond .ne 5, 3) := by decide +kernel
theorem dX4_shape_17 : decode cX4_shape 17 = .ok (.iconst (-1), 1) := by decide +kernel
theorem dX4_shape_18 : decode cX4_shape 18 = .ok (.ireturn, 1) := by decide +kernel
theorem dX4_shape_19 : decode cX4_shape 19 = .ok (.aload_n 3, 1) := by decide +kernel
theorem dX4_shape_20 : decode cX4_shape 20 = .ok (.getfield 83, 3) := by decide +kernel
theorem dX4_shape_23 : decode cX4_shape 23 = .ok (.iload_n 2, 1) := by decide +kernel
theorem dX4_shape_24 : decode cX4_shape 24 = .ok (.invokevirtual 113, 3) := by decide +kernel
theorem dX4_shape_27 : decode cX4_shape 27 = .ok (.invokestatic 116, 3) := by decide +kernel
theorem dX4_shape_30 : decode cX4_shape 30 = .ok (.istore 4, 2) := by decide +kernel
theorem dX4_shape_32 : decode cX4_shape 32 = .ok (.iload 4, 2) := by decide +kernel
theorem dX4_shape_34 : decode cX4_shape 34 = .ok (.ifCond .ne 5, 3) := by decide +kernel
theorem dX4_shape_37 : decode cX4_shape 37 = .ok (.iconst 0, 1) := by decide +kernel
theorem dX4_shape_38 : decode cX4_shape 38 = .ok (.ireturn, 1) := by decide +kernel
theorem dX4_shape_39 : decode cX4_shape 39 = .ok (.iload 4, 2) := by decide +kernel
theorem dX4_shape_41 : decode cX4_shape 41 = .ok (.iconst 1, 1) := by decide +kernel
theorem dX4_shape_42 : decode cX4_shape 42 = .ok (.if_icmp .ne 5, 3) := by decide +kernel
theorem dX4_shape_45 : decode cX4_shape 45 = .ok (.iconst 1, 1) := by decide +kernel
theorem dX4_shape_46 : decode cX4_shape 46 = .ok (.ireturn, 1) := by decide +kernel
theorem dX4_shape_47 : decode cX4_shape 47 = .ok (.iload 4, 2) := by decide +kernel
theorem dX4_shape_49 : decode cX4_shape 49 = .ok (.bipush 8, 2) := by decide +kernel
theorem dX4_shape_51 : decode cX4_shape 51 = .ok (.if_icmp .ge 7, 3) := by decide +kernel
theorem dX4_shape_54 : decode cX4_shape 54 = .ok (.iconst 2, 1) := by decide +kernel
theorem dX4_shape_55 : decode cX4_shape 55 = .ok (.goto 4, 3) := by decide +kernel
theorem dX4_shape_58 : decode cX4_shape 58 = .ok (.iconst 3, 1) := by decide +kernel
theorem dX4_shape_59 : decode cX4_shape 59 = .ok (.ireturn, 1) := by decide +kernel
theorem dX4_count_0 : decode cX4_count 0 = .ok (.aload_n 0, 1) := by decide +kernel
theorem dX4_count_1 : decode cX4_count 1 = .ok (.iload_n 1, 1) := by decide +kernel
theorem dX4_count_2 : decode cX4_count 2 = .ok (.invokevirtual 73, 3) := by decide +kernel
theorem dX4_count_5 : decode cX4_count 5 = .ok (.astore 6, 2) := by decide +kernel
theorem dX4_count_7 : decode cX4_count 7 = .ok (.aload_n 0, 1) := by decide +kernel
theorem dX4_count_8 : decode cX4_count 8 = .ok (.iload_n 2, 1) := by decide +kernel
theorem dX4_count_9 : decode cX4_count 9 = .ok (.invokevirtual 50, 3) := by decide +kernel
theorem dX4_count_12 : decode cX4_count 12 = .ok (.astore 7, 2) := by decide +kernel
theorem dX4_count_14 : decode cX4_count 14 = .ok (.aload 6, 2) := by decide +kernel
theorem dX4_count_16 : decode cX4_count 16 = .ok (.ifnull 23, 3) := by decide +kernel
theorem dX4_count_19 : decode cX4_count 19 = .ok (.aload 7, 2) := by decide +kernel
theorem dX4_count_21 : decode cX4_count 21 = .ok (.ifnull 18, 3) := by decide +kernel
theorem dX4_count_24 : decode cX4_count 24 = .ok (.iload_n 3, 1) := by decide +kernel
theorem dX4_count_25 : decode cX4_count 25 = .ok (.invokestatic 121, 3) := by decide +kernel
theorem dX4_count_28 : decode cX4_count 28 = .ok (.ifCond .eq 11, 3) := by decide +kernel
theorem dX4_count_31 : decode cX4_count 31 = .ok (.iload_n 3, 1) := by decide +kernel
theorem dX4_count_32 : decode cX4_count 32 = .ok (.aload_n 0, 1) := by decide +kernel
theorem dX4_count_33 : decode cX4_count 33 = .ok (.getfield 34, 3) := by decide +kernel
theorem dX4_count_36 : decode cX4_count 36 = .ok (.if_icmp .le 5, 3) := by decide +kernel
theorem dX4_count_39 : decode cX4_count 39 = .ok (.iconst (-1), 1) := by decide +kernel
theorem dX4_count_40 : decode cX4_count 40 = .ok (.ireturn, 1) := by decide +kernel
theorem dX4_count_41 : decode cX4_count 41 = .ok (.iload 4, 2) := by decide +kernel
theorem dX4_count_43 : decode cX4_count 43 = .ok (.sipush 1000, 3) := by decide +kernel
theorem dX4_count_46 : decode cX4_count 46 = .ok (.invokestatic 58, 3) := by decide +kernel
theorem dX4_count_49 : decode cX4_count 49 = .ok (.ifCond .eq 13, 3) := by decide +kernel
theorem dX4_count_52 : decode cX4_count 52 = .ok (.iload 5, 2) := by decide +kernel
theorem dX4_count_54 : decode cX4_count 54 = .ok (.bipush 99, 2) := by decide +kernel
theorem dX4_count_56 : decode cX4_count 56 = .ok (.invokestatic 58, 3) := by decide +kernel
theorem dX4_count_59 : decode cX4_count 59 = .ok (.ifCond .ne 5, 3) := by decide +kernel
theorem dX4_count_62 : decode cX4_count 62 = .ok (.iconst (-1), 1) := by decide +kernel
theorem dX4_count_63 : decode cX4_count 63 = .ok (.ireturn, 1) := by decide +kernel
theorem dX4_count_64 : decode cX4_count 64 = .ok (.aload 6, 2) := by decide +kernel
theorem dX4_count_66 : decode cX4_count 66 = .ok (.getfield 124, 3) := by decide +kernel
theorem dX4_count_69 : decode cX4_count 69 = .ok (.iload 5, 2) := by decide +kernel
theorem dX4_count_71 : decode cX4_count 71 = .ok (.baload, 1) := by decide +kernel
theorem dX4_count_72 : decode cX4_count 72 = .ok (.ifCond .eq 5, 3) := by decide +kernel
theorem dX4_count_75 : decode cX4_count 75 = .ok (.iconst 0, 1) := by decide +kernel
theorem dX4_count_76 : decode cX4_count 76 = .ok (.ireturn, 1) := by decide +kernel
theorem dX4_count_77 : decode cX4_count 77 = .ok (.aload 6, 2) := by decide +kernel
theorem dX4_count_79 : decode cX4_count 79 = .ok (.iload_n 2, 1) := by decide +kernel
theorem dX4_count_80 : decode cX4_count 80 = .ok (.iload_n 3, 1) := by decide +kernel
theorem dX4_count_81 : decode cX4_count 81 = .ok (.iload 4, 2) := by decide +kernel
theorem dX4_count_83 : decode cX4_count 83 = .ok (.iload 5, 2) := by decide +kernel
theorem dX4_count_85 : decode cX4_count 85 = .ok (.invokevirtual 128, 3) := by decide +kernel
theorem dX4_count_88 : decode cX4_count 88 = .ok (.iload 4, 2) := by decide +kernel
theorem dX4_count_90 : decode cX4_count 90 = .ok (.ifCond .le 30, 3) := by decide +kernel
theorem dX4_count_93 : decode cX4_count 93 = .ok (.aload 7, 2) := by decide +kernel
theorem dX4_count_95 : decode cX4_count 95 = .ok (.iload_n 3, 1) := by decide +kernel
theorem dX4_count_96 : decode cX4_count 96 = .ok (.invokevirtual 132, 3) := by decide +kernel
theorem dX4_count_99 : decode cX4_count 99 = .ok (.ifCond .eq 21, 3) := by decide +kernel
theorem dX4_count_102 : decode cX4_count 102 = .ok (.aload 7, 2) := by decide +kernel
theorem dX4_count_104 : decode cX4_count 104 = .ok (.bipush (-9), 2) := by decide +kernel
theorem dX4_count_106 : decode cX4_count 106 = .ok (.putfield 135, 3) := by decide +kernel
theorem dX4_count_109 : decode cX4_count 109 = .ok (.aload 7, 2) := by decide +kernel
theorem dX4_count_111 : decode cX4_count 111 = .ok (.dup, 1) := by decide +kernel
theorem dX4_count_112 : decode cX4_count 112 = .ok (.getfield 138, 3) := by decide +kernel
theorem dX4_count_115 : decode cX4_count 115 = .ok (.iconst 1, 1) := by decide +kernel
theorem dX4_count_116 : decode cX4_count 116 = .ok (.iadd, 1) := by decide +kernel
theorem dX4_count_117 : decode cX4_count 117 = .ok (.putfield 138, 3) := by decide +kernel
theorem dX4_count_120 : decode cX4_count 120 = .ok (.iconst 1, 1) := by decide +kernel
theorem dX4_count_121 : decode cX4_count 121 = .ok (.ireturn, 1) := by decide +kernel
theorem dX4_sum_0 : decode cX4_sum 0 = .ok (.aload_n 0, 1) := by decide +kernel
theorem dX4_sum_1 : decode cX4_sum 1 = .ok (.iload_n 1, 1) := by decide +kernel
theorem dX4_sum_2 : decode cX4_sum 2 = .ok (.invokevirtual 73, 3) := by decide +kernel
theorem dX4_sum_5 : decode cX4_sum 5 = .ok (.astore 5, 2) := by decide +kernel
theorem dX4_sum_7 : decode cX4_sum 7 = .ok (.aload 5, 2) := by decide +kernel
theorem dX4_sum_9 : decode cX4_sum 9 = .ok (.ifnull 19, 3) := by decide +kernel
theorem dX4_sum_12 : decode cX4_sum 12 = .ok (.iload_n 2, 1) := by decide +kernel
theorem dX4_sum_13 : decode cX4_sum 13 = .ok (.invokestatic 80, 3) := by decide +kernel
theorem dX4_sum_16 : decode cX4_sum 16 = .ok (.ifCond .eq 12, 3) := by decide +kernel
theorem dX4_sum_19 : decode cX4_sum 19 = .ok (.iload_n 3, 1) := by decide +kernel
theorem dX4_sum_20 : decode cX4_sum 20 = .ok (.iload 4, 2) := by decide +kernel
theorem dX4_sum_22 : decode cX4_sum 22 = .ok (.invokestatic 141, 3) := by decide +kernel
theorem dX4_sum_25 : decode cX4_sum 25 = .ok (.ifCond .ne 5, 3) := by decide +kernel
theorem dX4_sum_28 : decode cX4_sum 28 = .ok (.iconst (-1), 1) := by decide +kernel
theorem dX4_sum_29 : decode cX4_sum 29 = .ok (.ireturn, 1) := by decide +kernel
theorem dX4_sum_30 : decode cX4_sum 30 = .ok (.aload 5, 2) := by decide +kernel
theorem dX4_sum_32 : decode cX4_sum 32 = .ok (.iload_n 2, 1) := by decide +kernel
theorem dX4_sum_33 : decode cX4_sum 33 = .ok (.iload_n 3, 1) := by decide +kernel
theorem dX4_sum_34 : decode cX4_sum 34 = .ok (.iload 4, 2) := by decide +kernel
theorem dX4_sum_36 : decode cX4_sum 36 = .ok (.invokevirtual 144, 3) := by decide +kernel
theorem dX4_sum_39 : decode cX4_sum 39 = .ok (.ireturn, 1) := by decide +kernel
theorem dX4_silent_0 : decode cX4_silent 0 = .ok (.aload_n 0, 1) := by decide +kernel
theorem dX4_silent_1 : decode cX4_silent 1 = .ok (.iload_n 1, 1) := by decide +kernel
theorem dX4_silent_2 : decode cX4_silent 2 = .ok (.invokevirtual 73, 3) := by decide +kernel
theorem dX4_silent_5 : decode cX4_silent 5 = .ok (.astore_n 2, 1) := by decide +kernel
theorem dX4_silent_6 : decode cX4_silent 6 = .ok (.aload_n 2, 1) := by decide +kernel
theorem dX4_silent_7 : decode cX4_silent 7 = .ok (.ifnonnull 5, 3) := by decide +kernel
theorem dX4_silent_10 : decode cX4_silent 10 = .ok (.iconst (-1), 1) := by decide +kernel
theorem dX4_silent_11 : decode cX4_silent 11 = .ok (.ireturn, 1) := by decide +kernel
theorem dX4_silent_12 : decode cX4_silent 12 = .ok (.aload_n 2, 1) := by decide +kernel
theorem dX4_silent_13 : decode cX4_silent 13 = .ok (.invokevirtual 147, 3) := by decide +kernel
theorem dX4_silent_16 : decode cX4_silent 16 = .ok (.ifCond .eq 7, 3) := by decide +kernel
theorem dX4_silent_19 : decode cX4_silent 19 = .ok (.iconst 1, 1) := by decide +kernel
theorem dX4_silent_20 : decode cX4_silent 20 = .ok (.goto 4, 3) := by decide +kernel
theorem dX4_silent_23 : decode cX4_silent 23 = .ok (.iconst 0, 1) := by decide +kernel
theorem dX4_silent_24 : decode cX4_silent 24 = .ok (.ireturn, 1) := by decide +kernel
theorem dX4_most_0 : decode cX4_most 0 = .ok (.iload_n 1, 1) := by decide +kernel
theorem dX4_most_1 : decode cX4_most 1 = .ok (.invokestatic 80, 3) := by decide +kernel
theorem dX4_most_4 : decode cX4_most 4 = .ok (.ifCond .eq 11, 3) := by decide +kernel
theorem dX4_most_7 : decode cX4_most 7 = .ok (.iload_n 2, 1) := by decide +kernel
theorem dX4_most_8 : decode cX4_most 8 = .ok (.iload_n 3, 1) := by decide +kernel
theorem dX4_most_9 : decode cX4_most 9 = .ok (.invokestatic 141, 3) := by decide +kernel
theorem dX4_most_12 : decode cX4_most 12 = .ok (.ifCond .ne 5, 3) := by decide +kernel
theorem dX4_most_15 : decode cX4_most 15 = .ok (.iconst (-1), 1) := by decide +kernel
theorem dX4_most_16 : decode cX4_most 16 = .ok (.ireturn, 1) := by decide +kernel
theorem dX4_most_17 : decode cX4_most 17 = .ok (.aload_n 0, 1) := by decide +kernel
theorem dX4_most_18 : decode cX4_most 18 = .ok (.invokevirtual 151, 3) := by decide +kernel
theorem dX4_most_21 : decode cX4_most 21 = .ok (.aload_n 0, 1) := by decide +kernel
theorem dX4_most_22 : decode cX4_most 22 = .ok (.getfield 37, 3) := by decide +kernel
theorem dX4_most_25 : decode cX4_most 25 = .ok (.imul, 1) := by decide +kernel
theorem dX4_most_26 : decode cX4_most 26 = .ok (.iload_n 3, 1) := by decide +kernel
theorem dX4_most_27 : decode cX4_most 27 = .ok (.iload_n 2, 1) := by decide +kernel
theorem dX4_most_28 : decode cX4_most 28 = .ok (.isub, 1) := by decide +kernel
theorem dX4_most_29 : decode cX4_most 29 = .ok (.iconst 1, 1) := by decide +kernel
theorem dX4_most_30 : decode cX4_most 30 = .ok (.iadd, 1) := by decide +kernel
theorem dX4_most_31 : decode cX4_most 31 = .ok (.imul, 1) := by decide +kernel
theorem dX4_most_32 : decode cX4_most 32 = .ok (.istore 4, 2) := by decide +kernel
theorem dX4_most_34 : decode cX4_most 34 = .ok (.aload_n 0, 1) := by decide +kernel
theorem dX4_most_35 : decode cX4_most 35 = .ok (.getfield 17, 3) := by decide +kernel
theorem dX4_most_38 : decode cX4_most 38 = .ok (.astore 5, 2) := by decide +kernel
theorem dX4_most_40 : decode cX4_most 40 = .ok (.aload 5, 2) := by decide +kernel
theorem dX4_most_42 : decode cX4_most 42 = .ok (.arraylength, 1) := by decide +kernel
theorem dX4_most_43 : decode cX4_most 43 = .ok (.istore 6, 2) := by decide +kernel
theorem dX4_most_45 : decode cX4_most 45 = .ok (.iconst 0, 1) := by decide +kernel
theorem dX4_most_46 : decode cX4_most 46 = .ok (.istore 7, 2) := by decide +kernel
theorem dX4_most_48 : decode cX4_most 48 = .ok (.iload 7, 2) := by decide +kernel
theorem dX4_most_50 : decode cX4_most 50 = .ok (.iload 6, 2) := by decide +kernel
theorem dX4_most_52 : decode cX4_most 52 = .ok (.if_icmp .ge 29, 3) := by decide +kernel
theorem dX4_most_55 : decode cX4_most 55 = .ok (.aload 5, 2) := by decide +kernel
theorem dX4_most_57 : decode cX4_most 57 = .ok (.iload 7, 2) := by decide +kernel
theorem dX4_most_59 : decode cX4_most 59 = .ok (.aaload, 1) := by decide +kernel
theorem dX4_most_60 : decode cX4_most 60 = .ok (.astore 8, 2) := by decide +kernel
theorem dX4_most_62 : decode cX4_most 62 = .ok (.iload 4, 2) := by decide +kernel
theorem dX4_most_64 : decode cX4_most 64 = .ok (.aload 8, 2) := by decide +kernel
theorem dX4_most_66 : decode cX4_most 66 = .ok (.iload_n 1, 1) := by decide +kernel
theorem dX4_most_67 : decode cX4_most 67 = .ok (.iload_n 2, 1) := by decide +kernel
theorem dX4_most_68 : decode cX4_most 68 = .ok (.iload_n 3, 1) := by decide +kernel
theorem dX4_most_69 : decode cX4_most 69 = .ok (.invokevirtual 144, 3) := by decide +kernel
theorem dX4_most_72 : decode cX4_most 72 = .ok (.iadd, 1) := by decide +kernel
theorem dX4_most_73 : decode cX4_most 73 = .ok (.istore 4, 2) := by decide +kernel
theorem dX4_most_75 : decode cX4_most 75 = .ok (.iinc 7 1, 3) := by decide +kernel
theorem dX4_most_78 : decode cX4_most 78 = .ok (.goto (-30), 3) := by decide +kernel
theorem dX4_most_81 : decode cX4_most 81 = .ok (.iload 4, 2) := by decide +kernel
theorem dX4_most_83 : decode cX4_most 83 = .ok (.ireturn, 1) := by decide +kernel
theorem dX4_harm_0 : decode cX4_harm 0 = .ok (.aload_n 0, 1) := by decide +kernel
theorem dX4_harm_1 : decode cX4_harm 1 = .ok (.iload_n 1, 1) := by decide +kernel
theorem dX4_harm_2 : decode cX4_harm 2 = .ok (.invokevirtual 73, 3) := by decide +kernel
theorem dX4_harm_5 : decode cX4_harm 5 = .ok (.astore 4, 2) := by decide +kernel
theorem dX4_harm_7 : decode cX4_harm 7 = .ok (.aload_n 0, 1) := by decide +kernel
theorem dX4_harm_8 : decode cX4_harm 8 = .ok (.iload_n 2, 1) := by decide +kernel
theorem dX4_harm_9 : decode cX4_harm 9 = .ok (.invokevirtual 50, 3) := by decide +kernel
theorem dX4_harm_12 : decode cX4_harm 12 = .ok (.astore 5, 2) := by decide +kernel
theorem dX4_harm_14 : decode cX4_harm 14 = .ok (.aload 4, 2) := by decide +kernel
theorem dX4_harm_16 : decode cX4_harm 16 = .ok (.ifnull 16, 3) := by decide +kernel
theorem dX4_harm_19 : decode cX4_harm 19 = .ok (.aload 5, 2) := by decide +kernel
theorem dX4_harm_21 : decode cX4_harm 21 = .ok (.ifnull 11, 3) := by decide +kernel
theorem dX4_harm_24 : decode cX4_harm 24 = .ok (.aload_n 0, 1) := by decide +kernel
theorem dX4_harm_25 : decode cX4_harm 25 = .ok (.iload_n 3, 1) := by decide +kernel
theorem dX4_harm_26 : decode cX4_harm 26 = .ok (.invokevirtual 54, 3) := by decide +kernel
theorem dX4_harm_29 : decode cX4_harm 29 = .ok (.ifCond .ne 5, 3) := by decide +kernel
theorem dX4_harm_32 : decode cX4_harm 32 = .ok (.iconst (-1), 1) := by decide +kernel
theorem dX4_harm_33 : decode cX4_harm 33 = .ok (.ireturn, 1) := by decide +kernel
theorem dX4_harm_34 : decode cX4_harm 34 = .ok (.aload 4, 2) := by decide +kernel
theorem dX4_harm_36 : decode cX4_harm 36 = .ok (.invokevirtual 147, 3) := by decide +kernel
theorem dX4_harm_39 : decode cX4_harm 39 = .ok (.ifCond .eq 5, 3) := by decide +kernel
theorem dX4_harm_42 : decode cX4_harm 42 = .ok (.iconst 3, 1) := by decide +kernel
theorem dX4_harm_43 : decode cX4_harm 43 = .ok (.ireturn, 1) := by decide +kernel
theorem dX4_harm_44 : decode cX4_harm 44 = .ok (.aload 5, 2) := by decide +kernel
theorem dX4_harm_46 : decode cX4_harm 46 = .ok (.aload 4, 2) := by decide +kernel
theorem dX4_harm_48 : decode cX4_harm 48 = .ok (.getfield 77, 3) := by decide +kernel
theorem dX4_harm_51 : decode cX4_harm 51 = .ok (.iload_n 3, 1) := by decide +kernel
theorem dX4_harm_52 : decode cX4_harm 52 = .ok (.invokevirtual 70, 3) := by decide +kernel
theorem dX4_harm_55 : decode cX4_harm 55 = .ok (.istore 6, 2) := by decide +kernel
theorem dX4_harm_57 : decode cX4_harm 57 = .ok (.aload 4, 2) := by decide +kernel
theorem dX4_harm_59 : decode cX4_harm 59 = .ok (.getfield 83, 3) := by decide +kernel
theorem dX4_harm_62 : decode cX4_harm 62 = .ok (.iload_n 2, 1) := by decide +kernel
theorem dX4_harm_63 : decode cX4_harm 63 = .ok (.invokevirtual 113, 3) := by decide +kernel
theorem dX4_harm_66 : decode cX4_harm 66 = .ok (.iload 6, 2) := by decide +kernel
theorem dX4_harm_68 : decode cX4_harm 68 = .ok (.iand, 1) := by decide +kernel
theorem dX4_harm_69 : decode cX4_harm 69 = .ok (.ifCond .ne 5, 3) := by decide +kernel
theorem dX4_harm_72 : decode cX4_harm 72 = .ok (.iconst 0, 1) := by decide +kernel
theorem dX4_harm_73 : decode cX4_harm 73 = .ok (.ireturn, 1) := by decide +kernel
theorem dX4_harm_74 : decode cX4_harm 74 = .ok (.aload 4, 2) := by decide +kernel
theorem dX4_harm_76 : decode cX4_harm 76 = .ok (.getfield 83, 3) := by decide +kernel
theorem dX4_harm_79 : decode cX4_harm 79 = .ok (.iload_n 2, 1) := by decide +kernel
theorem dX4_harm_80 : decode cX4_harm 80 = .ok (.iload 6, 2) := by decide +kernel
theorem dX4_harm_82 : decode cX4_harm 82 = .ok (.invokevirtual 155, 3) := by decide +kernel
theorem dX4_harm_85 : decode cX4_harm 85 = .ok (.ifCond .eq 7, 3) := by decide +kernel
theorem dX4_harm_88 : decode cX4_harm 88 = .ok (.iconst 2, 1) := by decide +kernel
theorem dX4_harm_89 : decode cX4_harm 89 = .ok (.goto 4, 3) := by decide +kernel
theorem dX4_harm_92 : decode cX4_harm 92 = .ok (.iconst 1, 1) := by decide +kernel
theorem dX4_harm_93 : decode cX4_harm 93 = .ok (.ireturn, 1) := by decide +kernel
theorem dX4_rule_0 : decode cX4_rule 0 = .ok (.iload_n 1, 1) := by decide +kernel
theorem dX4_rule_1 : decode cX4_rule 1 = .ok (.invokestatic 80, 3) := by decide +kernel
theorem dX4_rule_4 : decode cX4_rule 4 = .ok (.ifCond .eq 20, 3) := by decide +kernel
theorem dX4_rule_7 : decode cX4_rule 7 = .ok (.iload_n 3, 1) := by decide +kernel
theorem dX4_rule_8 : decode cX4_rule 8 = .ok (.invokestatic 80, 3) := by decide +kernel
theorem dX4_rule_11 : decode cX4_rule 11 = .ok (.ifCond .eq 13, 3) := by decide +kernel
theorem dX4_rule_14 : decode cX4_rule 14 = .ok (.iload 4, 2) := by decide +kernel
theorem dX4_rule_16 : decode cX4_rule 16 = .ok (.bipush 7, 2) := by decide +kernel
theorem dX4_rule_18 : decode cX4_rule 18 = .ok (.invokestatic 58, 3) := by decide +kernel
theorem dX4_rule_21 : decode cX4_rule 21 = .ok (.ifCond .ne 5, 3) := by decide +kernel
theorem dX4_rule_24 : decode cX4_rule 24 = .ok (.iconst (-1), 1) := by decide +kernel
theorem dX4_rule_25 : decode cX4_rule 25 = .ok (.ireturn, 1) := by decide +kernel
theorem dX4_rule_26 : decode cX4_rule 26 = .ok (.iload_n 2, 1) := by decide +kernel
theorem dX4_rule_27 : decode cX4_rule 27 = .ok (.ifCond .eq 13, 3) := by decide +kernel
theorem dX4_rule_30 : decode cX4_rule 30 = .ok (.iload_n 2, 1) := by decide +kernel
theorem dX4_rule_31 : decode cX4_rule 31 = .ok (.sipush 255, 3) := by decide +kernel
theorem dX4_rule_34 : decode cX4_rule 34 = .ok (.invokestatic 58, 3) := by decide +kernel
theorem dX4_rule_37 : decode cX4_rule 37 = .ok (.ifCond .ne 5, 3) := by decide +kernel
theorem dX4_rule_40 : decode cX4_rule 40 = .ok (.iconst (-1), 1) := by decide +kernel
theorem dX4_rule_41 : decode cX4_rule 41 = .ok (.ireturn, 1) := by decide +kernel
theorem dX4_rule_42 : decode cX4_rule 42 = .ok (.aload_n 0, 1) := by decide +kernel
theorem dX4_rule_43 : decode cX4_rule 43 = .ok (.getfield 27, 3) := by decide +kernel
theorem dX4_rule_46 : decode cX4_rule 46 = .ok (.bipush 12, 2) := by decide +kernel
theorem dX4_rule_48 : decode cX4_rule 48 = .ok (.if_icmp .lt 6, 3) := by decide +kernel
theorem dX4_rule_51 : decode cX4_rule 51 = .ok (.bipush (-3), 2) := by decide +kernel
theorem dX4_rule_53 : decode cX4_rule 53 = .ok (.ireturn, 1) := by decide +kernel
theorem dX4_rule_54 : decode cX4_rule 54 = .ok (.aload_n 0, 1) := by decide +kernel
theorem dX4_rule_55 : decode cX4_rule 55 = .ok (.getfield 23, 3) := by decide +kernel
theorem dX4_rule_58 : decode cX4_rule 58 = .ok (.aload_n 0, 1) := by decide +kernel
theorem dX4_rule_59 : decode cX4_rule 59 = .ok (.getfield 27, 3) := by decide +kernel
theorem dX4_rule_62 : decode cX4_rule 62 = .ok (.new 21, 3) := by decide +kernel
theorem dX4_rule_65 : decode cX4_rule 65 = .ok (.dup, 1) := by decide +kernel
theorem dX4_rule_66 : decode cX4_rule 66 = .ok (.iload_n 1, 1) := by decide +kernel
theorem dX4_rule_67 : decode cX4_rule 67 = .ok (.iload_n 2, 1) := by decide +kernel
theorem dX4_rule_68 : decode cX4_rule 68 = .ok (.iload_n 3, 1) := by decide +kernel
theorem dX4_rule_69 : decode cX4_rule 69 = .ok (.iload 4, 2) := by decide +kernel
theorem dX4_rule_71 : decode cX4_rule 71 = .ok (.invokespecial 158, 3) := by decide +kernel
theorem dX4_rule_74 : decode cX4_rule 74 = .ok (.aastore, 1) := by decide +kernel
theorem dX4_rule_75 : decode cX4_rule 75 = .ok (.aload_n 0, 1) := by decide +kernel
theorem dX4_rule_76 : decode cX4_rule 76 = .ok (.dup, 1) := by decide +kernel
theorem dX4_rule_77 : decode cX4_rule 77 = .ok (.getfield 27, 3) := by decide +kernel
theorem dX4_rule_80 : decode cX4_rule 80 = .ok (.iconst 1, 1) := by decide +kernel
theorem dX4_rule_81 : decode cX4_rule 81 = .ok (.iadd, 1) := by decide +kernel
theorem dX4_rule_82 : decode cX4_rule 82 = .ok (.putfield 27, 3) := by decide +kernel
theorem dX4_rule_85 : decode cX4_rule 85 = .ok (.aload_n 0, 1) := by decide +kernel
theorem dX4_rule_86 : decode cX4_rule 86 = .ok (.getfield 27, 3) := by decide +kernel
theorem dX4_rule_89 : decode cX4_rule 89 = .ok (.iconst 1, 1) := by decide +kernel
theorem dX4_rule_90 : decode cX4_rule 90 = .ok (.isub, 1) := by decide +kernel
theorem dX4_rule_91 : decode cX4_rule 91 = .ok (.ireturn, 1) := by decide +kernel
theorem dX4_holds_0 : decode cX4_holds 0 = .ok (.aload_n 0, 1) := by decide +kernel
theorem dX4_holds_1 : decode cX4_holds 1 = .ok (.iload_n 1, 1) := by decide +kernel
theorem dX4_holds_2 : decode cX4_holds 2 = .ok (.invokevirtual 160, 3) := by decide +kernel
theorem dX4_holds_5 : decode cX4_holds 5 = .ok (.astore 4, 2) := by decide +kernel
theorem dX4_holds_7 : decode cX4_holds 7 = .ok (.aload 4, 2) := by decide +kernel
theorem dX4_holds_9 : decode cX4_holds 9 = .ok (.ifnull 19, 3) := by decide +kernel
theorem dX4_holds_12 : decode cX4_holds 12 = .ok (.aload_n 0, 1) := by decide +kernel
theorem dX4_holds_13 : decode cX4_holds 13 = .ok (.iload_n 2, 1) := by decide +kernel
theorem dX4_holds_14 : decode cX4_holds 14 = .ok (.invokevirtual 54, 3) := by decide +kernel
theorem dX4_holds_17 : decode cX4_holds 17 = .ok (.ifCond .eq 11, 3) := by decide +kernel
theorem dX4_holds_20 : decode cX4_holds 20 = .ok (.aload_n 0, 1) := by decide +kernel
theorem dX4_holds_21 : decode cX4_holds 21 = .ok (.iload_n 3, 1) := by decide +kernel
theorem dX4_holds_22 : decode cX4_holds 22 = .ok (.invokevirtual 54, 3) := by decide +kernel
theorem dX4_holds_25 : decode cX4_holds 25 = .ok (.ifCond .ne 5, 3) := by decide +kernel
theorem dX4_holds_28 : decode cX4_holds 28 = .ok (.iconst (-1), 1) := by decide +kernel
theorem dX4_holds_29 : decode cX4_holds 29 = .ok (.ireturn, 1) := by decide +kernel
theorem dX4_holds_30 : decode cX4_holds 30 = .ok (.aload_n 0, 1) := by decide +kernel
theorem dX4_holds_31 : decode cX4_holds 31 = .ok (.aload 4, 2) := by decide +kernel
theorem dX4_holds_33 : decode cX4_holds 33 = .ok (.iload_n 2, 1) := by decide +kernel
theorem dX4_holds_34 : decode cX4_holds 34 = .ok (.iload_n 3, 1) := by decide +kernel
theorem dX4_holds_35 : decode cX4_holds 35 = .ok (.invokevirtual 164, 3) := by decide +kernel
theorem dX4_holds_38 : decode cX4_holds 38 = .ok (.ifCond .eq 7, 3) := by decide +kernel
theorem dX4_holds_41 : decode cX4_holds 41 = .ok (.iconst 1, 1) := by decide +kernel
theorem dX4_holds_42 : decode cX4_holds 42 = .ok (.goto 4, 3) := by decide +kernel
theorem dX4_holds_45 : decode cX4_holds 45 = .ok (.iconst 0, 1) := by decide +kernel
theorem dX4_holds_46 : decode cX4_holds 46 = .ok (.ireturn, 1) := by decide +kernel
theorem dX4_clash_0 : decode cX4_clash 0 = .ok (.aload_n 0, 1) := by decide +kernel
theorem dX4_clash_1 : decode cX4_clash 1 = .ok (.iload_n 1, 1) := by decide +kernel
theorem dX4_clash_2 : decode cX4_clash 2 = .ok (.invokevirtual 160, 3) := by decide +kernel
theorem dX4_clash_5 : decode cX4_clash 5 = .ok (.astore_n 3, 1) := by decide +kernel
theorem dX4_clash_6 : decode cX4_clash 6 = .ok (.aload_n 0, 1) := by decide +kernel
theorem dX4_clash_7 : decode cX4_clash 7 = .ok (.iload_n 2, 1) := by decide +kernel
theorem dX4_clash_8 : decode cX4_clash 8 = .ok (.invokevirtual 160, 3) := by decide +kernel
theorem dX4_clash_11 : decode cX4_clash 11 = .ok (.astore 4, 2) := by decide +kernel
theorem dX4_clash_13 : decode cX4_clash 13 = .ok (.aload_n 3, 1) := by decide +kernel
theorem dX4_clash_14 : decode cX4_clash 14 = .ok (.ifnull 8, 3) := by decide +kernel
theorem dX4_clash_17 : decode cX4_clash 17 = .ok (.aload 4, 2) := by decide +kernel
theorem dX4_clash_19 : decode cX4_clash 19 = .ok (.ifnonnull 5, 3) := by decide +kernel
theorem dX4_clash_22 : decode cX4_clash 22 = .ok (.iconst (-1), 1) := by decide +kernel
theorem dX4_clash_23 : decode cX4_clash 23 = .ok (.ireturn, 1) := by decide +kernel
theorem dX4_clash_24 : decode cX4_clash 24 = .ok (.aload_n 3, 1) := by decide +kernel
theorem dX4_clash_25 : decode cX4_clash 25 = .ok (.getfield 168, 3) := by decide +kernel
theorem dX4_clash_28 : decode cX4_clash 28 = .ok (.aload 4, 2) := by decide +kernel
theorem dX4_clash_30 : decode cX4_clash 30 = .ok (.getfield 168, 3) := by decide +kernel
theorem dX4_clash_33 : decode cX4_clash 33 = .ok (.if_icmp .ne 20, 3) := by decide +kernel
theorem dX4_clash_36 : decode cX4_clash 36 = .ok (.aload_n 3, 1) := by decide +kernel
theorem dX4_clash_37 : decode cX4_clash 37 = .ok (.getfield 171, 3) := by decide +kernel
theorem dX4_clash_40 : decode cX4_clash 40 = .ok (.aload 4, 2) := by decide +kernel
theorem dX4_clash_42 : decode cX4_clash 42 = .ok (.getfield 171, 3) := by decide +kernel
theorem dX4_clash_45 : decode cX4_clash 45 = .ok (.iand, 1) := by decide +kernel
theorem dX4_clash_46 : decode cX4_clash 46 = .ok (.ifCond .eq 7, 3) := by decide +kernel
theorem dX4_clash_49 : decode cX4_clash 49 = .ok (.iconst 1, 1) := by decide +kernel
theorem dX4_clash_50 : decode cX4_clash 50 = .ok (.goto 4, 3) := by decide +kernel
theorem dX4_clash_53 : decode cX4_clash 53 = .ok (.iconst 0, 1) := by decide +kernel
theorem dX4_clash_54 : decode cX4_clash 54 = .ok (.istore 5, 2) := by decide +kernel
theorem dX4_clash_56 : decode cX4_clash 56 = .ok (.iload 5, 2) := by decide +kernel
theorem dX4_clash_58 : decode cX4_clash 58 = .ok (.ifCond .eq 31, 3) := by decide +kernel
theorem dX4_clash_61 : decode cX4_clash 61 = .ok (.aload_n 3, 1) := by decide +kernel
theorem dX4_clash_62 : decode cX4_clash 62 = .ok (.getfield 174, 3) := by decide +kernel
theorem dX4_clash_65 : decode cX4_clash 65 = .ok (.aload 4, 2) := by decide +kernel
theorem dX4_clash_67 : decode cX4_clash 67 = .ok (.getfield 174, 3) := by decide +kernel
theorem dX4_clash_70 : decode cX4_clash 70 = .ok (.if_icmp .ne 15, 3) := by decide +kernel
theorem dX4_clash_73 : decode cX4_clash 73 = .ok (.aload_n 3, 1) := by decide +kernel
theorem dX4_clash_74 : decode cX4_clash 74 = .ok (.getfield 177, 3) := by decide +kernel
theorem dX4_clash_77 : decode cX4_clash 77 = .ok (.aload 4, 2) := by decide +kernel
theorem dX4_clash_79 : decode cX4_clash 79 = .ok (.getfield 177, 3) := by decide +kernel
theorem dX4_clash_82 : decode cX4_clash 82 = .ok (.if_icmp .eq 7, 3) := by decide +kernel
theorem dX4_clash_85 : decode cX4_clash 85 = .ok (.iconst 1, 1) := by decide +kernel
theorem dX4_clash_86 : decode cX4_clash 86 = .ok (.goto 4, 3) := by decide +kernel
theorem dX4_clash_89 : decode cX4_clash 89 = .ok (.iconst 0, 1) := by decide +kernel
theorem dX4_clash_90 : decode cX4_clash 90 = .ok (.ireturn, 1) := by decide +kernel
theorem dX4_left_0 : decode cX4_left 0 = .ok (.aload_n 0, 1) := by decide +kernel
theorem dX4_left_1 : decode cX4_left 1 = .ok (.iload_n 1, 1) := by decide +kernel
theorem dX4_left_2 : decode cX4_left 2 = .ok (.invokevirtual 73, 3) := by decide +kernel
theorem dX4_left_5 : decode cX4_left 5 = .ok (.astore 4, 2) := by decide +kernel
theorem dX4_left_7 : decode cX4_left 7 = .ok (.aload_n 0, 1) := by decide +kernel
theorem dX4_left_8 : decode cX4_left 8 = .ok (.iload_n 2, 1) := by decide +kernel
theorem dX4_left_9 : decode cX4_left 9 = .ok (.invokevirtual 50, 3) := by decide +kernel
theorem dX4_left_12 : decode cX4_left 12 = .ok (.astore 5, 2) := by decide +kernel
theorem dX4_left_14 : decode cX4_left 14 = .ok (.aload 4, 2) := by decide +kernel
theorem dX4_left_16 : decode cX4_left 16 = .ok (.ifnull 16, 3) := by decide +kernel
theorem dX4_left_19 : decode cX4_left 19 = .ok (.aload 5, 2) := by decide +kernel
theorem dX4_left_21 : decode cX4_left 21 = .ok (.ifnull 11, 3) := by decide +kernel
theorem dX4_left_24 : decode cX4_left 24 = .ok (.aload_n 0, 1) := by decide +kernel
theorem dX4_left_25 : decode cX4_left 25 = .ok (.iload_n 3, 1) := by decide +kernel
theorem dX4_left_26 : decode cX4_left 26 = .ok (.invokevirtual 54, 3) := by decide +kernel
theorem dX4_left_29 : decode cX4_left 29 = .ok (.ifCond .ne 5, 3) := by decide +kernel
theorem dX4_left_32 : decode cX4_left 32 = .ok (.iconst (-1), 1) := by decide +kernel
theorem dX4_left_33 : decode cX4_left 33 = .ok (.ireturn, 1) := by decide +kernel
theorem dX4_left_34 : decode cX4_left 34 = .ok (.aload 4, 2) := by decide +kernel
theorem dX4_left_36 : decode cX4_left 36 = .ok (.getfield 83, 3) := by decide +kernel
theorem dX4_left_39 : decode cX4_left 39 = .ok (.iload_n 2, 1) := by decide +kernel
theorem dX4_left_40 : decode cX4_left 40 = .ok (.invokevirtual 113, 3) := by decide +kernel
theorem dX4_left_43 : decode cX4_left 43 = .ok (.aload 5, 2) := by decide +kernel
theorem dX4_left_45 : decode cX4_left 45 = .ok (.aload 4, 2) := by decide +kernel
theorem dX4_left_47 : decode cX4_left 47 = .ok (.getfield 77, 3) := by decide +kernel
theorem dX4_left_50 : decode cX4_left 50 = .ok (.iload_n 3, 1) := by decide +kernel
theorem dX4_left_51 : decode cX4_left 51 = .ok (.invokevirtual 70, 3) := by decide +kernel
theorem dX4_left_54 : decode cX4_left 54 = .ok (.iand, 1) := by decide +kernel
theorem dX4_left_55 : decode cX4_left 55 = .ok (.istore 6, 2) := by decide +kernel
theorem dX4_left_57 : decode cX4_left 57 = .ok (.iconst 0, 1) := by decide +kernel
theorem dX4_left_58 : decode cX4_left 58 = .ok (.istore 7, 2) := by decide +kernel
theorem dX4_left_60 : decode cX4_left 60 = .ok (.iload 7, 2) := by decide +kernel
theorem dX4_left_62 : decode cX4_left 62 = .ok (.aload_n 0, 1) := by decide +kernel
theorem dX4_left_63 : decode cX4_left 63 = .ok (.getfield 27, 3) := by decide +kernel
theorem dX4_left_66 : decode cX4_left 66 = .ok (.if_icmp .ge 58, 3) := by decide +kernel
theorem dX4_left_69 : decode cX4_left 69 = .ok (.aload_n 0, 1) := by decide +kernel
theorem dX4_left_70 : decode cX4_left 70 = .ok (.iload 7, 2) := by decide +kernel
theorem dX4_left_72 : decode cX4_left 72 = .ok (.invokevirtual 160, 3) := by decide +kernel
theorem dX4_left_75 : decode cX4_left 75 = .ok (.astore 8, 2) := by decide +kernel
theorem dX4_left_77 : decode cX4_left 77 = .ok (.aload 8, 2) := by decide +kernel
theorem dX4_left_79 : decode cX4_left 79 = .ok (.ifnull 39, 3) := by decide +kernel
theorem dX4_left_82 : decode cX4_left 82 = .ok (.aload 8, 2) := by decide +kernel
theorem dX4_left_84 : decode cX4_left 84 = .ok (.getfield 168, 3) := by decide +kernel
theorem dX4_left_87 : decode cX4_left 87 = .ok (.iload_n 2, 1) := by decide +kernel
theorem dX4_left_88 : decode cX4_left 88 = .ok (.if_icmp .ne 30, 3) := by decide +kernel
theorem dX4_left_91 : decode cX4_left 91 = .ok (.aload_n 0, 1) := by decide +kernel
theorem dX4_left_92 : decode cX4_left 92 = .ok (.aload 8, 2) := by decide +kernel
theorem dX4_left_94 : decode cX4_left 94 = .ok (.aload 4, 2) := by decide +kernel
theorem dX4_left_96 : decode cX4_left 96 = .ok (.getfield 77, 3) := by decide +kernel
theorem dX4_left_99 : decode cX4_left 99 = .ok (.iload_n 3, 1) := by decide +kernel
theorem dX4_left_100 : decode cX4_left 100 = .ok (.invokevirtual 164, 3) := by decide +kernel
theorem dX4_left_103 : decode cX4_left 103 = .ok (.ifCond .eq 15, 3) := by decide +kernel
theorem dX4_left_106 : decode cX4_left 106 = .ok (.iload 6, 2) := by decide +kernel
theorem dX4_left_108 : decode cX4_left 108 = .ok (.aload 8, 2) := by decide +kernel
theorem dX4_left_110 : decode cX4_left 110 = .ok (.getfield 171, 3) := by decide +kernel
theorem dX4_left_113 : decode cX4_left 113 = .ok (.iconst (-1), 1) := by decide +kernel
theorem dX4_left_114 : decode cX4_left 114 = .ok (.ixor, 1) := by decide +kernel
theorem dX4_left_115 : decode cX4_left 115 = .ok (.iand, 1) := by decide +kernel
theorem dX4_left_116 : decode cX4_left 116 = .ok (.istore 6, 2) := by decide +kernel
theorem dX4_left_118 : decode cX4_left 118 = .ok (.iinc 7 1, 3) := by decide +kernel
theorem dX4_left_121 : decode cX4_left 121 = .ok (.goto (-61), 3) := by decide +kernel
theorem dX4_left_124 : decode cX4_left 124 = .ok (.iload 6, 2) := by decide +kernel
theorem dX4_left_126 : decode cX4_left 126 = .ok (.ireturn, 1) := by decide +kernel
theorem dX4_days_0 : decode cX4_days 0 = .ok (.iload_n 1, 1) := by decide +kernel
theorem dX4_days_1 : decode cX4_days 1 = .ok (.iconst 1, 1) := by decide +kernel
theorem dX4_days_2 : decode cX4_days 2 = .ok (.if_icmp .lt 9, 3) := by decide +kernel
theorem dX4_days_5 : decode cX4_days 5 = .ok (.iload_n 1, 1) := by decide +kernel
theorem dX4_days_6 : decode cX4_days 6 = .ok (.bipush 20, 2) := by decide +kernel
theorem dX4_days_8 : decode cX4_days 8 = .ok (.if_icmp .le 5, 3) := by decide +kernel
theorem dX4_days_11 : decode cX4_days 11 = .ok (.iconst (-1), 1) := by decide +kernel
theorem dX4_days_12 : decode cX4_days 12 = .ok (.ireturn, 1) := by decide +kernel
theorem dX4_days_13 : decode cX4_days 13 = .ok (.aload_n 0, 1) := by decide +kernel
theorem dX4_days_14 : decode cX4_days 14 = .ok (.getfield 34, 3) := by decide +kernel
theorem dX4_days_17 : decode cX4_days 17 = .ok (.iload_n 1, 1) := by decide +kernel
theorem dX4_days_18 : decode cX4_days 18 = .ok (.iadd, 1) := by decide +kernel
theorem dX4_days_19 : decode cX4_days 19 = .ok (.bipush 39, 2) := by decide +kernel
theorem dX4_days_21 : decode cX4_days 21 = .ok (.if_icmp .le 6, 3) := by decide +kernel
theorem dX4_days_24 : decode cX4_days 24 = .ok (.bipush (-2), 2) := by decide +kernel
theorem dX4_days_26 : decode cX4_days 26 = .ok (.ireturn, 1) := by decide +kernel
theorem dX4_days_27 : decode cX4_days 27 = .ok (.aload_n 0, 1) := by decide +kernel
theorem dX4_days_28 : decode cX4_days 28 = .ok (.dup, 1) := by decide +kernel
theorem dX4_days_29 : decode cX4_days 29 = .ok (.getfield 34, 3) := by decide +kernel
theorem dX4_days_32 : decode cX4_days 32 = .ok (.iload_n 1, 1) := by decide +kernel
theorem dX4_days_33 : decode cX4_days 33 = .ok (.iadd, 1) := by decide +kernel
theorem dX4_days_34 : decode cX4_days 34 = .ok (.putfield 34, 3) := by decide +kernel
theorem dX4_days_37 : decode cX4_days 37 = .ok (.aload_n 0, 1) := by decide +kernel
theorem dX4_days_38 : decode cX4_days 38 = .ok (.getfield 34, 3) := by decide +kernel
theorem dX4_days_41 : decode cX4_days 41 = .ok (.ireturn, 1) := by decide +kernel
theorem dX4_promise_0 : decode cX4_promise 0 = .ok (.aload_n 0, 1) := by decide +kernel
theorem dX4_promise_1 : decode cX4_promise 1 = .ok (.iload_n 1, 1) := by decide +kernel
theorem dX4_promise_2 : decode cX4_promise 2 = .ok (.invokevirtual 50, 3) := by decide +kernel
theorem dX4_promise_5 : decode cX4_promise 5 = .ok (.astore 4, 2) := by decide +kernel
theorem dX4_promise_7 : decode cX4_promise 7 = .ok (.aload 4, 2) := by decide +kernel
theorem dX4_promise_9 : decode cX4_promise 9 = .ok (.ifnull 24, 3) := by decide +kernel
theorem dX4_promise_12 : decode cX4_promise 12 = .ok (.iload_n 2, 1) := by decide +kernel
theorem dX4_promise_13 : decode cX4_promise 13 = .ok (.iconst 5, 1) := by decide +kernel
theorem dX4_promise_14 : decode cX4_promise 14 = .ok (.invokestatic 58, 3) := by decide +kernel
theorem dX4_promise_17 : decode cX4_promise 17 = .ok (.ifCond .eq 16, 3) := by decide +kernel
theorem dX4_promise_20 : decode cX4_promise 20 = .ok (.iload_n 3, 1) := by decide +kernel
theorem dX4_promise_21 : decode cX4_promise 21 = .ok (.bipush (-9), 2) := by decide +kernel
theorem dX4_promise_23 : decode cX4_promise 23 = .ok (.if_icmp .eq 13, 3) := by decide +kernel
theorem dX4_promise_26 : decode cX4_promise 26 = .ok (.iload_n 3, 1) := by decide +kernel
theorem dX4_promise_27 : decode cX4_promise 27 = .ok (.invokestatic 121, 3) := by decide +kernel
theorem dX4_promise_30 : decode cX4_promise 30 = .ok (.ifCond .ne 6, 3) := by decide +kernel
theorem dX4_promise_33 : decode cX4_promise 33 = .ok (.bipush (-2), 2) := by decide +kernel
theorem dX4_promise_35 : decode cX4_promise 35 = .ok (.ireturn, 1) := by decide +kernel
theorem dX4_promise_36 : decode cX4_promise 36 = .ok (.aload 4, 2) := by decide +kernel
theorem dX4_promise_38 : decode cX4_promise 38 = .ok (.aload_n 0, 1) := by decide +kernel
theorem dX4_promise_39 : decode cX4_promise 39 = .ok (.getfield 34, 3) := by decide +kernel
theorem dX4_promise_42 : decode cX4_promise 42 = .ok (.invokevirtual 132, 3) := by decide +kernel
theorem dX4_promise_45 : decode cX4_promise 45 = .ok (.ifCond .eq 6, 3) := by decide +kernel
theorem dX4_promise_48 : decode cX4_promise 48 = .ok (.bipush (-3), 2) := by decide +kernel
theorem dX4_promise_50 : decode cX4_promise 50 = .ok (.ireturn, 1) := by decide +kernel
theorem dX4_promise_51 : decode cX4_promise 51 = .ok (.aload 4, 2) := by decide +kernel
theorem dX4_promise_53 : decode cX4_promise 53 = .ok (.getfield 180, 3) := by decide +kernel
theorem dX4_promise_56 : decode cX4_promise 56 = .ok (.iload_n 2, 1) := by decide +kernel
theorem dX4_promise_57 : decode cX4_promise 57 = .ok (.iaload, 1) := by decide +kernel
theorem dX4_promise_58 : decode cX4_promise 58 = .ok (.istore 5, 2) := by decide +kernel
theorem dX4_promise_60 : decode cX4_promise 60 = .ok (.aload 4, 2) := by decide +kernel
theorem dX4_promise_62 : decode cX4_promise 62 = .ok (.getfield 180, 3) := by decide +kernel
theorem dX4_promise_65 : decode cX4_promise 65 = .ok (.iload_n 2, 1) := by decide +kernel
theorem dX4_promise_66 : decode cX4_promise 66 = .ok (.iload_n 3, 1) := by decide +kernel
theorem dX4_promise_67 : decode cX4_promise 67 = .ok (.iastore, 1) := by decide +kernel
theorem dX4_promise_68 : decode cX4_promise 68 = .ok (.iload_n 3, 1) := by decide +kernel
theorem dX4_promise_69 : decode cX4_promise 69 = .ok (.bipush (-9), 2) := by decide +kernel
theorem dX4_promise_71 : decode cX4_promise 71 = .ok (.if_icmp .eq 20, 3) := by decide +kernel
theorem dX4_promise_74 : decode cX4_promise 74 = .ok (.aload 4, 2) := by decide +kernel
theorem dX4_promise_76 : decode cX4_promise 76 = .ok (.iload_n 3, 1) := by decide +kernel
theorem dX4_promise_77 : decode cX4_promise 77 = .ok (.invokevirtual 132, 3) := by decide +kernel
theorem dX4_promise_80 : decode cX4_promise 80 = .ok (.ifCond .eq 11, 3) := by decide +kernel
theorem dX4_promise_83 : decode cX4_promise 83 = .ok (.aload 4, 2) := by decide +kernel
theorem dX4_promise_85 : decode cX4_promise 85 = .ok (.iload_n 3, 1) := by decide +kernel
theorem dX4_promise_86 : decode cX4_promise 86 = .ok (.iconst 1, 1) := by decide +kernel
theorem dX4_promise_87 : decode cX4_promise 87 = .ok (.iadd, 1) := by decide +kernel
theorem dX4_promise_88 : decode cX4_promise 88 = .ok (.putfield 135, 3) := by decide +kernel
theorem dX4_promise_91 : decode cX4_promise 91 = .ok (.iload 5, 2) := by decide +kernel
theorem dX4_promise_93 : decode cX4_promise 93 = .ok (.ireturn, 1) := by decide +kernel
theorem dX4_shut_0 : decode cX4_shut 0 = .ok (.aload_n 0, 1) := by decide +kernel
theorem dX4_shut_1 : decode cX4_shut 1 = .ok (.iload_n 1, 1) := by decide +kernel
theorem dX4_shut_2 : decode cX4_shut 2 = .ok (.invokevirtual 50, 3) := by decide +kernel
theorem dX4_shut_5 : decode cX4_shut 5 = .ok (.astore_n 3, 1) := by decide +kernel
theorem dX4_shut_6 : decode cX4_shut 6 = .ok (.aload_n 3, 1) := by decide +kernel
theorem dX4_shut_7 : decode cX4_shut 7 = .ok (.ifnull 17, 3) := by decide +kernel
theorem dX4_shut_10 : decode cX4_shut 10 = .ok (.iload_n 2, 1) := by decide +kernel
theorem dX4_shut_11 : decode cX4_shut 11 = .ok (.aload_n 0, 1) := by decide +kernel
theorem dX4_shut_12 : decode cX4_shut 12 = .ok (.getfield 34, 3) := by decide +kernel
theorem dX4_shut_15 : decode cX4_shut 15 = .ok (.if_icmp .lt 9, 3) := by decide +kernel
theorem dX4_shut_18 : decode cX4_shut 18 = .ok (.iload_n 2, 1) := by decide +kernel
theorem dX4_shut_19 : decode cX4_shut 19 = .ok (.bipush 40, 2) := by decide +kernel
theorem dX4_shut_21 : decode cX4_shut 21 = .ok (.if_icmp .le 5, 3) := by decide +kernel
theorem dX4_shut_24 : decode cX4_shut 24 = .ok (.iconst (-1), 1) := by decide +kernel
theorem dX4_shut_25 : decode cX4_shut 25 = .ok (.ireturn, 1) := by decide +kernel
theorem dX4_shut_26 : decode cX4_shut 26 = .ok (.aload_n 3, 1) := by decide +kernel
theorem dX4_shut_27 : decode cX4_shut 27 = .ok (.aload_n 0, 1) := by decide +kernel
theorem dX4_shut_28 : decode cX4_shut 28 = .ok (.getfield 34, 3) := by decide +kernel
theorem dX4_shut_31 : decode cX4_shut 31 = .ok (.invokevirtual 132, 3) := by decide +kernel
theorem dX4_shut_34 : decode cX4_shut 34 = .ok (.ifCond .ne 11, 3) := by decide +kernel
theorem dX4_shut_37 : decode cX4_shut 37 = .ok (.aload_n 3, 1) := by decide +kernel
theorem dX4_shut_38 : decode cX4_shut 38 = .ok (.iload_n 2, 1) := by decide +kernel
theorem dX4_shut_39 : decode cX4_shut 39 = .ok (.invokevirtual 183, 3) := by decide +kernel
theorem dX4_shut_42 : decode cX4_shut 42 = .ok (.ifCond .eq 6, 3) := by decide +kernel
theorem dX4_shut_45 : decode cX4_shut 45 = .ok (.bipush (-2), 2) := by decide +kernel
theorem dX4_shut_47 : decode cX4_shut 47 = .ok (.ireturn, 1) := by decide +kernel
theorem dX4_shut_48 : decode cX4_shut 48 = .ok (.aload_n 3, 1) := by decide +kernel
theorem dX4_shut_49 : decode cX4_shut 49 = .ok (.iload_n 2, 1) := by decide +kernel
theorem dX4_shut_50 : decode cX4_shut 50 = .ok (.putfield 135, 3) := by decide +kernel
theorem dX4_shut_53 : decode cX4_shut 53 = .ok (.iload_n 2, 1) := by decide +kernel
theorem dX4_shut_54 : decode cX4_shut 54 = .ok (.ireturn, 1) := by decide +kernel
theorem dX4_open_0 : decode cX4_open 0 = .ok (.aload_n 0, 1) := by decide +kernel
theorem dX4_open_1 : decode cX4_open 1 = .ok (.iload_n 1, 1) := by decide +kernel
theorem dX4_open_2 : decode cX4_open 2 = .ok (.invokevirtual 50, 3) := by decide +kernel
theorem dX4_open_5 : decode cX4_open 5 = .ok (.astore_n 2, 1) := by decide +kernel
theorem dX4_open_6 : decode cX4_open 6 = .ok (.aload_n 2, 1) := by decide +kernel
theorem dX4_open_7 : decode cX4_open 7 = .ok (.ifnonnull 5, 3) := by decide +kernel
theorem dX4_open_10 : decode cX4_open 10 = .ok (.iconst (-1), 1) := by decide +kernel
theorem dX4_open_11 : decode cX4_open 11 = .ok (.ireturn, 1) := by decide +kernel
theorem dX4_open_12 : decode cX4_open 12 = .ok (.aload_n 2, 1) := by decide +kernel
theorem dX4_open_13 : decode cX4_open 13 = .ok (.getfield 135, 3) := by decide +kernel
theorem dX4_open_16 : decode cX4_open 16 = .ok (.bipush (-9), 2) := by decide +kernel
theorem dX4_open_18 : decode cX4_open 18 = .ok (.if_icmp .ne 6, 3) := by decide +kernel
theorem dX4_open_21 : decode cX4_open 21 = .ok (.bipush (-2), 2) := by decide +kernel
theorem dX4_open_23 : decode cX4_open 23 = .ok (.ireturn, 1) := by decide +kernel
theorem dX4_open_24 : decode cX4_open 24 = .ok (.aload_n 2, 1) := by decide +kernel
theorem dX4_open_25 : decode cX4_open 25 = .ok (.getfield 135, 3) := by decide +kernel
theorem dX4_open_28 : decode cX4_open 28 = .ok (.istore_n 3, 1) := by decide +kernel
theorem dX4_open_29 : decode cX4_open 29 = .ok (.aload_n 2, 1) := by decide +kernel
theorem dX4_open_30 : decode cX4_open 30 = .ok (.bipush (-9), 2) := by decide +kernel
theorem dX4_open_32 : decode cX4_open 32 = .ok (.putfield 135, 3) := by decide +kernel
theorem dX4_open_35 : decode cX4_open 35 = .ok (.iload_n 3, 1) := by decide +kernel
theorem dX4_open_36 : decode cX4_open 36 = .ok (.ireturn, 1) := by decide +kernel
theorem dX4_about_0 : decode cX4_about 0 = .ok (.aload_n 0, 1) := by decide +kernel
theorem dX4_about_1 : decode cX4_about 1 = .ok (.iload_n 1, 1) := by decide +kernel
theorem dX4_about_2 : decode cX4_about 2 = .ok (.invokevirtual 50, 3) := by decide +kernel
theorem dX4_about_5 : decode cX4_about 5 = .ok (.astore_n 3, 1) := by decide +kernel
theorem dX4_about_6 : decode cX4_about 6 = .ok (.aload_n 3, 1) := by decide +kernel
theorem dX4_about_7 : decode cX4_about 7 = .ok (.ifnonnull 5, 3) := by decide +kernel
theorem dX4_about_10 : decode cX4_about 10 = .ok (.iconst (-1), 1) := by decide +kernel
theorem dX4_about_11 : decode cX4_about 11 = .ok (.ireturn, 1) := by decide +kernel
theorem dX4_about_12 : decode cX4_about 12 = .ok (.iload_n 2, 1) := by decide +kernel
theorem dX4_about_13 : decode cX4_about 13 = .ok (.tableswitch 63 0 3 #[31, 36, 53, 58], 31) := by decide +kernel
theorem dX4_about_44 : decode cX4_about 44 = .ok (.aload_n 3, 1) := by decide +kernel
theorem dX4_about_45 : decode cX4_about 45 = .ok (.getfield 135, 3) := by decide +kernel
theorem dX4_about_48 : decode cX4_about 48 = .ok (.ireturn, 1) := by decide +kernel
theorem dX4_about_49 : decode cX4_about 49 = .ok (.aload_n 3, 1) := by decide +kernel
theorem dX4_about_50 : decode cX4_about 50 = .ok (.aload_n 0, 1) := by decide +kernel
theorem dX4_about_51 : decode cX4_about 51 = .ok (.getfield 34, 3) := by decide +kernel
theorem dX4_about_54 : decode cX4_about 54 = .ok (.invokevirtual 132, 3) := by decide +kernel
theorem dX4_about_57 : decode cX4_about 57 = .ok (.ifCond .eq 7, 3) := by decide +kernel
theorem dX4_about_60 : decode cX4_about 60 = .ok (.iconst 1, 1) := by decide +kernel
theorem dX4_about_61 : decode cX4_about 61 = .ok (.goto 4, 3) := by decide +kernel
theorem dX4_about_64 : decode cX4_about 64 = .ok (.iconst 0, 1) := by decide +kernel
theorem dX4_about_65 : decode cX4_about 65 = .ok (.ireturn, 1) := by decide +kernel
theorem dX4_about_66 : decode cX4_about 66 = .ok (.aload_n 3, 1) := by decide +kernel
theorem dX4_about_67 : decode cX4_about 67 = .ok (.invokevirtual 186, 3) := by decide +kernel
theorem dX4_about_70 : decode cX4_about 70 = .ok (.ireturn, 1) := by decide +kernel
theorem dX4_about_71 : decode cX4_about 71 = .ok (.aload_n 3, 1) := by decide +kernel
theorem dX4_about_72 : decode cX4_about 72 = .ok (.getfield 138, 3) := by decide +kernel
theorem dX4_about_75 : decode cX4_about 75 = .ok (.ireturn, 1) := by decide +kernel
theorem dX4_about_76 : decode cX4_about 76 = .ok (.iconst (-1), 1) := by decide +kernel
theorem dX4_about_77 : decode cX4_about 77 = .ok (.ireturn, 1) := by decide +kernel
theorem dX4_harmed_0 : decode cX4_harmed 0 = .ok (.iload_n 1, 1) := by decide +kernel
theorem dX4_harmed_1 : decode cX4_harmed 1 = .ok (.invokestatic 80, 3) := by decide +kernel
theorem dX4_harmed_4 : decode cX4_harmed 4 = .ok (.ifCond .eq 12, 3) := by decide +kernel
theorem dX4_harmed_7 : decode cX4_harmed 7 = .ok (.iload_n 2, 1) := by decide +kernel
theorem dX4_harmed_8 : decode cX4_harmed 8 = .ok (.bipush 40, 2) := by decide +kernel
theorem dX4_harmed_10 : decode cX4_harmed 10 = .ok (.invokestatic 58, 3) := by decide +kernel
theorem dX4_harmed_13 : decode cX4_harmed 13 = .ok (.ifCond .ne 5, 3) := by decide +kernel
theorem dX4_harmed_16 : decode cX4_harmed 16 = .ok (.iconst (-1), 1) := by decide +kernel
theorem dX4_harmed_17 : decode cX4_harmed 17 = .ok (.ireturn, 1) := by decide +kernel
theorem dX4_harmed_18 : decode cX4_harmed 18 = .ok (.iconst 0, 1) := by decide +kernel
theorem dX4_harmed_19 : decode cX4_harmed 19 = .ok (.istore_n 3, 1) := by decide +kernel
theorem dX4_harmed_20 : decode cX4_harmed 20 = .ok (.aload_n 0, 1) := by decide +kernel
theorem dX4_harmed_21 : decode cX4_harmed 21 = .ok (.getfield 17, 3) := by decide +kernel
theorem dX4_harmed_24 : decode cX4_harmed 24 = .ok (.astore 4, 2) := by decide +kernel
theorem dX4_harmed_26 : decode cX4_harmed 26 = .ok (.aload 4, 2) := by decide +kernel
theorem dX4_harmed_28 : decode cX4_harmed 28 = .ok (.arraylength, 1) := by decide +kernel
theorem dX4_harmed_29 : decode cX4_harmed 29 = .ok (.istore 5, 2) := by decide +kernel
theorem dX4_harmed_31 : decode cX4_harmed 31 = .ok (.iconst 0, 1) := by decide +kernel
theorem dX4_harmed_32 : decode cX4_harmed 32 = .ok (.istore 6, 2) := by decide +kernel
theorem dX4_harmed_34 : decode cX4_harmed 34 = .ok (.iload 6, 2) := by decide +kernel
theorem dX4_harmed_36 : decode cX4_harmed 36 = .ok (.iload 5, 2) := by decide +kernel
theorem dX4_harmed_38 : decode cX4_harmed 38 = .ok (.if_icmp .ge 41, 3) := by decide +kernel
theorem dX4_harmed_41 : decode cX4_harmed 41 = .ok (.aload 4, 2) := by decide +kernel
theorem dX4_harmed_43 : decode cX4_harmed 43 = .ok (.iload 6, 2) := by decide +kernel
theorem dX4_harmed_45 : decode cX4_harmed 45 = .ok (.aaload, 1) := by decide +kernel
theorem dX4_harmed_46 : decode cX4_harmed 46 = .ok (.astore 7, 2) := by decide +kernel
theorem dX4_harmed_48 : decode cX4_harmed 48 = .ok (.aload 7, 2) := by decide +kernel
theorem dX4_harmed_50 : decode cX4_harmed 50 = .ok (.getfield 83, 3) := by decide +kernel
theorem dX4_harmed_53 : decode cX4_harmed 53 = .ok (.iload_n 1, 1) := by decide +kernel
theorem dX4_harmed_54 : decode cX4_harmed 54 = .ok (.invokevirtual 113, 3) := by decide +kernel
theorem dX4_harmed_57 : decode cX4_harmed 57 = .ok (.ifCond .ne 13, 3) := by decide +kernel
theorem dX4_harmed_60 : decode cX4_harmed 60 = .ok (.aload 7, 2) := by decide +kernel
theorem dX4_harmed_62 : decode cX4_harmed 62 = .ok (.iload_n 1, 1) := by decide +kernel
theorem dX4_harmed_63 : decode cX4_harmed 63 = .ok (.iload_n 2, 1) := by decide +kernel
theorem dX4_harmed_64 : decode cX4_harmed 64 = .ok (.invokevirtual 189, 3) := by decide +kernel
theorem dX4_harmed_67 : decode cX4_harmed 67 = .ok (.ifCond .eq 6, 3) := by decide +kernel
theorem dX4_harmed_70 : decode cX4_harmed 70 = .ok (.iinc 3 1, 3) := by decide +kernel
theorem dX4_harmed_73 : decode cX4_harmed 73 = .ok (.iinc 6 1, 3) := by decide +kernel
theorem dX4_harmed_76 : decode cX4_harmed 76 = .ok (.goto (-42), 3) := by decide +kernel
theorem dX4_harmed_79 : decode cX4_harmed 79 = .ok (.iload_n 3, 1) := by decide +kernel
theorem dX4_harmed_80 : decode cX4_harmed 80 = .ok (.ireturn, 1) := by decide +kernel
theorem dX4_ready_0 : decode cX4_ready 0 = .ok (.aload_n 0, 1) := by decide +kernel
theorem dX4_ready_1 : decode cX4_ready 1 = .ok (.iload_n 1, 1) := by decide +kernel
theorem dX4_ready_2 : decode cX4_ready 2 = .ok (.invokevirtual 50, 3) := by decide +kernel
theorem dX4_ready_5 : decode cX4_ready 5 = .ok (.astore_n 2, 1) := by decide +kernel
theorem dX4_ready_6 : decode cX4_ready 6 = .ok (.aload_n 2, 1) := by decide +kernel
theorem dX4_ready_7 : decode cX4_ready 7 = .ok (.ifnonnull 5, 3) := by decide +kernel
theorem dX4_ready_10 : decode cX4_ready 10 = .ok (.iconst (-1), 1) := by decide +kernel
theorem dX4_ready_11 : decode cX4_ready 11 = .ok (.ireturn, 1) := by decide +kernel
theorem dX4_ready_12 : decode cX4_ready 12 = .ok (.aload_n 0, 1) := by decide +kernel
theorem dX4_ready_13 : decode cX4_ready 13 = .ok (.getfield 34, 3) := by decide +kernel
theorem dX4_ready_16 : decode cX4_ready 16 = .ok (.istore_n 3, 1) := by decide +kernel
theorem dX4_ready_17 : decode cX4_ready 17 = .ok (.iload_n 3, 1) := by decide +kernel
theorem dX4_ready_18 : decode cX4_ready 18 = .ok (.bipush 40, 2) := by decide +kernel
theorem dX4_ready_20 : decode cX4_ready 20 = .ok (.if_icmp .gt 28, 3) := by decide +kernel
theorem dX4_ready_23 : decode cX4_ready 23 = .ok (.aload_n 0, 1) := by decide +kernel
theorem dX4_ready_24 : decode cX4_ready 24 = .ok (.iload_n 1, 1) := by decide +kernel
theorem dX4_ready_25 : decode cX4_ready 25 = .ok (.iload_n 3, 1) := by decide +kernel
theorem dX4_ready_26 : decode cX4_ready 26 = .ok (.invokevirtual 192, 3) := by decide +kernel
theorem dX4_ready_29 : decode cX4_ready 29 = .ok (.ifCond .ne 13, 3) := by decide +kernel
theorem dX4_ready_32 : decode cX4_ready 32 = .ok (.aload_n 2, 1) := by decide +kernel
theorem dX4_ready_33 : decode cX4_ready 33 = .ok (.iload_n 3, 1) := by decide +kernel
theorem dX4_ready_34 : decode cX4_ready 34 = .ok (.invokevirtual 183, 3) := by decide +kernel
theorem dX4_ready_37 : decode cX4_ready 37 = .ok (.ifCond .ne 5, 3) := by decide +kernel
theorem dX4_ready_40 : decode cX4_ready 40 = .ok (.iload_n 3, 1) := by decide +kernel
theorem dX4_ready_41 : decode cX4_ready 41 = .ok (.ireturn, 1) := by decide +kernel
theorem dX4_ready_42 : decode cX4_ready 42 = .ok (.iinc 3 1, 3) := by decide +kernel
theorem dX4_ready_45 : decode cX4_ready 45 = .ok (.goto (-28), 3) := by decide +kernel
theorem dX4_ready_48 : decode cX4_ready 48 = .ok (.bipush (-9), 2) := by decide +kernel
theorem dX4_ready_50 : decode cX4_ready 50 = .ok (.ireturn, 1) := by decide +kernel
theorem dX4_set_0 : decode cX4_set 0 = .ok (.iload_n 3, 1) := by decide +kernel
theorem dX4_set_1 : decode cX4_set 1 = .ok (.sipush 1000, 3) := by decide +kernel
theorem dX4_set_4 : decode cX4_set 4 = .ok (.invokestatic 58, 3) := by decide +kernel
theorem dX4_set_7 : decode cX4_set 7 = .ok (.ifCond .ne 5, 3) := by decide +kernel
theorem dX4_set_10 : decode cX4_set 10 = .ok (.iconst (-1), 1) := by decide +kernel
theorem dX4_set_11 : decode cX4_set 11 = .ok (.ireturn, 1) := by decide +kernel
theorem dX4_set_12 : decode cX4_set 12 = .ok (.iload_n 1, 1) := by decide +kernel
theorem dX4_set_13 : decode cX4_set 13 = .ok (.tableswitch 61 0 2 #[27, 37, 47], 27) := by decide +kernel
theorem dX4_set_40 : decode cX4_set 40 = .ok (.aload_n 0, 1) := by decide +kernel
theorem dX4_set_41 : decode cX4_set 41 = .ok (.iload_n 2, 1) := by decide +kernel
theorem dX4_set_42 : decode cX4_set 42 = .ok (.invokevirtual 50, 3) := by decide +kernel
theorem dX4_set_45 : decode cX4_set 45 = .ok (.iload_n 3, 1) := by decide +kernel
theorem dX4_set_46 : decode cX4_set 46 = .ok (.invokestatic 195, 3) := by decide +kernel
theorem dX4_set_49 : decode cX4_set 49 = .ok (.ireturn, 1) := by decide +kernel
theorem dX4_set_50 : decode cX4_set 50 = .ok (.aload_n 0, 1) := by decide +kernel
theorem dX4_set_51 : decode cX4_set 51 = .ok (.iload_n 2, 1) := by decide +kernel
theorem dX4_set_52 : decode cX4_set 52 = .ok (.invokevirtual 73, 3) := by decide +kernel
theorem dX4_set_55 : decode cX4_set 55 = .ok (.iload_n 3, 1) := by decide +kernel
theorem dX4_set_56 : decode cX4_set 56 = .ok (.invokestatic 199, 3) := by decide +kernel
theorem dX4_set_59 : decode cX4_set 59 = .ok (.ireturn, 1) := by decide +kernel
theorem dX4_set_60 : decode cX4_set 60 = .ok (.aload_n 0, 1) := by decide +kernel
theorem dX4_set_61 : decode cX4_set 61 = .ok (.getfield 37, 3) := by decide +kernel
theorem dX4_set_64 : decode cX4_set 64 = .ok (.istore 4, 2) := by decide +kernel
theorem dX4_set_66 : decode cX4_set 66 = .ok (.aload_n 0, 1) := by decide +kernel
theorem dX4_set_67 : decode cX4_set 67 = .ok (.iload_n 3, 1) := by decide +kernel
theorem dX4_set_68 : decode cX4_set 68 = .ok (.putfield 37, 3) := by decide +kernel
theorem dX4_set_71 : decode cX4_set 71 = .ok (.iload 4, 2) := by decide +kernel
theorem dX4_set_73 : decode cX4_set 73 = .ok (.ireturn, 1) := by decide +kernel
theorem dX4_set_74 : decode cX4_set 74 = .ok (.iconst (-1), 1) := by decide +kernel
theorem dX4_set_75 : decode cX4_set 75 = .ok (.ireturn, 1) := by decide +kernel
theorem dX4_plan_0 : decode cX4_plan 0 = .ok (.iload_n 1, 1) := by decide +kernel
theorem dX4_plan_1 : decode cX4_plan 1 = .ok (.ifCond .eq 10, 3) := by decide +kernel
theorem dX4_plan_4 : decode cX4_plan 4 = .ok (.iload_n 1, 1) := by decide +kernel
theorem dX4_plan_5 : decode cX4_plan 5 = .ok (.iconst 1, 1) := by decide +kernel
theorem dX4_plan_6 : decode cX4_plan 6 = .ok (.if_icmp .eq 5, 3) := by decide +kernel
theorem dX4_plan_9 : decode cX4_plan 9 = .ok (.iconst (-1), 1) := by decide +kernel
theorem dX4_plan_10 : decode cX4_plan 10 = .ok (.ireturn, 1) := by decide +kernel
theorem dX4_plan_11 : decode cX4_plan 11 = .ok (.iconst 0, 1) := by decide +kernel
theorem dX4_plan_12 : decode cX4_plan 12 = .ok (.istore_n 2, 1) := by decide +kernel
theorem dX4_plan_13 : decode cX4_plan 13 = .ok (.iconst 0, 1) := by decide +kernel
theorem dX4_plan_14 : decode cX4_plan 14 = .ok (.istore_n 3, 1) := by decide +kernel
theorem dX4_plan_15 : decode cX4_plan 15 = .ok (.iconst 0, 1) := by decide +kernel
theorem dX4_plan_16 : decode cX4_plan 16 = .ok (.istore 4, 2) := by decide +kernel
theorem dX4_plan_18 : decode cX4_plan 18 = .ok (.iload 4, 2) := by decide +kernel
theorem dX4_plan_20 : decode cX4_plan 20 = .ok (.bipush 8, 2) := by decide +kernel
theorem dX4_plan_22 : decode cX4_plan 22 = .ok (.if_icmp .ge 61, 3) := by decide +kernel
theorem dX4_plan_25 : decode cX4_plan 25 = .ok (.aload_n 0, 1) := by decide +kernel
theorem dX4_plan_26 : decode cX4_plan 26 = .ok (.iload 4, 2) := by decide +kernel
theorem dX4_plan_28 : decode cX4_plan 28 = .ok (.invokevirtual 203, 3) := by decide +kernel
theorem dX4_plan_31 : decode cX4_plan 31 = .ok (.istore 5, 2) := by decide +kernel
theorem dX4_plan_33 : decode cX4_plan 33 = .ok (.aload_n 0, 1) := by decide +kernel
theorem dX4_plan_34 : decode cX4_plan 34 = .ok (.aload_n 0, 1) := by decide +kernel
theorem dX4_plan_35 : decode cX4_plan 35 = .ok (.getfield 11, 3) := by decide +kernel
theorem dX4_plan_38 : decode cX4_plan 38 = .ok (.iload 4, 2) := by decide +kernel
theorem dX4_plan_40 : decode cX4_plan 40 = .ok (.aaload, 1) := by decide +kernel
theorem dX4_plan_41 : decode cX4_plan 41 = .ok (.iload 5, 2) := by decide +kernel
theorem dX4_plan_43 : decode cX4_plan 43 = .ok (.invokevirtual 206, 3) := by decide +kernel
theorem dX4_plan_46 : decode cX4_plan 46 = .ok (.ifCond .eq 26, 3) := by decide +kernel
theorem dX4_plan_49 : decode cX4_plan 49 = .ok (.iload_n 2, 1) := by decide +kernel
theorem dX4_plan_50 : decode cX4_plan 50 = .ok (.iconst 1, 1) := by decide +kernel
theorem dX4_plan_51 : decode cX4_plan 51 = .ok (.iload 4, 2) := by decide +kernel
theorem dX4_plan_53 : decode cX4_plan 53 = .ok (.ishl, 1) := by decide +kernel
theorem dX4_plan_54 : decode cX4_plan 54 = .ok (.ior, 1) := by decide +kernel
theorem dX4_plan_55 : decode cX4_plan 55 = .ok (.istore_n 2, 1) := by decide +kernel
theorem dX4_plan_56 : decode cX4_plan 56 = .ok (.iload_n 3, 1) := by decide +kernel
theorem dX4_plan_57 : decode cX4_plan 57 = .ok (.aload_n 0, 1) := by decide +kernel
theorem dX4_plan_58 : decode cX4_plan 58 = .ok (.getfield 11, 3) := by decide +kernel
theorem dX4_plan_61 : decode cX4_plan 61 = .ok (.iload 4, 2) := by decide +kernel
theorem dX4_plan_63 : decode cX4_plan 63 = .ok (.aaload, 1) := by decide +kernel
theorem dX4_plan_64 : decode cX4_plan 64 = .ok (.getfield 210, 3) := by decide +kernel
theorem dX4_plan_67 : decode cX4_plan 67 = .ok (.iadd, 1) := by decide +kernel
theorem dX4_plan_68 : decode cX4_plan 68 = .ok (.istore_n 3, 1) := by decide +kernel
theorem dX4_plan_69 : decode cX4_plan 69 = .ok (.goto 8, 3) := by decide +kernel
theorem dX4_plan_72 : decode cX4_plan 72 = .ok (.iload_n 3, 1) := by decide +kernel
theorem dX4_plan_73 : decode cX4_plan 73 = .ok (.iload 5, 2) := by decide +kernel
theorem dX4_plan_75 : decode cX4_plan 75 = .ok (.iadd, 1) := by decide +kernel
theorem dX4_plan_76 : decode cX4_plan 76 = .ok (.istore_n 3, 1) := by decide +kernel
theorem dX4_plan_77 : decode cX4_plan 77 = .ok (.iinc 4 1, 3) := by decide +kernel
theorem dX4_plan_80 : decode cX4_plan 80 = .ok (.goto (-62), 3) := by decide +kernel
theorem dX4_plan_83 : decode cX4_plan 83 = .ok (.iload_n 1, 1) := by decide +kernel
theorem dX4_plan_84 : decode cX4_plan 84 = .ok (.ifCond .ne 7, 3) := by decide +kernel
theorem dX4_plan_87 : decode cX4_plan 87 = .ok (.iload_n 2, 1) := by decide +kernel
theorem dX4_plan_88 : decode cX4_plan 88 = .ok (.goto 4, 3) := by decide +kernel
theorem dX4_plan_91 : decode cX4_plan 91 = .ok (.iload_n 3, 1) := by decide +kernel
theorem dX4_plan_92 : decode cX4_plan 92 = .ok (.ireturn, 1) := by decide +kernel
theorem dX4_told_0 : decode cX4_told 0 = .ok (.iload_n 1, 1) := by decide +kernel
theorem dX4_told_1 : decode cX4_told 1 = .ok (.tableswitch 60 0 4 #[35, 40, 45, 50, 55], 35) := by decide +kernel
theorem dX4_told_36 : decode cX4_told 36 = .ok (.aload_n 0, 1) := by decide +kernel
theorem dX4_told_37 : decode cX4_told 37 = .ok (.getfield 31, 3) := by decide +kernel
theorem dX4_told_40 : decode cX4_told 40 = .ok (.ireturn, 1) := by decide +kernel
theorem dX4_told_41 : decode cX4_told 41 = .ok (.aload_n 0, 1) := by decide +kernel
theorem dX4_told_42 : decode cX4_told 42 = .ok (.getfield 34, 3) := by decide +kernel
theorem dX4_told_45 : decode cX4_told 45 = .ok (.ireturn, 1) := by decide +kernel
theorem dX4_told_46 : decode cX4_told 46 = .ok (.aload_n 0, 1) := by decide +kernel
theorem dX4_told_47 : decode cX4_told 47 = .ok (.getfield 27, 3) := by decide +kernel
theorem dX4_told_50 : decode cX4_told 50 = .ok (.ireturn, 1) := by decide +kernel
theorem dX4_told_51 : decode cX4_told 51 = .ok (.aload_n 0, 1) := by decide +kernel
theorem dX4_told_52 : decode cX4_told 52 = .ok (.invokevirtual 151, 3) := by decide +kernel
theorem dX4_told_55 : decode cX4_told 55 = .ok (.ireturn, 1) := by decide +kernel
theorem dX4_told_56 : decode cX4_told 56 = .ok (.aload_n 0, 1) := by decide +kernel
theorem dX4_told_57 : decode cX4_told 57 = .ok (.invokevirtual 213, 3) := by decide +kernel
theorem dX4_told_60 : decode cX4_told 60 = .ok (.ireturn, 1) := by decide +kernel
theorem dX4_told_61 : decode cX4_told 61 = .ok (.iconst (-1), 1) := by decide +kernel
theorem dX4_told_62 : decode cX4_told 62 = .ok (.ireturn, 1) := by decide +kernel
theorem dX4_trace_0 : decode cX4_trace 0 = .ok (.aload_n 0, 1) := by decide +kernel
theorem dX4_trace_1 : decode cX4_trace 1 = .ok (.getfield 40, 3) := by decide +kernel
theorem dX4_trace_4 : decode cX4_trace 4 = .ok (.lreturn, 1) := by decide +kernel
theorem dX4_isWithin_0 : decode cX4_isWithin 0 = .ok (.iload_n 0, 1) := by decide +kernel
theorem dX4_isWithin_1 : decode cX4_isWithin 1 = .ok (.ifCond .lt 12, 3) := by decide +kernel
theorem dX4_isWithin_4 : decode cX4_isWithin 4 = .ok (.iload_n 0, 1) := by decide +kernel
theorem dX4_isWithin_5 : decode cX4_isWithin 5 = .ok (.iload_n 1, 1) := by decide +kernel
theorem dX4_isWithin_6 : decode cX4_isWithin 6 = .ok (.if_icmp .gt 7, 3) := by decide +kernel
theorem dX4_isWithin_9 : decode cX4_isWithin 9 = .ok (.iconst 1, 1) := by decide +kernel
theorem dX4_isWithin_10 : decode cX4_isWithin 10 = .ok (.goto 4, 3) := by decide +kernel
theorem dX4_isWithin_13 : decode cX4_isWithin 13 = .ok (.iconst 0, 1) := by decide +kernel
theorem dX4_isWithin_14 : decode cX4_isWithin 14 = .ok (.ireturn, 1) := by decide +kernel
theorem dX4_isFace_0 : decode cX4_isFace 0 = .ok (.iload_n 0, 1) := by decide +kernel
theorem dX4_isFace_1 : decode cX4_isFace 1 = .ok (.bipush 7, 2) := by decide +kernel
theorem dX4_isFace_3 : decode cX4_isFace 3 = .ok (.invokestatic 58, 3) := by decide +kernel
theorem dX4_isFace_6 : decode cX4_isFace 6 = .ok (.ireturn, 1) := by decide +kernel
theorem dX4_isDay_0 : decode cX4_isDay 0 = .ok (.iload_n 0, 1) := by decide +kernel
theorem dX4_isDay_1 : decode cX4_isDay 1 = .ok (.bipush 39, 2) := by decide +kernel
theorem dX4_isDay_3 : decode cX4_isDay 3 = .ok (.invokestatic 58, 3) := by decide +kernel
theorem dX4_isDay_6 : decode cX4_isDay 6 = .ok (.ireturn, 1) := by decide +kernel
theorem dX4_isSpan_0 : decode cX4_isSpan 0 = .ok (.iload_n 0, 1) := by decide +kernel
theorem dX4_isSpan_1 : decode cX4_isSpan 1 = .ok (.invokestatic 121, 3) := by decide +kernel
theorem dX4_isSpan_4 : decode cX4_isSpan 4 = .ok (.ifCond .eq 19, 3) := by decide +kernel
theorem dX4_isSpan_7 : decode cX4_isSpan 7 = .ok (.iload_n 1, 1) := by decide +kernel
theorem dX4_isSpan_8 : decode cX4_isSpan 8 = .ok (.invokestatic 121, 3) := by decide +kernel
theorem dX4_isSpan_11 : decode cX4_isSpan 11 = .ok (.ifCond .eq 12, 3) := by decide +kernel
theorem dX4_isSpan_14 : decode cX4_isSpan 14 = .ok (.iload_n 0, 1) := by decide +kernel
theorem dX4_isSpan_15 : decode cX4_isSpan 15 = .ok (.iload_n 1, 1) := by decide +kernel
theorem dX4_isSpan_16 : decode cX4_isSpan 16 = .ok (.if_icmp .gt 7, 3) := by decide +kernel
theorem dX4_isSpan_19 : decode cX4_isSpan 19 = .ok (.iconst 1, 1) := by decide +kernel
theorem dX4_isSpan_20 : decode cX4_isSpan 20 = .ok (.goto 4, 3) := by decide +kernel
theorem dX4_isSpan_23 : decode cX4_isSpan 23 = .ok (.iconst 0, 1) := by decide +kernel
theorem dX4_isSpan_24 : decode cX4_isSpan 24 = .ok (.ireturn, 1) := by decide +kernel
theorem dX4_isVersion_0 : decode cX4_isVersion 0 = .ok (.iload_n 1, 1) := by decide +kernel
theorem dX4_isVersion_1 : decode cX4_isVersion 1 = .ok (.aload_n 0, 1) := by decide +kernel
theorem dX4_isVersion_2 : decode cX4_isVersion 2 = .ok (.getfield 31, 3) := by decide +kernel
theorem dX4_isVersion_5 : decode cX4_isVersion 5 = .ok (.iconst 1, 1) := by decide +kernel
theorem dX4_isVersion_6 : decode cX4_isVersion 6 = .ok (.isub, 1) := by decide +kernel
theorem dX4_isVersion_7 : decode cX4_isVersion 7 = .ok (.invokestatic 58, 3) := by decide +kernel
theorem dX4_isVersion_10 : decode cX4_isVersion 10 = .ok (.ireturn, 1) := by decide +kernel
theorem dX4_doorAt_0 : decode cX4_doorAt 0 = .ok (.iload_n 1, 1) := by decide +kernel
theorem dX4_doorAt_1 : decode cX4_doorAt 1 = .ok (.invokestatic 80, 3) := by decide +kernel
theorem dX4_doorAt_4 : decode cX4_doorAt 4 = .ok (.ifCond .eq 12, 3) := by decide +kernel
theorem dX4_doorAt_7 : decode cX4_doorAt 7 = .ok (.aload_n 0, 1) := by decide +kernel
theorem dX4_doorAt_8 : decode cX4_doorAt 8 = .ok (.getfield 11, 3) := by decide +kernel
theorem dX4_doorAt_11 : decode cX4_doorAt 11 = .ok (.iload_n 1, 1) := by decide +kernel
theorem dX4_doorAt_12 : decode cX4_doorAt 12 = .ok (.aaload, 1) := by decide +kernel
theorem dX4_doorAt_13 : decode cX4_doorAt 13 = .ok (.goto 4, 3) := by decide +kernel
theorem dX4_doorAt_16 : decode cX4_doorAt 16 = .ok (.aconst_null, 1) := by decide +kernel
theorem dX4_doorAt_17 : decode cX4_doorAt 17 = .ok (.areturn, 1) := by decide +kernel
theorem dX4_houseAt_0 : decode cX4_houseAt 0 = .ok (.iload_n 1, 1) := by decide +kernel
theorem dX4_houseAt_1 : decode cX4_houseAt 1 = .ok (.iconst 5, 1) := by decide +kernel
theorem dX4_houseAt_2 : decode cX4_houseAt 2 = .ok (.invokestatic 58, 3) := by decide +kernel
theorem dX4_houseAt_5 : decode cX4_houseAt 5 = .ok (.ifCond .eq 12, 3) := by decide +kernel
theorem dX4_houseAt_8 : decode cX4_houseAt 8 = .ok (.aload_n 0, 1) := by decide +kernel
theorem dX4_houseAt_9 : decode cX4_houseAt 9 = .ok (.getfield 17, 3) := by decide +kernel
theorem dX4_houseAt_12 : decode cX4_houseAt 12 = .ok (.iload_n 1, 1) := by decide +kernel
theorem dX4_houseAt_13 : decode cX4_houseAt 13 = .ok (.aaload, 1) := by decide +kernel
theorem dX4_houseAt_14 : decode cX4_houseAt 14 = .ok (.goto 4, 3) := by decide +kernel
theorem dX4_houseAt_17 : decode cX4_houseAt 17 = .ok (.aconst_null, 1) := by decide +kernel
theorem dX4_houseAt_18 : decode cX4_houseAt 18 = .ok (.areturn, 1) := by decide +kernel
theorem dX4_ruleAt_0 : decode cX4_ruleAt 0 = .ok (.iload_n 1, 1) := by decide +kernel
theorem dX4_ruleAt_1 : decode cX4_ruleAt 1 = .ok (.aload_n 0, 1) := by decide +kernel
theorem dX4_ruleAt_2 : decode cX4_ruleAt 2 = .ok (.getfield 27, 3) := by decide +kernel
theorem dX4_ruleAt_5 : decode cX4_ruleAt 5 = .ok (.iconst 1, 1) := by decide +kernel
theorem dX4_ruleAt_6 : decode cX4_ruleAt 6 = .ok (.isub, 1) := by decide +kernel
theorem dX4_ruleAt_7 : decode cX4_ruleAt 7 = .ok (.invokestatic 58, 3) := by decide +kernel
theorem dX4_ruleAt_10 : decode cX4_ruleAt 10 = .ok (.ifCond .eq 12, 3) := by decide +kernel
theorem dX4_ruleAt_13 : decode cX4_ruleAt 13 = .ok (.aload_n 0, 1) := by decide +kernel
theorem dX4_ruleAt_14 : decode cX4_ruleAt 14 = .ok (.getfield 23, 3) := by decide +kernel
theorem dX4_ruleAt_17 : decode cX4_ruleAt 17 = .ok (.iload_n 1, 1) := by decide +kernel
theorem dX4_ruleAt_18 : decode cX4_ruleAt 18 = .ok (.aaload, 1) := by decide +kernel
theorem dX4_ruleAt_19 : decode cX4_ruleAt 19 = .ok (.goto 4, 3) := by decide +kernel
theorem dX4_ruleAt_22 : decode cX4_ruleAt 22 = .ok (.aconst_null, 1) := by decide +kernel
theorem dX4_ruleAt_23 : decode cX4_ruleAt 23 = .ok (.areturn, 1) := by decide +kernel
theorem dX4_isHeld_0 : decode cX4_isHeld 0 = .ok (.aload_n 0, 1) := by decide +kernel
theorem dX4_isHeld_1 : decode cX4_isHeld 1 = .ok (.aload_n 1, 1) := by decide +kernel
theorem dX4_isHeld_2 : decode cX4_isHeld 2 = .ok (.getfield 168, 3) := by decide +kernel
theorem dX4_isHeld_5 : decode cX4_isHeld 5 = .ok (.invokevirtual 50, 3) := by decide +kernel
theorem dX4_isHeld_8 : decode cX4_isHeld 8 = .ok (.astore 4, 2) := by decide +kernel
theorem dX4_isHeld_10 : decode cX4_isHeld 10 = .ok (.aload_n 0, 1) := by decide +kernel
theorem dX4_isHeld_11 : decode cX4_isHeld 11 = .ok (.aload_n 1, 1) := by decide +kernel
theorem dX4_isHeld_12 : decode cX4_isHeld 12 = .ok (.getfield 174, 3) := by decide +kernel
theorem dX4_isHeld_15 : decode cX4_isHeld 15 = .ok (.invokevirtual 50, 3) := by decide +kernel
theorem dX4_isHeld_18 : decode cX4_isHeld 18 = .ok (.astore 5, 2) := by decide +kernel
theorem dX4_isHeld_20 : decode cX4_isHeld 20 = .ok (.aload 4, 2) := by decide +kernel
theorem dX4_isHeld_22 : decode cX4_isHeld 22 = .ok (.ifnull 8, 3) := by decide +kernel
theorem dX4_isHeld_25 : decode cX4_isHeld 25 = .ok (.aload 5, 2) := by decide +kernel
theorem dX4_isHeld_27 : decode cX4_isHeld 27 = .ok (.ifnonnull 5, 3) := by decide +kernel
theorem dX4_isHeld_30 : decode cX4_isHeld 30 = .ok (.iconst 0, 1) := by decide +kernel
theorem dX4_isHeld_31 : decode cX4_isHeld 31 = .ok (.ireturn, 1) := by decide +kernel
theorem dX4_isHeld_32 : decode cX4_isHeld 32 = .ok (.iconst 0, 1) := by decide +kernel
theorem dX4_isHeld_33 : decode cX4_isHeld 33 = .ok (.istore 6, 2) := by decide +kernel
theorem dX4_isHeld_35 : decode cX4_isHeld 35 = .ok (.iload 6, 2) := by decide +kernel
theorem dX4_isHeld_37 : decode cX4_isHeld 37 = .ok (.bipush 8, 2) := by decide +kernel
theorem dX4_isHeld_39 : decode cX4_isHeld 39 = .ok (.if_icmp .ge 62, 3) := by decide +kernel
theorem dX4_isHeld_42 : decode cX4_isHeld 42 = .ok (.aload_n 1, 1) := by decide +kernel
theorem dX4_isHeld_43 : decode cX4_isHeld 43 = .ok (.getfield 171, 3) := by decide +kernel
theorem dX4_isHeld_46 : decode cX4_isHeld 46 = .ok (.iload 6, 2) := by decide +kernel
theorem dX4_isHeld_48 : decode cX4_isHeld 48 = .ok (.ishr, 1) := by decide +kernel
theorem dX4_isHeld_49 : decode cX4_isHeld 49 = .ok (.iconst 1, 1) := by decide +kernel
theorem dX4_isHeld_50 : decode cX4_isHeld 50 = .ok (.iand, 1) := by decide +kernel
theorem dX4_isHeld_51 : decode cX4_isHeld 51 = .ok (.ifCond .eq 7, 3) := by decide +kernel
theorem dX4_isHeld_54 : decode cX4_isHeld 54 = .ok (.iconst 1, 1) := by decide +kernel
theorem dX4_isHeld_55 : decode cX4_isHeld 55 = .ok (.goto 4, 3) := by decide +kernel
theorem dX4_isHeld_58 : decode cX4_isHeld 58 = .ok (.iconst 0, 1) := by decide +kernel
theorem dX4_isHeld_59 : decode cX4_isHeld 59 = .ok (.istore 7, 2) := by decide +kernel
theorem dX4_isHeld_61 : decode cX4_isHeld 61 = .ok (.iload 7, 2) := by decide +kernel
theorem dX4_isHeld_63 : decode cX4_isHeld 63 = .ok (.ifCond .eq 32, 3) := by decide +kernel
theorem dX4_isHeld_66 : decode cX4_isHeld 66 = .ok (.aload 4, 2) := by decide +kernel
theorem dX4_isHeld_68 : decode cX4_isHeld 68 = .ok (.iload_n 2, 1) := by decide +kernel
theorem dX4_isHeld_69 : decode cX4_isHeld 69 = .ok (.iload 6, 2) := by decide +kernel
theorem dX4_isHeld_71 : decode cX4_isHeld 71 = .ok (.invokevirtual 62, 3) := by decide +kernel
theorem dX4_isHeld_74 : decode cX4_isHeld 74 = .ok (.aload 5, 2) := by decide +kernel
theorem dX4_isHeld_76 : decode cX4_isHeld 76 = .ok (.iload_n 3, 1) := by decide +kernel
theorem dX4_isHeld_77 : decode cX4_isHeld 77 = .ok (.iload 6, 2) := by decide +kernel
theorem dX4_isHeld_79 : decode cX4_isHeld 79 = .ok (.aload_n 1, 1) := by decide +kernel
theorem dX4_isHeld_80 : decode cX4_isHeld 80 = .ok (.getfield 177, 3) := by decide +kernel
theorem dX4_isHeld_83 : decode cX4_isHeld 83 = .ok (.iadd, 1) := by decide +kernel
theorem dX4_isHeld_84 : decode cX4_isHeld 84 = .ok (.bipush 8, 2) := by decide +kernel
theorem dX4_isHeld_86 : decode cX4_isHeld 86 = .ok (.irem, 1) := by decide +kernel
theorem dX4_isHeld_87 : decode cX4_isHeld 87 = .ok (.invokevirtual 62, 3) := by decide +kernel
theorem dX4_isHeld_90 : decode cX4_isHeld 90 = .ok (.if_icmp .eq 5, 3) := by decide +kernel
theorem dX4_isHeld_93 : decode cX4_isHeld 93 = .ok (.iconst 0, 1) := by decide +kernel
theorem dX4_isHeld_94 : decode cX4_isHeld 94 = .ok (.ireturn, 1) := by decide +kernel
theorem dX4_isHeld_95 : decode cX4_isHeld 95 = .ok (.iinc 6 1, 3) := by decide +kernel
theorem dX4_isHeld_98 : decode cX4_isHeld 98 = .ok (.goto (-63), 3) := by decide +kernel
theorem dX4_isHeld_101 : decode cX4_isHeld 101 = .ok (.iconst 1, 1) := by decide +kernel
theorem dX4_isHeld_102 : decode cX4_isHeld 102 = .ok (.ireturn, 1) := by decide +kernel
theorem dX4_silentHouses_0 : decode cX4_silentHouses 0 = .ok (.iconst 0, 1) := by decide +kernel
theorem dX4_silentHouses_1 : decode cX4_silentHouses 1 = .ok (.istore_n 1, 1) := by decide +kernel
theorem dX4_silentHouses_2 : decode cX4_silentHouses 2 = .ok (.aload_n 0, 1) := by decide +kernel
theorem dX4_silentHouses_3 : decode cX4_silentHouses 3 = .ok (.getfield 17, 3) := by decide +kernel
theorem dX4_silentHouses_6 : decode cX4_silentHouses 6 = .ok (.astore_n 2, 1) := by decide +kernel
theorem dX4_silentHouses_7 : decode cX4_silentHouses 7 = .ok (.aload_n 2, 1) := by decide +kernel
theorem dX4_silentHouses_8 : decode cX4_silentHouses 8 = .ok (.arraylength, 1) := by decide +kernel
theorem dX4_silentHouses_9 : decode cX4_silentHouses 9 = .ok (.istore_n 3, 1) := by decide +kernel
theorem dX4_silentHouses_10 : decode cX4_silentHouses 10 = .ok (.iconst 0, 1) := by decide +kernel
theorem dX4_silentHouses_11 : decode cX4_silentHouses 11 = .ok (.istore 4, 2) := by decide +kernel
theorem dX4_silentHouses_13 : decode cX4_silentHouses 13 = .ok (.iload 4, 2) := by decide +kernel
theorem dX4_silentHouses_15 : decode cX4_silentHouses 15 = .ok (.iload_n 3, 1) := by decide +kernel
theorem dX4_silentHouses_16 : decode cX4_silentHouses 16 = .ok (.if_icmp .ge 26, 3) := by decide +kernel
theorem dX4_silentHouses_19 : decode cX4_silentHouses 19 = .ok (.aload_n 2, 1) := by decide +kernel
theorem dX4_silentHouses_20 : decode cX4_silentHouses 20 = .ok (.iload 4, 2) := by decide +kernel
theorem dX4_silentHouses_22 : decode cX4_silentHouses 22 = .ok (.aaload, 1) := by decide +kernel
theorem dX4_silentHouses_23 : decode cX4_silentHouses 23 = .ok (.astore 5, 2) := by decide +kernel
theorem dX4_silentHouses_25 : decode cX4_silentHouses 25 = .ok (.aload 5, 2) := by decide +kernel
theorem dX4_silentHouses_27 : decode cX4_silentHouses 27 = .ok (.invokevirtual 147, 3) := by decide +kernel
theorem dX4_silentHouses_30 : decode cX4_silentHouses 30 = .ok (.ifCond .eq 6, 3) := by decide +kernel
theorem dX4_silentHouses_33 : decode cX4_silentHouses 33 = .ok (.iinc 1 1, 3) := by decide +kernel
theorem dX4_silentHouses_36 : decode cX4_silentHouses 36 = .ok (.iinc 4 1, 3) := by decide +kernel
theorem dX4_silentHouses_39 : decode cX4_silentHouses 39 = .ok (.goto (-26), 3) := by decide +kernel
theorem dX4_silentHouses_42 : decode cX4_silentHouses 42 = .ok (.iload_n 1, 1) := by decide +kernel
theorem dX4_silentHouses_43 : decode cX4_silentHouses 43 = .ok (.ireturn, 1) := by decide +kernel
theorem dX4_shutDoors_0 : decode cX4_shutDoors 0 = .ok (.iconst 0, 1) := by decide +kernel
theorem dX4_shutDoors_1 : decode cX4_shutDoors 1 = .ok (.istore_n 1, 1) := by decide +kernel
theorem dX4_shutDoors_2 : decode cX4_shutDoors 2 = .ok (.aload_n 0, 1) := by decide +kernel
theorem dX4_shutDoors_3 : decode cX4_shutDoors 3 = .ok (.getfield 11, 3) := by decide +kernel
theorem dX4_shutDoors_6 : decode cX4_shutDoors 6 = .ok (.astore_n 2, 1) := by decide +kernel
theorem dX4_shutDoors_7 : decode cX4_shutDoors 7 = .ok (.aload_n 2, 1) := by decide +kernel
theorem dX4_shutDoors_8 : decode cX4_shutDoors 8 = .ok (.arraylength, 1) := by decide +kernel
theorem dX4_shutDoors_9 : decode cX4_shutDoors 9 = .ok (.istore_n 3, 1) := by decide +kernel
theorem dX4_shutDoors_10 : decode cX4_shutDoors 10 = .ok (.iconst 0, 1) := by decide +kernel
theorem dX4_shutDoors_11 : decode cX4_shutDoors 11 = .ok (.istore 4, 2) := by decide +kernel
theorem dX4_shutDoors_13 : decode cX4_shutDoors 13 = .ok (.iload 4, 2) := by decide +kernel
theorem dX4_shutDoors_15 : decode cX4_shutDoors 15 = .ok (.iload_n 3, 1) := by decide +kernel
theorem dX4_shutDoors_16 : decode cX4_shutDoors 16 = .ok (.if_icmp .ge 30, 3) := by decide +kernel
theorem dX4_shutDoors_19 : decode cX4_shutDoors 19 = .ok (.aload_n 2, 1) := by decide +kernel
theorem dX4_shutDoors_20 : decode cX4_shutDoors 20 = .ok (.iload 4, 2) := by decide +kernel
theorem dX4_shutDoors_22 : decode cX4_shutDoors 22 = .ok (.aaload, 1) := by decide +kernel
theorem dX4_shutDoors_23 : decode cX4_shutDoors 23 = .ok (.astore 5, 2) := by decide +kernel
theorem dX4_shutDoors_25 : decode cX4_shutDoors 25 = .ok (.aload 5, 2) := by decide +kernel
theorem dX4_shutDoors_27 : decode cX4_shutDoors 27 = .ok (.aload_n 0, 1) := by decide +kernel
theorem dX4_shutDoors_28 : decode cX4_shutDoors 28 = .ok (.getfield 34, 3) := by decide +kernel
theorem dX4_shutDoors_31 : decode cX4_shutDoors 31 = .ok (.invokevirtual 132, 3) := by decide +kernel
theorem dX4_shutDoors_34 : decode cX4_shutDoors 34 = .ok (.ifCond .eq 6, 3) := by decide +kernel
theorem dX4_shutDoors_37 : decode cX4_shutDoors 37 = .ok (.iinc 1 1, 3) := by decide +kernel
theorem dX4_shutDoors_40 : decode cX4_shutDoors 40 = .ok (.iinc 4 1, 3) := by decide +kernel
theorem dX4_shutDoors_43 : decode cX4_shutDoors 43 = .ok (.goto (-30), 3) := by decide +kernel
theorem dX4_shutDoors_46 : decode cX4_shutDoors 46 = .ok (.iload_n 1, 1) := by decide +kernel
theorem dX4_shutDoors_47 : decode cX4_shutDoors 47 = .ok (.ireturn, 1) := by decide +kernel
theorem dX4_becomeCost_0 : decode cX4_becomeCost 0 = .ok (.aload_n 0, 1) := by decide +kernel
theorem dX4_becomeCost_1 : decode cX4_becomeCost 1 = .ok (.ifnonnull 5, 3) := by decide +kernel
theorem dX4_becomeCost_4 : decode cX4_becomeCost 4 = .ok (.iconst (-1), 1) := by decide +kernel
theorem dX4_becomeCost_5 : decode cX4_becomeCost 5 = .ok (.ireturn, 1) := by decide +kernel
theorem dX4_becomeCost_6 : decode cX4_becomeCost 6 = .ok (.aload_n 0, 1) := by decide +kernel
theorem dX4_becomeCost_7 : decode cX4_becomeCost 7 = .ok (.getfield 210, 3) := by decide +kernel
theorem dX4_becomeCost_10 : decode cX4_becomeCost 10 = .ok (.istore_n 2, 1) := by decide +kernel
theorem dX4_becomeCost_11 : decode cX4_becomeCost 11 = .ok (.aload_n 0, 1) := by decide +kernel
theorem dX4_becomeCost_12 : decode cX4_becomeCost 12 = .ok (.iload_n 1, 1) := by decide +kernel
theorem dX4_becomeCost_13 : decode cX4_becomeCost 13 = .ok (.putfield 210, 3) := by decide +kernel
theorem dX4_becomeCost_16 : decode cX4_becomeCost 16 = .ok (.iload_n 2, 1) := by decide +kernel
theorem dX4_becomeCost_17 : decode cX4_becomeCost 17 = .ok (.ireturn, 1) := by decide +kernel
theorem dX4_becomeHours_0 : decode cX4_becomeHours 0 = .ok (.aload_n 0, 1) := by decide +kernel
theorem dX4_becomeHours_1 : decode cX4_becomeHours 1 = .ok (.ifnonnull 5, 3) := by decide +kernel
theorem dX4_becomeHours_4 : decode cX4_becomeHours 4 = .ok (.iconst (-1), 1) := by decide +kernel
theorem dX4_becomeHours_5 : decode cX4_becomeHours 5 = .ok (.ireturn, 1) := by decide +kernel
theorem dX4_becomeHours_6 : decode cX4_becomeHours 6 = .ok (.aload_n 0, 1) := by decide +kernel
theorem dX4_becomeHours_7 : decode cX4_becomeHours 7 = .ok (.getfield 216, 3) := by decide +kernel
theorem dX4_becomeHours_10 : decode cX4_becomeHours 10 = .ok (.istore_n 2, 1) := by decide +kernel
theorem dX4_becomeHours_11 : decode cX4_becomeHours 11 = .ok (.aload_n 0, 1) := by decide +kernel
theorem dX4_becomeHours_12 : decode cX4_becomeHours 12 = .ok (.iload_n 1, 1) := by decide +kernel
theorem dX4_becomeHours_13 : decode cX4_becomeHours 13 = .ok (.putfield 216, 3) := by decide +kernel
theorem dX4_becomeHours_16 : decode cX4_becomeHours 16 = .ok (.iload_n 2, 1) := by decide +kernel
theorem dX4_becomeHours_17 : decode cX4_becomeHours 17 = .ok (.ireturn, 1) := by decide +kernel
theorem dX4_hoursWithout_0 : decode cX4_hoursWithout 0 = .ok (.iconst 0, 1) := by decide +kernel
theorem dX4_hoursWithout_1 : decode cX4_hoursWithout 1 = .ok (.istore_n 2, 1) := by decide +kernel
theorem dX4_hoursWithout_2 : decode cX4_hoursWithout 2 = .ok (.aload_n 0, 1) := by decide +kernel
theorem dX4_hoursWithout_3 : decode cX4_hoursWithout 3 = .ok (.getfield 17, 3) := by decide +kernel
theorem dX4_hoursWithout_6 : decode cX4_hoursWithout 6 = .ok (.astore_n 3, 1) := by decide +kernel
theorem dX4_hoursWithout_7 : decode cX4_hoursWithout 7 = .ok (.aload_n 3, 1) := by decide +kernel
theorem dX4_hoursWithout_8 : decode cX4_hoursWithout 8 = .ok (.arraylength, 1) := by decide +kernel
theorem dX4_hoursWithout_9 : decode cX4_hoursWithout 9 = .ok (.istore 4, 2) := by decide +kernel
theorem dX4_hoursWithout_11 : decode cX4_hoursWithout 11 = .ok (.iconst 0, 1) := by decide +kernel
theorem dX4_hoursWithout_12 : decode cX4_hoursWithout 12 = .ok (.istore 5, 2) := by decide +kernel
theorem dX4_hoursWithout_14 : decode cX4_hoursWithout 14 = .ok (.iload 5, 2) := by decide +kernel
theorem dX4_hoursWithout_16 : decode cX4_hoursWithout 16 = .ok (.iload 4, 2) := by decide +kernel
theorem dX4_hoursWithout_18 : decode cX4_hoursWithout 18 = .ok (.if_icmp .ge 35, 3) := by decide +kernel
theorem dX4_hoursWithout_21 : decode cX4_hoursWithout 21 = .ok (.aload_n 3, 1) := by decide +kernel
theorem dX4_hoursWithout_22 : decode cX4_hoursWithout 22 = .ok (.iload 5, 2) := by decide +kernel
theorem dX4_hoursWithout_24 : decode cX4_hoursWithout 24 = .ok (.aaload, 1) := by decide +kernel
theorem dX4_hoursWithout_25 : decode cX4_hoursWithout 25 = .ok (.astore 6, 2) := by decide +kernel
theorem dX4_hoursWithout_27 : decode cX4_hoursWithout 27 = .ok (.aload 6, 2) := by decide +kernel
theorem dX4_hoursWithout_29 : decode cX4_hoursWithout 29 = .ok (.getfield 83, 3) := by decide +kernel
theorem dX4_hoursWithout_32 : decode cX4_hoursWithout 32 = .ok (.iload_n 1, 1) := by decide +kernel
theorem dX4_hoursWithout_33 : decode cX4_hoursWithout 33 = .ok (.invokevirtual 113, 3) := by decide +kernel
theorem dX4_hoursWithout_36 : decode cX4_hoursWithout 36 = .ok (.ifCond .eq 11, 3) := by decide +kernel
theorem dX4_hoursWithout_39 : decode cX4_hoursWithout 39 = .ok (.iload_n 2, 1) := by decide +kernel
theorem dX4_hoursWithout_40 : decode cX4_hoursWithout 40 = .ok (.aload 6, 2) := by decide +kernel
theorem dX4_hoursWithout_42 : decode cX4_hoursWithout 42 = .ok (.getfield 216, 3) := by decide +kernel
theorem dX4_hoursWithout_45 : decode cX4_hoursWithout 45 = .ok (.iadd, 1) := by decide +kernel
theorem dX4_hoursWithout_46 : decode cX4_hoursWithout 46 = .ok (.istore_n 2, 1) := by decide +kernel
theorem dX4_hoursWithout_47 : decode cX4_hoursWithout 47 = .ok (.iinc 5 1, 3) := by decide +kernel
theorem dX4_hoursWithout_50 : decode cX4_hoursWithout 50 = .ok (.goto (-36), 3) := by decide +kernel
theorem dX4_hoursWithout_53 : decode cX4_hoursWithout 53 = .ok (.iload_n 2, 1) := by decide +kernel
theorem dX4_hoursWithout_54 : decode cX4_hoursWithout 54 = .ok (.ireturn, 1) := by decide +kernel
theorem dX4_isKept_0 : decode cX4_isKept 0 = .ok (.aload_n 1, 1) := by decide +kernel
theorem dX4_isKept_1 : decode cX4_isKept 1 = .ok (.aload_n 0, 1) := by decide +kernel
theorem dX4_isKept_2 : decode cX4_isKept 2 = .ok (.getfield 34, 3) := by decide +kernel
theorem dX4_isKept_5 : decode cX4_isKept 5 = .ok (.iconst 1, 1) := by decide +kernel
theorem dX4_isKept_6 : decode cX4_isKept 6 = .ok (.iadd, 1) := by decide +kernel
theorem dX4_isKept_7 : decode cX4_isKept 7 = .ok (.invokevirtual 183, 3) := by decide +kernel
theorem dX4_isKept_10 : decode cX4_isKept 10 = .ok (.ifCond .ne 11, 3) := by decide +kernel
theorem dX4_isKept_13 : decode cX4_isKept 13 = .ok (.aload_n 1, 1) := by decide +kernel
theorem dX4_isKept_14 : decode cX4_isKept 14 = .ok (.getfield 210, 3) := by decide +kernel
theorem dX4_isKept_17 : decode cX4_isKept 17 = .ok (.iload_n 2, 1) := by decide +kernel
theorem dX4_isKept_18 : decode cX4_isKept 18 = .ok (.if_icmp .ge 7, 3) := by decide +kernel
theorem dX4_isKept_21 : decode cX4_isKept 21 = .ok (.iconst 1, 1) := by decide +kernel
theorem dX4_isKept_22 : decode cX4_isKept 22 = .ok (.goto 4, 3) := by decide +kernel
theorem dX4_isKept_25 : decode cX4_isKept 25 = .ok (.iconst 0, 1) := by decide +kernel
theorem dX4_isKept_26 : decode cX4_isKept 26 = .ok (.ireturn, 1) := by decide +kernel
theorem dJ6_bitCount_0f7a4_0 : decode cJ6_bitCount_0f7a4 0 = .ok (.iload_n 0, 1) := by decide +kernel
theorem dJ6_bitCount_0f7a4_1 : decode cJ6_bitCount_0f7a4 1 = .ok (.iload_n 0, 1) := by decide +kernel
theorem dJ6_bitCount_0f7a4_2 : decode cJ6_bitCount_0f7a4 2 = .ok (.iconst 1, 1) := by decide +kernel
theorem dJ6_bitCount_0f7a4_3 : decode cJ6_bitCount_0f7a4 3 = .ok (.iushr, 1) := by decide +kernel
theorem dJ6_bitCount_0f7a4_4 : decode cJ6_bitCount_0f7a4 4 = .ok (.ldc_w 265, 3) := by decide +kernel
theorem dJ6_bitCount_0f7a4_7 : decode cJ6_bitCount_0f7a4 7 = .ok (.iand, 1) := by decide +kernel
theorem dJ6_bitCount_0f7a4_8 : decode cJ6_bitCount_0f7a4 8 = .ok (.isub, 1) := by decide +kernel
theorem dJ6_bitCount_0f7a4_9 : decode cJ6_bitCount_0f7a4 9 = .ok (.istore_n 0, 1) := by decide +kernel
theorem dJ6_bitCount_0f7a4_10 : decode cJ6_bitCount_0f7a4 10 = .ok (.iload_n 0, 1) := by decide +kernel
theorem dJ6_bitCount_0f7a4_11 : decode cJ6_bitCount_0f7a4 11 = .ok (.ldc_w 266, 3) := by decide +kernel
theorem dJ6_bitCount_0f7a4_14 : decode cJ6_bitCount_0f7a4 14 = .ok (.iand, 1) := by decide +kernel
theorem dJ6_bitCount_0f7a4_15 : decode cJ6_bitCount_0f7a4 15 = .ok (.iload_n 0, 1) := by decide +kernel
theorem dJ6_bitCount_0f7a4_16 : decode cJ6_bitCount_0f7a4 16 = .ok (.iconst 2, 1) := by decide +kernel
theorem dJ6_bitCount_0f7a4_17 : decode cJ6_bitCount_0f7a4 17 = .ok (.iushr, 1) := by decide +kernel
theorem dJ6_bitCount_0f7a4_18 : decode cJ6_bitCount_0f7a4 18 = .ok (.ldc_w 266, 3) := by decide +kernel
theorem dJ6_bitCount_0f7a4_21 : decode cJ6_bitCount_0f7a4 21 = .ok (.iand, 1) := by decide +kernel
theorem dJ6_bitCount_0f7a4_22 : decode cJ6_bitCount_0f7a4 22 = .ok (.iadd, 1) := by decide +kernel
theorem dJ6_bitCount_0f7a4_23 : decode cJ6_bitCount_0f7a4 23 = .ok (.istore_n 0, 1) := by decide +kernel
theorem dJ6_bitCount_0f7a4_24 : decode cJ6_bitCount_0f7a4 24 = .ok (.iload_n 0, 1) := by decide +kernel
theorem dJ6_bitCount_0f7a4_25 : decode cJ6_bitCount_0f7a4 25 = .ok (.iload_n 0, 1) := by decide +kernel
theorem dJ6_bitCount_0f7a4_26 : decode cJ6_bitCount_0f7a4 26 = .ok (.iconst 4, 1) := by decide +kernel
theorem dJ6_bitCount_0f7a4_27 : decode cJ6_bitCount_0f7a4 27 = .ok (.iushr, 1) := by decide +kernel
theorem dJ6_bitCount_0f7a4_28 : decode cJ6_bitCount_0f7a4 28 = .ok (.iadd, 1) := by decide +kernel
theorem dJ6_bitCount_0f7a4_29 : decode cJ6_bitCount_0f7a4 29 = .ok (.ldc_w 267, 3) := by decide +kernel
theorem dJ6_bitCount_0f7a4_32 : decode cJ6_bitCount_0f7a4 32 = .ok (.iand, 1) := by decide +kernel
theorem dJ6_bitCount_0f7a4_33 : decode cJ6_bitCount_0f7a4 33 = .ok (.istore_n 0, 1) := by decide +kernel
theorem dJ6_bitCount_0f7a4_34 : decode cJ6_bitCount_0f7a4 34 = .ok (.iload_n 0, 1) := by decide +kernel
theorem dJ6_bitCount_0f7a4_35 : decode cJ6_bitCount_0f7a4 35 = .ok (.iload_n 0, 1) := by decide +kernel
theorem dJ6_bitCount_0f7a4_36 : decode cJ6_bitCount_0f7a4 36 = .ok (.bipush 8, 2) := by decide +kernel
theorem dJ6_bitCount_0f7a4_38 : decode cJ6_bitCount_0f7a4 38 = .ok (.iushr, 1) := by decide +kernel
theorem dJ6_bitCount_0f7a4_39 : decode cJ6_bitCount_0f7a4 39 = .ok (.iadd, 1) := by decide +kernel
theorem dJ6_bitCount_0f7a4_40 : decode cJ6_bitCount_0f7a4 40 = .ok (.istore_n 0, 1) := by decide +kernel
theorem dJ6_bitCount_0f7a4_41 : decode cJ6_bitCount_0f7a4 41 = .ok (.iload_n 0, 1) := by decide +kernel
theorem dJ6_bitCount_0f7a4_42 : decode cJ6_bitCount_0f7a4 42 = .ok (.iload_n 0, 1) := by decide +kernel
theorem dJ6_bitCount_0f7a4_43 : decode cJ6_bitCount_0f7a4 43 = .ok (.bipush 16, 2) := by decide +kernel
theorem dJ6_bitCount_0f7a4_45 : decode cJ6_bitCount_0f7a4 45 = .ok (.iushr, 1) := by decide +kernel
theorem dJ6_bitCount_0f7a4_46 : decode cJ6_bitCount_0f7a4 46 = .ok (.iadd, 1) := by decide +kernel
theorem dJ6_bitCount_0f7a4_47 : decode cJ6_bitCount_0f7a4 47 = .ok (.istore_n 0, 1) := by decide +kernel
theorem dJ6_bitCount_0f7a4_48 : decode cJ6_bitCount_0f7a4 48 = .ok (.iload_n 0, 1) := by decide +kernel
theorem dJ6_bitCount_0f7a4_49 : decode cJ6_bitCount_0f7a4 49 = .ok (.bipush 63, 2) := by decide +kernel
theorem dJ6_bitCount_0f7a4_51 : decode cJ6_bitCount_0f7a4 51 = .ok (.iand, 1) := by decide +kernel
theorem dJ6_bitCount_0f7a4_52 : decode cJ6_bitCount_0f7a4 52 = .ok (.ireturn, 1) := by decide +kernel
theorem dJ9_max_7cf53_0 : decode cJ9_max_7cf53 0 = .ok (.iload_n 0, 1) := by decide +kernel
theorem dJ9_max_7cf53_1 : decode cJ9_max_7cf53 1 = .ok (.iload_n 1, 1) := by decide +kernel
theorem dJ9_max_7cf53_2 : decode cJ9_max_7cf53 2 = .ok (.if_icmp .lt 7, 3) := by decide +kernel
theorem dJ9_max_7cf53_5 : decode cJ9_max_7cf53 5 = .ok (.iload_n 0, 1) := by decide +kernel
theorem dJ9_max_7cf53_6 : decode cJ9_max_7cf53 6 = .ok (.goto 4, 3) := by decide +kernel
theorem dJ9_max_7cf53_9 : decode cJ9_max_7cf53 9 = .ok (.iload_n 1, 1) := by decide +kernel
theorem dJ9_max_7cf53_10 : decode cJ9_max_7cf53 10 = .ok (.ireturn, 1) := by decide +kernel
theorem dJ9_min_7cf53_0 : decode cJ9_min_7cf53 0 = .ok (.iload_n 0, 1) := by decide +kernel
theorem dJ9_min_7cf53_1 : decode cJ9_min_7cf53 1 = .ok (.iload_n 1, 1) := by decide +kernel
theorem dJ9_min_7cf53_2 : decode cJ9_min_7cf53 2 = .ok (.if_icmp .gt 7, 3) := by decide +kernel
theorem dJ9_min_7cf53_5 : decode cJ9_min_7cf53 5 = .ok (.iload_n 0, 1) := by decide +kernel
theorem dJ9_min_7cf53_6 : decode cJ9_min_7cf53 6 = .ok (.goto 4, 3) := by decide +kernel
theorem dJ9_min_7cf53_9 : decode cJ9_min_7cf53 9 = .ok (.iload_n 1, 1) := by decide +kernel
theorem dJ9_min_7cf53_10 : decode cJ9_min_7cf53 10 = .ok (.ireturn, 1) := by decide +kernel
theorem dJ7_fill_53178_0 : decode cJ7_fill_53178 0 = .ok (.iconst 0, 1) := by decide +kernel
theorem dJ7_fill_53178_1 : decode cJ7_fill_53178 1 = .ok (.istore_n 2, 1) := by decide +kernel
theorem dJ7_fill_53178_2 : decode cJ7_fill_53178 2 = .ok (.aload_n 0, 1) := by decide +kernel
theorem dJ7_fill_53178_3 : decode cJ7_fill_53178 3 = .ok (.arraylength, 1) := by decide +kernel
theorem dJ7_fill_53178_4 : decode cJ7_fill_53178 4 = .ok (.istore_n 3, 1) := by decide +kernel
theorem dJ7_fill_53178_5 : decode cJ7_fill_53178 5 = .ok (.iload_n 2, 1) := by decide +kernel
theorem dJ7_fill_53178_6 : decode cJ7_fill_53178 6 = .ok (.iload_n 3, 1) := by decide +kernel
theorem dJ7_fill_53178_7 : decode cJ7_fill_53178 7 = .ok (.if_icmp .ge 13, 3) := by decide +kernel
theorem dJ7_fill_53178_10 : decode cJ7_fill_53178 10 = .ok (.aload_n 0, 1) := by decide +kernel
theorem dJ7_fill_53178_11 : decode cJ7_fill_53178 11 = .ok (.iload_n 2, 1) := by decide +kernel
theorem dJ7_fill_53178_12 : decode cJ7_fill_53178 12 = .ok (.iload_n 1, 1) := by decide +kernel
theorem dJ7_fill_53178_13 : decode cJ7_fill_53178 13 = .ok (.iastore, 1) := by decide +kernel
theorem dJ7_fill_53178_14 : decode cJ7_fill_53178 14 = .ok (.iinc 2 1, 3) := by decide +kernel
theorem dJ7_fill_53178_17 : decode cJ7_fill_53178 17 = .ok (.goto (-12), 3) := by decide +kernel
theorem dJ7_fill_53178_20 : decode cJ7_fill_53178 20 = .ok (.return_, 1) := by decide +kernel
end
section
theorem dX5_init_0 : decode cX5_init 0 = .ok (.aload_n 0, 1) := by decide +kernel
theorem dX5_init_1 : decode cX5_init 1 = .ok (.invokespecial 1, 3) := by decide +kernel
theorem dX5_init_4 : decode cX5_init 4 = .ok (.aload_n 0, 1) := by decide +kernel
theorem dX5_init_5 : decode cX5_init 5 = .ok (.iconst 1, 1) := by decide +kernel
theorem dX5_init_6 : decode cX5_init 6 = .ok (.putfield 7, 3) := by decide +kernel
theorem dX5_init_9 : decode cX5_init 9 = .ok (.aload_n 0, 1) := by decide +kernel
theorem dX5_init_10 : decode cX5_init 10 = .ok (.sipush 320, 3) := by decide +kernel
theorem dX5_init_13 : decode cX5_init 13 = .ok (.newarray .int, 2) := by decide +kernel
theorem dX5_init_15 : decode cX5_init 15 = .ok (.putfield 13, 3) := by decide +kernel
theorem dX5_init_18 : decode cX5_init 18 = .ok (.aload_n 0, 1) := by decide +kernel
theorem dX5_init_19 : decode cX5_init 19 = .ok (.bipush 6, 2) := by decide +kernel
theorem dX5_init_21 : decode cX5_init 21 = .ok (.newarray .int, 2) := by decide +kernel
theorem dX5_init_23 : decode cX5_init 23 = .ok (.putfield 17, 3) := by decide +kernel
theorem dX5_init_26 : decode cX5_init 26 = .ok (.aload_n 0, 1) := by decide +kernel
theorem dX5_init_27 : decode cX5_init 27 = .ok (.bipush 6, 2) := by decide +kernel
theorem dX5_init_29 : decode cX5_init 29 = .ok (.newarray .int, 2) := by decide +kernel
theorem dX5_init_31 : decode cX5_init 31 = .ok (.putfield 20, 3) := by decide +kernel
theorem dX5_init_34 : decode cX5_init 34 = .ok (.aload_n 0, 1) := by decide +kernel
theorem dX5_init_35 : decode cX5_init 35 = .ok (.bipush 72, 2) := by decide +kernel
theorem dX5_init_37 : decode cX5_init 37 = .ok (.newarray .int, 2) := by decide +kernel
theorem dX5_init_39 : decode cX5_init 39 = .ok (.putfield 23, 3) := by decide +kernel
theorem dX5_init_42 : decode cX5_init 42 = .ok (.aload_n 0, 1) := by decide +kernel
theorem dX5_init_43 : decode cX5_init 43 = .ok (.bipush 72, 2) := by decide +kernel
theorem dX5_init_45 : decode cX5_init 45 = .ok (.newarray .int, 2) := by decide +kernel
theorem dX5_init_47 : decode cX5_init 47 = .ok (.putfield 26, 3) := by decide +kernel
theorem dX5_init_50 : decode cX5_init 50 = .ok (.aload_n 0, 1) := by decide +kernel
theorem dX5_init_51 : decode cX5_init 51 = .ok (.bipush 72, 2) := by decide +kernel
theorem dX5_init_53 : decode cX5_init 53 = .ok (.newarray .int, 2) := by decide +kernel
theorem dX5_init_55 : decode cX5_init 55 = .ok (.putfield 29, 3) := by decide +kernel
theorem dX5_init_58 : decode cX5_init 58 = .ok (.aload_n 0, 1) := by decide +kernel
theorem dX5_init_59 : decode cX5_init 59 = .ok (.bipush 72, 2) := by decide +kernel
theorem dX5_init_61 : decode cX5_init 61 = .ok (.newarray .int, 2) := by decide +kernel
theorem dX5_init_63 : decode cX5_init 63 = .ok (.putfield 32, 3) := by decide +kernel
theorem dX5_init_66 : decode cX5_init 66 = .ok (.aload_n 0, 1) := by decide +kernel
theorem dX5_init_67 : decode cX5_init 67 = .ok (.bipush 72, 2) := by decide +kernel
theorem dX5_init_69 : decode cX5_init 69 = .ok (.newarray .int, 2) := by decide +kernel
theorem dX5_init_71 : decode cX5_init 71 = .ok (.putfield 35, 3) := by decide +kernel
theorem dX5_init_74 : decode cX5_init 74 = .ok (.aload_n 0, 1) := by decide +kernel
theorem dX5_init_75 : decode cX5_init 75 = .ok (.sipush 1920, 3) := by decide +kernel
theorem dX5_init_78 : decode cX5_init 78 = .ok (.newarray .int, 2) := by decide +kernel
theorem dX5_init_80 : decode cX5_init 80 = .ok (.putfield 38, 3) := by decide +kernel
theorem dX5_init_83 : decode cX5_init 83 = .ok (.aload_n 0, 1) := by decide +kernel
theorem dX5_init_84 : decode cX5_init 84 = .ok (.sipush 600, 3) := by decide +kernel
theorem dX5_init_87 : decode cX5_init 87 = .ok (.newarray .boolean, 2) := by decide +kernel
theorem dX5_init_89 : decode cX5_init 89 = .ok (.putfield 41, 3) := by decide +kernel
theorem dX5_init_92 : decode cX5_init 92 = .ok (.aload_n 0, 1) := by decide +kernel
theorem dX5_init_93 : decode cX5_init 93 = .ok (.bipush 6, 2) := by decide +kernel
theorem dX5_init_95 : decode cX5_init 95 = .ok (.newarray .boolean, 2) := by decide +kernel
theorem dX5_init_97 : decode cX5_init 97 = .ok (.putfield 45, 3) := by decide +kernel
theorem dX5_init_100 : decode cX5_init 100 = .ok (.aload_n 0, 1) := by decide +kernel
theorem dX5_init_101 : decode cX5_init 101 = .ok (.bipush 100, 2) := by decide +kernel
theorem dX5_init_103 : decode cX5_init 103 = .ok (.putfield 48, 3) := by decide +kernel
theorem dX5_init_106 : decode cX5_init 106 = .ok (.aload_n 0, 1) := by decide +kernel
theorem dX5_init_107 : decode cX5_init 107 = .ok (.bipush 12, 2) := by decide +kernel
theorem dX5_init_109 : decode cX5_init 109 = .ok (.newarray .int, 2) := by decide +kernel
theorem dX5_init_111 : decode cX5_init 111 = .ok (.putfield 51, 3) := by decide +kernel
theorem dX5_init_114 : decode cX5_init 114 = .ok (.aload_n 0, 1) := by decide +kernel
theorem dX5_init_115 : decode cX5_init 115 = .ok (.bipush 12, 2) := by decide +kernel
theorem dX5_init_117 : decode cX5_init 117 = .ok (.newarray .int, 2) := by decide +kernel
theorem dX5_init_119 : decode cX5_init 119 = .ok (.putfield 54, 3) := by decide +kernel
theorem dX5_init_122 : decode cX5_init 122 = .ok (.aload_n 0, 1) := by decide +kernel
theorem dX5_init_123 : decode cX5_init 123 = .ok (.bipush 12, 2) := by decide +kernel
theorem dX5_init_125 : decode cX5_init 125 = .ok (.newarray .int, 2) := by decide +kernel
theorem dX5_init_127 : decode cX5_init 127 = .ok (.putfield 57, 3) := by decide +kernel
theorem dX5_init_130 : decode cX5_init 130 = .ok (.aload_n 0, 1) := by decide +kernel
theorem dX5_init_131 : decode cX5_init 131 = .ok (.bipush 12, 2) := by decide +kernel
theorem dX5_init_133 : decode cX5_init 133 = .ok (.newarray .int, 2) := by decide +kernel
theorem dX5_init_135 : decode cX5_init 135 = .ok (.putfield 60, 3) := by decide +kernel
theorem dX5_init_138 : decode cX5_init 138 = .ok (.aload_n 0, 1) := by decide +kernel
theorem dX5_init_139 : decode cX5_init 139 = .ok (.bipush 48, 2) := by decide +kernel
theorem dX5_init_141 : decode cX5_init 141 = .ok (.newarray .int, 2) := by decide +kernel
theorem dX5_init_143 : decode cX5_init 143 = .ok (.putfield 63, 3) := by decide +kernel
theorem dX5_init_146 : decode cX5_init 146 = .ok (.aload_n 0, 1) := by decide +kernel
theorem dX5_init_147 : decode cX5_init 147 = .ok (.bipush 8, 2) := by decide +kernel
theorem dX5_init_149 : decode cX5_init 149 = .ok (.newarray .int, 2) := by decide +kernel
theorem dX5_init_151 : decode cX5_init 151 = .ok (.dup, 1) := by decide +kernel
theorem dX5_init_152 : decode cX5_init 152 = .ok (.iconst 0, 1) := by decide +kernel
theorem dX5_init_153 : decode cX5_init 153 = .ok (.bipush (-9), 2) := by decide +kernel
theorem dX5_init_155 : decode cX5_init 155 = .ok (.iastore, 1) := by decide +kernel
theorem dX5_init_156 : decode cX5_init 156 = .ok (.dup, 1) := by decide +kernel
theorem dX5_init_157 : decode cX5_init 157 = .ok (.iconst 1, 1) := by decide +kernel
theorem dX5_init_158 : decode cX5_init 158 = .ok (.bipush (-9), 2) := by decide +kernel
theorem dX5_init_160 : decode cX5_init 160 = .ok (.iastore, 1) := by decide +kernel
theorem dX5_init_161 : decode cX5_init 161 = .ok (.dup, 1) := by decide +kernel
theorem dX5_init_162 : decode cX5_init 162 = .ok (.iconst 2, 1) := by decide +kernel
theorem dX5_init_163 : decode cX5_init 163 = .ok (.bipush (-9), 2) := by decide +kernel
theorem dX5_init_165 : decode cX5_init 165 = .ok (.iastore, 1) := by decide +kernel
theorem dX5_init_166 : decode cX5_init 166 = .ok (.dup, 1) := by decide +kernel
theorem dX5_init_167 : decode cX5_init 167 = .ok (.iconst 3, 1) := by decide +kernel
theorem dX5_init_168 : decode cX5_init 168 = .ok (.bipush (-9), 2) := by decide +kernel
theorem dX5_init_170 : decode cX5_init 170 = .ok (.iastore, 1) := by decide +kernel
theorem dX5_init_171 : decode cX5_init 171 = .ok (.dup, 1) := by decide +kernel
theorem dX5_init_172 : decode cX5_init 172 = .ok (.iconst 4, 1) := by decide +kernel
theorem dX5_init_173 : decode cX5_init 173 = .ok (.bipush (-9), 2) := by decide +kernel
theorem dX5_init_175 : decode cX5_init 175 = .ok (.iastore, 1) := by decide +kernel
theorem dX5_init_176 : decode cX5_init 176 = .ok (.dup, 1) := by decide +kernel
theorem dX5_init_177 : decode cX5_init 177 = .ok (.iconst 5, 1) := by decide +kernel
theorem dX5_init_178 : decode cX5_init 178 = .ok (.bipush (-9), 2) := by decide +kernel
theorem dX5_init_180 : decode cX5_init 180 = .ok (.iastore, 1) := by decide +kernel
theorem dX5_init_181 : decode cX5_init 181 = .ok (.dup, 1) := by decide +kernel
theorem dX5_init_182 : decode cX5_init 182 = .ok (.bipush 6, 2) := by decide +kernel
theorem dX5_init_184 : decode cX5_init 184 = .ok (.bipush (-9), 2) := by decide +kernel
theorem dX5_init_186 : decode cX5_init 186 = .ok (.iastore, 1) := by decide +kernel
theorem dX5_init_187 : decode cX5_init 187 = .ok (.dup, 1) := by decide +kernel
theorem dX5_init_188 : decode cX5_init 188 = .ok (.bipush 7, 2) := by decide +kernel
theorem dX5_init_190 : decode cX5_init 190 = .ok (.bipush (-9), 2) := by decide +kernel
theorem dX5_init_192 : decode cX5_init 192 = .ok (.iastore, 1) := by decide +kernel
theorem dX5_init_193 : decode cX5_init 193 = .ok (.putfield 66, 3) := by decide +kernel
theorem dX5_init_196 : decode cX5_init 196 = .ok (.aload_n 0, 1) := by decide +kernel
theorem dX5_init_197 : decode cX5_init 197 = .ok (.bipush 8, 2) := by decide +kernel
theorem dX5_init_199 : decode cX5_init 199 = .ok (.newarray .int, 2) := by decide +kernel
theorem dX5_init_201 : decode cX5_init 201 = .ok (.putfield 69, 3) := by decide +kernel
theorem dX5_init_204 : decode cX5_init 204 = .ok (.aload_n 0, 1) := by decide +kernel
theorem dX5_init_205 : decode cX5_init 205 = .ok (.bipush 8, 2) := by decide +kernel
theorem dX5_init_207 : decode cX5_init 207 = .ok (.newarray .int, 2) := by decide +kernel
theorem dX5_init_209 : decode cX5_init 209 = .ok (.putfield 72, 3) := by decide +kernel
theorem dX5_init_212 : decode cX5_init 212 = .ok (.aload_n 0, 1) := by decide +kernel
theorem dX5_init_213 : decode cX5_init 213 = .ok (.bipush 6, 2) := by decide +kernel
theorem dX5_init_215 : decode cX5_init 215 = .ok (.newarray .int, 2) := by decide +kernel
theorem dX5_init_217 : decode cX5_init 217 = .ok (.putfield 75, 3) := by decide +kernel
theorem dX5_init_220 : decode cX5_init 220 = .ok (.aload_n 0, 1) := by decide +kernel
theorem dX5_init_221 : decode cX5_init 221 = .ok (.bipush 64, 2) := by decide +kernel
theorem dX5_init_223 : decode cX5_init 223 = .ok (.newarray .int, 2) := by decide +kernel
theorem dX5_init_225 : decode cX5_init 225 = .ok (.putfield 78, 3) := by decide +kernel
theorem dX5_init_228 : decode cX5_init 228 = .ok (.aload_n 0, 1) := by decide +kernel
theorem dX5_init_229 : decode cX5_init 229 = .ok (.bipush 64, 2) := by decide +kernel
theorem dX5_init_231 : decode cX5_init 231 = .ok (.newarray .int, 2) := by decide +kernel
theorem dX5_init_233 : decode cX5_init 233 = .ok (.putfield 81, 3) := by decide +kernel
theorem dX5_init_236 : decode cX5_init 236 = .ok (.aload_n 0, 1) := by decide +kernel
theorem dX5_init_237 : decode cX5_init 237 = .ok (.bipush 8, 2) := by decide +kernel
theorem dX5_init_239 : decode cX5_init 239 = .ok (.newarray .int, 2) := by decide +kernel
theorem dX5_init_241 : decode cX5_init 241 = .ok (.putfield 84, 3) := by decide +kernel
theorem dX5_init_244 : decode cX5_init 244 = .ok (.aload_n 0, 1) := by decide +kernel
theorem dX5_init_245 : decode cX5_init 245 = .ok (.bipush 8, 2) := by decide +kernel
theorem dX5_init_247 : decode cX5_init 247 = .ok (.newarray .int, 2) := by decide +kernel
theorem dX5_init_249 : decode cX5_init 249 = .ok (.putfield 87, 3) := by decide +kernel
theorem dX5_init_252 : decode cX5_init 252 = .ok (.aload_n 0, 1) := by decide +kernel
theorem dX5_init_253 : decode cX5_init 253 = .ok (.iconst 0, 1) := by decide +kernel
theorem dX5_init_254 : decode cX5_init 254 = .ok (.putfield 90, 3) := by decide +kernel
theorem dX5_init_257 : decode cX5_init 257 = .ok (.return_, 1) := by decide +kernel
theorem dX5_in_0 : decode cX5_in 0 = .ok (.iload_n 0, 1) := by decide +kernel
theorem dX5_in_1 : decode cX5_in 1 = .ok (.iload_n 1, 1) := by decide +kernel
theorem dX5_in_2 : decode cX5_in 2 = .ok (.if_icmp .lt 12, 3) := by decide +kernel
theorem dX5_in_5 : decode cX5_in 5 = .ok (.iload_n 0, 1) := by decide +kernel
theorem dX5_in_6 : decode cX5_in 6 = .ok (.iload_n 2, 1) := by decide +kernel
theorem dX5_in_7 : decode cX5_in 7 = .ok (.if_icmp .gt 7, 3) := by decide +kernel
theorem dX5_in_10 : decode cX5_in 10 = .ok (.iconst 1, 1) := by decide +kernel
theorem dX5_in_11 : decode cX5_in 11 = .ok (.goto 4, 3) := by decide +kernel
theorem dX5_in_14 : decode cX5_in 14 = .ok (.iconst 0, 1) := by decide +kernel
theorem dX5_in_15 : decode cX5_in 15 = .ok (.ireturn, 1) := by decide +kernel
theorem dX5_isFace_0 : decode cX5_isFace 0 = .ok (.iload_n 0, 1) := by decide +kernel
theorem dX5_isFace_1 : decode cX5_isFace 1 = .ok (.iconst 0, 1) := by decide +kernel
theorem dX5_isFace_2 : decode cX5_isFace 2 = .ok (.bipush 7, 2) := by decide +kernel
theorem dX5_isFace_4 : decode cX5_isFace 4 = .ok (.invokestatic 93, 3) := by decide +kernel
theorem dX5_isFace_7 : decode cX5_isFace 7 = .ok (.ireturn, 1) := by decide +kernel
theorem dX5_isHouse_0 : decode cX5_isHouse 0 = .ok (.iload_n 0, 1) := by decide +kernel
theorem dX5_isHouse_1 : decode cX5_isHouse 1 = .ok (.iconst 0, 1) := by decide +kernel
theorem dX5_isHouse_2 : decode cX5_isHouse 2 = .ok (.iconst 5, 1) := by decide +kernel
theorem dX5_isHouse_3 : decode cX5_isHouse 3 = .ok (.invokestatic 93, 3) := by decide +kernel
theorem dX5_isHouse_6 : decode cX5_isHouse 6 = .ok (.ireturn, 1) := by decide +kernel
theorem dX5_isVersion_0 : decode cX5_isVersion 0 = .ok (.iload_n 1, 1) := by decide +kernel
theorem dX5_isVersion_1 : decode cX5_isVersion 1 = .ok (.iconst 0, 1) := by decide +kernel
theorem dX5_isVersion_2 : decode cX5_isVersion 2 = .ok (.aload_n 0, 1) := by decide +kernel
theorem dX5_isVersion_3 : decode cX5_isVersion 3 = .ok (.getfield 7, 3) := by decide +kernel
theorem dX5_isVersion_6 : decode cX5_isVersion 6 = .ok (.iconst 1, 1) := by decide +kernel
theorem dX5_isVersion_7 : decode cX5_isVersion 7 = .ok (.isub, 1) := by decide +kernel
theorem dX5_isVersion_8 : decode cX5_isVersion 8 = .ok (.invokestatic 93, 3) := by decide +kernel
theorem dX5_isVersion_11 : decode cX5_isVersion 11 = .ok (.ireturn, 1) := by decide +kernel
theorem dX5_version_0 : decode cX5_version 0 = .ok (.aload_n 0, 1) := by decide +kernel
theorem dX5_version_1 : decode cX5_version 1 = .ok (.getfield 7, 3) := by decide +kernel
theorem dX5_version_4 : decode cX5_version 4 = .ok (.iconst 5, 1) := by decide +kernel
theorem dX5_version_5 : decode cX5_version 5 = .ok (.if_icmp .ne 6, 3) := by decide +kernel
theorem dX5_version_8 : decode cX5_version 8 = .ok (.bipush (-3), 2) := by decide +kernel
theorem dX5_version_10 : decode cX5_version 10 = .ok (.ireturn, 1) := by decide +kernel
theorem dX5_version_11 : decode cX5_version 11 = .ok (.iconst 0, 1) := by decide +kernel
theorem dX5_version_12 : decode cX5_version 12 = .ok (.istore_n 1, 1) := by decide +kernel
theorem dX5_version_13 : decode cX5_version 13 = .ok (.iload_n 1, 1) := by decide +kernel
theorem dX5_version_14 : decode cX5_version 14 = .ok (.bipush 8, 2) := by decide +kernel
theorem dX5_version_16 : decode cX5_version 16 = .ok (.if_icmp .ge 64, 3) := by decide +kernel
theorem dX5_version_19 : decode cX5_version 19 = .ok (.iconst 0, 1) := by decide +kernel
theorem dX5_version_20 : decode cX5_version 20 = .ok (.istore_n 2, 1) := by decide +kernel
theorem dX5_version_21 : decode cX5_version 21 = .ok (.iload_n 2, 1) := by decide +kernel
theorem dX5_version_22 : decode cX5_version 22 = .ok (.bipush 8, 2) := by decide +kernel
theorem dX5_version_24 : decode cX5_version 24 = .ok (.if_icmp .ge 50, 3) := by decide +kernel
theorem dX5_version_27 : decode cX5_version 27 = .ok (.aload_n 0, 1) := by decide +kernel
theorem dX5_version_28 : decode cX5_version 28 = .ok (.getfield 13, 3) := by decide +kernel
theorem dX5_version_31 : decode cX5_version 31 = .ok (.bipush 40, 2) := by decide +kernel
theorem dX5_version_33 : decode cX5_version 33 = .ok (.iload_n 1, 1) := by decide +kernel
theorem dX5_version_34 : decode cX5_version 34 = .ok (.imul, 1) := by decide +kernel
theorem dX5_version_35 : decode cX5_version 35 = .ok (.bipush 8, 2) := by decide +kernel
theorem dX5_version_37 : decode cX5_version 37 = .ok (.aload_n 0, 1) := by decide +kernel
theorem dX5_version_38 : decode cX5_version 38 = .ok (.getfield 7, 3) := by decide +kernel
theorem dX5_version_41 : decode cX5_version 41 = .ok (.imul, 1) := by decide +kernel
theorem dX5_version_42 : decode cX5_version 42 = .ok (.iadd, 1) := by decide +kernel
theorem dX5_version_43 : decode cX5_version 43 = .ok (.iload_n 2, 1) := by decide +kernel
theorem dX5_version_44 : decode cX5_version 44 = .ok (.iadd, 1) := by decide +kernel
theorem dX5_version_45 : decode cX5_version 45 = .ok (.aload_n 0, 1) := by decide +kernel
theorem dX5_version_46 : decode cX5_version 46 = .ok (.getfield 13, 3) := by decide +kernel
theorem dX5_version_49 : decode cX5_version 49 = .ok (.bipush 40, 2) := by decide +kernel
theorem dX5_version_51 : decode cX5_version 51 = .ok (.iload_n 1, 1) := by decide +kernel
theorem dX5_version_52 : decode cX5_version 52 = .ok (.imul, 1) := by decide +kernel
theorem dX5_version_53 : decode cX5_version 53 = .ok (.bipush 8, 2) := by decide +kernel
theorem dX5_version_55 : decode cX5_version 55 = .ok (.aload_n 0, 1) := by decide +kernel
theorem dX5_version_56 : decode cX5_version 56 = .ok (.getfield 7, 3) := by decide +kernel
theorem dX5_version_59 : decode cX5_version 59 = .ok (.imul, 1) := by decide +kernel
theorem dX5_version_60 : decode cX5_version 60 = .ok (.iadd, 1) := by decide +kernel
theorem dX5_version_61 : decode cX5_version 61 = .ok (.bipush 8, 2) := by decide +kernel
theorem dX5_version_63 : decode cX5_version 63 = .ok (.isub, 1) := by decide +kernel
theorem dX5_version_64 : decode cX5_version 64 = .ok (.iload_n 2, 1) := by decide +kernel
theorem dX5_version_65 : decode cX5_version 65 = .ok (.iadd, 1) := by decide +kernel
theorem dX5_version_66 : decode cX5_version 66 = .ok (.iaload, 1) := by decide +kernel
theorem dX5_version_67 : decode cX5_version 67 = .ok (.iastore, 1) := by decide +kernel
theorem dX5_version_68 : decode cX5_version 68 = .ok (.iinc 2 1, 3) := by decide +kernel
theorem dX5_version_71 : decode cX5_version 71 = .ok (.goto (-50), 3) := by decide +kernel
theorem dX5_version_74 : decode cX5_version 74 = .ok (.iinc 1 1, 3) := by decide +kernel
theorem dX5_version_77 : decode cX5_version 77 = .ok (.goto (-64), 3) := by decide +kernel
theorem dX5_version_80 : decode cX5_version 80 = .ok (.aload_n 0, 1) := by decide +kernel
theorem dX5_version_81 : decode cX5_version 81 = .ok (.dup, 1) := by decide +kernel
theorem dX5_version_82 : decode cX5_version 82 = .ok (.getfield 7, 3) := by decide +kernel
theorem dX5_version_85 : decode cX5_version 85 = .ok (.iconst 1, 1) := by decide +kernel
theorem dX5_version_86 : decode cX5_version 86 = .ok (.iadd, 1) := by decide +kernel
theorem dX5_version_87 : decode cX5_version 87 = .ok (.putfield 7, 3) := by decide +kernel
theorem dX5_version_90 : decode cX5_version 90 = .ok (.aload_n 0, 1) := by decide +kernel
theorem dX5_version_91 : decode cX5_version 91 = .ok (.getfield 7, 3) := by decide +kernel
theorem dX5_version_94 : decode cX5_version 94 = .ok (.iconst 1, 1) := by decide +kernel
theorem dX5_version_95 : decode cX5_version 95 = .ok (.isub, 1) := by decide +kernel
theorem dX5_version_96 : decode cX5_version 96 = .ok (.ireturn, 1) := by decide +kernel
theorem dX5_shown_0 : decode cX5_shown 0 = .ok (.iload_n 0, 1) := by decide +kernel
theorem dX5_shown_1 : decode cX5_shown 1 = .ok (.ifCond .ne 8, 3) := by decide +kernel
theorem dX5_shown_4 : decode cX5_shown 4 = .ok (.bipush (-9), 2) := by decide +kernel
theorem dX5_shown_6 : decode cX5_shown 6 = .ok (.goto 6, 3) := by decide +kernel
theorem dX5_shown_9 : decode cX5_shown 9 = .ok (.iload_n 0, 1) := by decide +kernel
theorem dX5_shown_10 : decode cX5_shown 10 = .ok (.iconst 1, 1) := by decide +kernel
theorem dX5_shown_11 : decode cX5_shown 11 = .ok (.isub, 1) := by decide +kernel
theorem dX5_shown_12 : decode cX5_shown 12 = .ok (.ireturn, 1) := by decide +kernel
theorem dX5_answer_0 : decode cX5_answer 0 = .ok (.iload_n 1, 1) := by decide +kernel
theorem dX5_answer_1 : decode cX5_answer 1 = .ok (.invokestatic 97, 3) := by decide +kernel
theorem dX5_answer_4 : decode cX5_answer 4 = .ok (.ifCond .eq 39, 3) := by decide +kernel
theorem dX5_answer_7 : decode cX5_answer 7 = .ok (.aload_n 0, 1) := by decide +kernel
theorem dX5_answer_8 : decode cX5_answer 8 = .ok (.iload_n 2, 1) := by decide +kernel
theorem dX5_answer_9 : decode cX5_answer 9 = .ok (.invokevirtual 101, 3) := by decide +kernel
theorem dX5_answer_12 : decode cX5_answer 12 = .ok (.ifCond .eq 31, 3) := by decide +kernel
theorem dX5_answer_15 : decode cX5_answer 15 = .ok (.iload_n 3, 1) := by decide +kernel
theorem dX5_answer_16 : decode cX5_answer 16 = .ok (.iconst 0, 1) := by decide +kernel
theorem dX5_answer_17 : decode cX5_answer 17 = .ok (.bipush 7, 2) := by decide +kernel
theorem dX5_answer_19 : decode cX5_answer 19 = .ok (.invokestatic 93, 3) := by decide +kernel
theorem dX5_answer_22 : decode cX5_answer 22 = .ok (.ifCond .eq 21, 3) := by decide +kernel
theorem dX5_answer_25 : decode cX5_answer 25 = .ok (.iload 4, 2) := by decide +kernel
theorem dX5_answer_27 : decode cX5_answer 27 = .ok (.bipush (-9), 2) := by decide +kernel
theorem dX5_answer_29 : decode cX5_answer 29 = .ok (.if_icmp .eq 17, 3) := by decide +kernel
theorem dX5_answer_32 : decode cX5_answer 32 = .ok (.iload 4, 2) := by decide +kernel
theorem dX5_answer_34 : decode cX5_answer 34 = .ok (.iconst 0, 1) := by decide +kernel
theorem dX5_answer_35 : decode cX5_answer 35 = .ok (.bipush 9, 2) := by decide +kernel
theorem dX5_answer_37 : decode cX5_answer 37 = .ok (.invokestatic 93, 3) := by decide +kernel
theorem dX5_answer_40 : decode cX5_answer 40 = .ok (.ifCond .ne 6, 3) := by decide +kernel
theorem dX5_answer_43 : decode cX5_answer 43 = .ok (.bipush (-2), 2) := by decide +kernel
theorem dX5_answer_45 : decode cX5_answer 45 = .ok (.ireturn, 1) := by decide +kernel
theorem dX5_answer_46 : decode cX5_answer 46 = .ok (.bipush 40, 2) := by decide +kernel
theorem dX5_answer_48 : decode cX5_answer 48 = .ok (.iload_n 1, 1) := by decide +kernel
theorem dX5_answer_49 : decode cX5_answer 49 = .ok (.imul, 1) := by decide +kernel
theorem dX5_answer_50 : decode cX5_answer 50 = .ok (.bipush 8, 2) := by decide +kernel
theorem dX5_answer_52 : decode cX5_answer 52 = .ok (.iload_n 2, 1) := by decide +kernel
theorem dX5_answer_53 : decode cX5_answer 53 = .ok (.imul, 1) := by decide +kernel
theorem dX5_answer_54 : decode cX5_answer 54 = .ok (.iadd, 1) := by decide +kernel
theorem dX5_answer_55 : decode cX5_answer 55 = .ok (.iload_n 3, 1) := by decide +kernel
theorem dX5_answer_56 : decode cX5_answer 56 = .ok (.iadd, 1) := by decide +kernel
theorem dX5_answer_57 : decode cX5_answer 57 = .ok (.istore 5, 2) := by decide +kernel
theorem dX5_answer_59 : decode cX5_answer 59 = .ok (.aload_n 0, 1) := by decide +kernel
theorem dX5_answer_60 : decode cX5_answer 60 = .ok (.getfield 13, 3) := by decide +kernel
theorem dX5_answer_63 : decode cX5_answer 63 = .ok (.iload 5, 2) := by decide +kernel
theorem dX5_answer_65 : decode cX5_answer 65 = .ok (.iaload, 1) := by decide +kernel
theorem dX5_answer_66 : decode cX5_answer 66 = .ok (.istore 6, 2) := by decide +kernel
theorem dX5_answer_68 : decode cX5_answer 68 = .ok (.aload_n 0, 1) := by decide +kernel
theorem dX5_answer_69 : decode cX5_answer 69 = .ok (.getfield 13, 3) := by decide +kernel
theorem dX5_answer_72 : decode cX5_answer 72 = .ok (.iload 5, 2) := by decide +kernel
theorem dX5_answer_74 : decode cX5_answer 74 = .ok (.iload 4, 2) := by decide +kernel
theorem dX5_answer_76 : decode cX5_answer 76 = .ok (.bipush (-9), 2) := by decide +kernel
theorem dX5_answer_78 : decode cX5_answer 78 = .ok (.if_icmp .ne 7, 3) := by decide +kernel
theorem dX5_answer_81 : decode cX5_answer 81 = .ok (.iconst 0, 1) := by decide +kernel
theorem dX5_answer_82 : decode cX5_answer 82 = .ok (.goto 7, 3) := by decide +kernel
theorem dX5_answer_85 : decode cX5_answer 85 = .ok (.iload 4, 2) := by decide +kernel
theorem dX5_answer_87 : decode cX5_answer 87 = .ok (.iconst 1, 1) := by decide +kernel
theorem dX5_answer_88 : decode cX5_answer 88 = .ok (.iadd, 1) := by decide +kernel
theorem dX5_answer_89 : decode cX5_answer 89 = .ok (.iastore, 1) := by decide +kernel
theorem dX5_answer_90 : decode cX5_answer 90 = .ok (.iload 6, 2) := by decide +kernel
theorem dX5_answer_92 : decode cX5_answer 92 = .ok (.ifCond .ne 8, 3) := by decide +kernel
theorem dX5_answer_95 : decode cX5_answer 95 = .ok (.bipush (-9), 2) := by decide +kernel
theorem dX5_answer_97 : decode cX5_answer 97 = .ok (.goto 7, 3) := by decide +kernel
theorem dX5_answer_100 : decode cX5_answer 100 = .ok (.iload 6, 2) := by decide +kernel
theorem dX5_answer_102 : decode cX5_answer 102 = .ok (.iconst 1, 1) := by decide +kernel
theorem dX5_answer_103 : decode cX5_answer 103 = .ok (.isub, 1) := by decide +kernel
theorem dX5_answer_104 : decode cX5_answer 104 = .ok (.ireturn, 1) := by decide +kernel
theorem dX5_differs_0 : decode cX5_differs 0 = .ok (.iconst 0, 1) := by decide +kernel
theorem dX5_differs_1 : decode cX5_differs 1 = .ok (.istore 4, 2) := by decide +kernel
theorem dX5_differs_3 : decode cX5_differs 3 = .ok (.iconst 0, 1) := by decide +kernel
theorem dX5_differs_4 : decode cX5_differs 4 = .ok (.istore 5, 2) := by decide +kernel
theorem dX5_differs_6 : decode cX5_differs 6 = .ok (.iload 5, 2) := by decide +kernel
theorem dX5_differs_8 : decode cX5_differs 8 = .ok (.bipush 8, 2) := by decide +kernel
theorem dX5_differs_10 : decode cX5_differs 10 = .ok (.if_icmp .ge 59, 3) := by decide +kernel
theorem dX5_differs_13 : decode cX5_differs 13 = .ok (.iload 4, 2) := by decide +kernel
theorem dX5_differs_15 : decode cX5_differs 15 = .ok (.aload_n 0, 1) := by decide +kernel
theorem dX5_differs_16 : decode cX5_differs 16 = .ok (.getfield 13, 3) := by decide +kernel
theorem dX5_differs_19 : decode cX5_differs 19 = .ok (.bipush 40, 2) := by decide +kernel
theorem dX5_differs_21 : decode cX5_differs 21 = .ok (.iload_n 1, 1) := by decide +kernel
theorem dX5_differs_22 : decode cX5_differs 22 = .ok (.imul, 1) := by decide +kernel
theorem dX5_differs_23 : decode cX5_differs 23 = .ok (.bipush 8, 2) := by decide +kernel
theorem dX5_differs_25 : decode cX5_differs 25 = .ok (.iload_n 2, 1) := by decide +kernel
theorem dX5_differs_26 : decode cX5_differs 26 = .ok (.imul, 1) := by decide +kernel
theorem dX5_differs_27 : decode cX5_differs 27 = .ok (.iadd, 1) := by decide +kernel
theorem dX5_differs_28 : decode cX5_differs 28 = .ok (.iload 5, 2) := by decide +kernel
theorem dX5_differs_30 : decode cX5_differs 30 = .ok (.iadd, 1) := by decide +kernel
theorem dX5_differs_31 : decode cX5_differs 31 = .ok (.iaload, 1) := by decide +kernel
theorem dX5_differs_32 : decode cX5_differs 32 = .ok (.aload_n 0, 1) := by decide +kernel
theorem dX5_differs_33 : decode cX5_differs 33 = .ok (.getfield 13, 3) := by decide +kernel
theorem dX5_differs_36 : decode cX5_differs 36 = .ok (.bipush 40, 2) := by decide +kernel
theorem dX5_differs_38 : decode cX5_differs 38 = .ok (.iload_n 1, 1) := by decide +kernel
theorem dX5_differs_39 : decode cX5_differs 39 = .ok (.imul, 1) := by decide +kernel
theorem dX5_differs_40 : decode cX5_differs 40 = .ok (.bipush 8, 2) := by decide +kernel
theorem dX5_differs_42 : decode cX5_differs 42 = .ok (.iload_n 3, 1) := by decide +kernel
theorem dX5_differs_43 : decode cX5_differs 43 = .ok (.imul, 1) := by decide +kernel
theorem dX5_differs_44 : decode cX5_differs 44 = .ok (.iadd, 1) := by decide +kernel
theorem dX5_differs_45 : decode cX5_differs 45 = .ok (.iload 5, 2) := by decide +kernel
theorem dX5_differs_47 : decode cX5_differs 47 = .ok (.iadd, 1) := by decide +kernel
theorem dX5_differs_48 : decode cX5_differs 48 = .ok (.iaload, 1) := by decide +kernel
theorem dX5_differs_49 : decode cX5_differs 49 = .ok (.if_icmp .eq 10, 3) := by decide +kernel
theorem dX5_differs_52 : decode cX5_differs 52 = .ok (.iconst 1, 1) := by decide +kernel
theorem dX5_differs_53 : decode cX5_differs 53 = .ok (.iload 5, 2) := by decide +kernel
theorem dX5_differs_55 : decode cX5_differs 55 = .ok (.ishl, 1) := by decide +kernel
theorem dX5_differs_56 : decode cX5_differs 56 = .ok (.goto 4, 3) := by decide +kernel
theorem dX5_differs_59 : decode cX5_differs 59 = .ok (.iconst 0, 1) := by decide +kernel
theorem dX5_differs_60 : decode cX5_differs 60 = .ok (.ior, 1) := by decide +kernel
theorem dX5_differs_61 : decode cX5_differs 61 = .ok (.istore 4, 2) := by decide +kernel
theorem dX5_differs_63 : decode cX5_differs 63 = .ok (.iinc 5 1, 3) := by decide +kernel
theorem dX5_differs_66 : decode cX5_differs 66 = .ok (.goto (-60), 3) := by decide +kernel
theorem dX5_differs_69 : decode cX5_differs 69 = .ok (.iload 4, 2) := by decide +kernel
theorem dX5_differs_71 : decode cX5_differs 71 = .ok (.ireturn, 1) := by decide +kernel
theorem dX5_differ_0 : decode cX5_differ 0 = .ok (.iload_n 1, 1) := by decide +kernel
theorem dX5_differ_1 : decode cX5_differ 1 = .ok (.invokestatic 97, 3) := by decide +kernel
theorem dX5_differ_4 : decode cX5_differ 4 = .ok (.ifCond .eq 29, 3) := by decide +kernel
theorem dX5_differ_7 : decode cX5_differ 7 = .ok (.aload_n 0, 1) := by decide +kernel
theorem dX5_differ_8 : decode cX5_differ 8 = .ok (.iload_n 2, 1) := by decide +kernel
theorem dX5_differ_9 : decode cX5_differ 9 = .ok (.invokevirtual 101, 3) := by decide +kernel
theorem dX5_differ_12 : decode cX5_differ 12 = .ok (.ifCond .eq 21, 3) := by decide +kernel
theorem dX5_differ_15 : decode cX5_differ 15 = .ok (.aload_n 0, 1) := by decide +kernel
theorem dX5_differ_16 : decode cX5_differ 16 = .ok (.iload_n 3, 1) := by decide +kernel
theorem dX5_differ_17 : decode cX5_differ 17 = .ok (.invokevirtual 101, 3) := by decide +kernel
theorem dX5_differ_20 : decode cX5_differ 20 = .ok (.ifCond .eq 13, 3) := by decide +kernel
theorem dX5_differ_23 : decode cX5_differ 23 = .ok (.aload_n 0, 1) := by decide +kernel
theorem dX5_differ_24 : decode cX5_differ 24 = .ok (.iload_n 1, 1) := by decide +kernel
theorem dX5_differ_25 : decode cX5_differ 25 = .ok (.iload_n 2, 1) := by decide +kernel
theorem dX5_differ_26 : decode cX5_differ 26 = .ok (.iload_n 3, 1) := by decide +kernel
theorem dX5_differ_27 : decode cX5_differ 27 = .ok (.invokevirtual 104, 3) := by decide +kernel
theorem dX5_differ_30 : decode cX5_differ 30 = .ok (.goto 4, 3) := by decide +kernel
theorem dX5_differ_33 : decode cX5_differ 33 = .ok (.iconst (-1), 1) := by decide +kernel
theorem dX5_differ_34 : decode cX5_differ 34 = .ok (.ireturn, 1) := by decide +kernel
theorem dX5_goes_0 : decode cX5_goes 0 = .ok (.iload_n 1, 1) := by decide +kernel
theorem dX5_goes_1 : decode cX5_goes 1 = .ok (.invokestatic 108, 3) := by decide +kernel
theorem dX5_goes_4 : decode cX5_goes 4 = .ok (.ifCond .eq 11, 3) := by decide +kernel
theorem dX5_goes_7 : decode cX5_goes 7 = .ok (.aload_n 0, 1) := by decide +kernel
theorem dX5_goes_8 : decode cX5_goes 8 = .ok (.iload_n 2, 1) := by decide +kernel
theorem dX5_goes_9 : decode cX5_goes 9 = .ok (.invokevirtual 101, 3) := by decide +kernel
theorem dX5_goes_12 : decode cX5_goes 12 = .ok (.ifCond .ne 5, 3) := by decide +kernel
theorem dX5_goes_15 : decode cX5_goes 15 = .ok (.iconst (-1), 1) := by decide +kernel
theorem dX5_goes_16 : decode cX5_goes 16 = .ok (.ireturn, 1) := by decide +kernel
theorem dX5_goes_17 : decode cX5_goes 17 = .ok (.aload_n 0, 1) := by decide +kernel
theorem dX5_goes_18 : decode cX5_goes 18 = .ok (.getfield 17, 3) := by decide +kernel
theorem dX5_goes_21 : decode cX5_goes 21 = .ok (.iload_n 1, 1) := by decide +kernel
theorem dX5_goes_22 : decode cX5_goes 22 = .ok (.iaload, 1) := by decide +kernel
theorem dX5_goes_23 : decode cX5_goes 23 = .ok (.istore_n 3, 1) := by decide +kernel
theorem dX5_goes_24 : decode cX5_goes 24 = .ok (.aload_n 0, 1) := by decide +kernel
theorem dX5_goes_25 : decode cX5_goes 25 = .ok (.getfield 17, 3) := by decide +kernel
theorem dX5_goes_28 : decode cX5_goes 28 = .ok (.iload_n 1, 1) := by decide +kernel
theorem dX5_goes_29 : decode cX5_goes 29 = .ok (.iload_n 2, 1) := by decide +kernel
theorem dX5_goes_30 : decode cX5_goes 30 = .ok (.iastore, 1) := by decide +kernel
theorem dX5_goes_31 : decode cX5_goes 31 = .ok (.iload_n 3, 1) := by decide +kernel
theorem dX5_goes_32 : decode cX5_goes 32 = .ok (.ireturn, 1) := by decide +kernel
theorem dX5_isSet_0 : decode cX5_isSet 0 = .ok (.iload_n 0, 1) := by decide +kernel
theorem dX5_isSet_1 : decode cX5_isSet 1 = .ok (.iconst 0, 1) := by decide +kernel
theorem dX5_isSet_2 : decode cX5_isSet 2 = .ok (.sipush 255, 3) := by decide +kernel
theorem dX5_isSet_5 : decode cX5_isSet 5 = .ok (.invokestatic 93, 3) := by decide +kernel
theorem dX5_isSet_8 : decode cX5_isSet 8 = .ok (.ireturn, 1) := by decide +kernel
theorem dX5_isLine_0 : decode cX5_isLine 0 = .ok (.iload_n 2, 1) := by decide +kernel
theorem dX5_isLine_1 : decode cX5_isLine 1 = .ok (.iconst 0, 1) := by decide +kernel
theorem dX5_isLine_2 : decode cX5_isLine 2 = .ok (.aload_n 0, 1) := by decide +kernel
theorem dX5_isLine_3 : decode cX5_isLine 3 = .ok (.getfield 20, 3) := by decide +kernel
theorem dX5_isLine_6 : decode cX5_isLine 6 = .ok (.iload_n 1, 1) := by decide +kernel
theorem dX5_isLine_7 : decode cX5_isLine 7 = .ok (.iaload, 1) := by decide +kernel
theorem dX5_isLine_8 : decode cX5_isLine 8 = .ok (.iconst 1, 1) := by decide +kernel
theorem dX5_isLine_9 : decode cX5_isLine 9 = .ok (.isub, 1) := by decide +kernel
theorem dX5_isLine_10 : decode cX5_isLine 10 = .ok (.invokestatic 93, 3) := by decide +kernel
theorem dX5_isLine_13 : decode cX5_isLine 13 = .ok (.ireturn, 1) := by decide +kernel
theorem dX5_comes_0 : decode cX5_comes 0 = .ok (.aload_n 0, 1) := by decide +kernel
theorem dX5_comes_1 : decode cX5_comes 1 = .ok (.getfield 20, 3) := by decide +kernel
theorem dX5_comes_4 : decode cX5_comes 4 = .ok (.iload_n 1, 1) := by decide +kernel
theorem dX5_comes_5 : decode cX5_comes 5 = .ok (.iaload, 1) := by decide +kernel
theorem dX5_comes_6 : decode cX5_comes 6 = .ok (.bipush 12, 2) := by decide +kernel
theorem dX5_comes_8 : decode cX5_comes 8 = .ok (.if_icmp .ne 6, 3) := by decide +kernel
theorem dX5_comes_11 : decode cX5_comes 11 = .ok (.bipush (-3), 2) := by decide +kernel
theorem dX5_comes_13 : decode cX5_comes 13 = .ok (.ireturn, 1) := by decide +kernel
theorem dX5_comes_14 : decode cX5_comes 14 = .ok (.bipush 12, 2) := by decide +kernel
theorem dX5_comes_16 : decode cX5_comes 16 = .ok (.iload_n 1, 1) := by decide +kernel
theorem dX5_comes_17 : decode cX5_comes 17 = .ok (.imul, 1) := by decide +kernel
theorem dX5_comes_18 : decode cX5_comes 18 = .ok (.aload_n 0, 1) := by decide +kernel
theorem dX5_comes_19 : decode cX5_comes 19 = .ok (.getfield 20, 3) := by decide +kernel
theorem dX5_comes_22 : decode cX5_comes 22 = .ok (.iload_n 1, 1) := by decide +kernel
theorem dX5_comes_23 : decode cX5_comes 23 = .ok (.iaload, 1) := by decide +kernel
theorem dX5_comes_24 : decode cX5_comes 24 = .ok (.iadd, 1) := by decide +kernel
theorem dX5_comes_25 : decode cX5_comes 25 = .ok (.istore 7, 2) := by decide +kernel
theorem dX5_comes_27 : decode cX5_comes 27 = .ok (.aload_n 0, 1) := by decide +kernel
theorem dX5_comes_28 : decode cX5_comes 28 = .ok (.getfield 23, 3) := by decide +kernel
theorem dX5_comes_31 : decode cX5_comes 31 = .ok (.iload 7, 2) := by decide +kernel
theorem dX5_comes_33 : decode cX5_comes 33 = .ok (.iload_n 2, 1) := by decide +kernel
theorem dX5_comes_34 : decode cX5_comes 34 = .ok (.iastore, 1) := by decide +kernel
theorem dX5_comes_35 : decode cX5_comes 35 = .ok (.aload_n 0, 1) := by decide +kernel
theorem dX5_comes_36 : decode cX5_comes 36 = .ok (.getfield 26, 3) := by decide +kernel
theorem dX5_comes_39 : decode cX5_comes 39 = .ok (.iload 7, 2) := by decide +kernel
theorem dX5_comes_41 : decode cX5_comes 41 = .ok (.iload_n 3, 1) := by decide +kernel
theorem dX5_comes_42 : decode cX5_comes 42 = .ok (.iastore, 1) := by decide +kernel
theorem dX5_comes_43 : decode cX5_comes 43 = .ok (.aload_n 0, 1) := by decide +kernel
theorem dX5_comes_44 : decode cX5_comes 44 = .ok (.getfield 29, 3) := by decide +kernel
theorem dX5_comes_47 : decode cX5_comes 47 = .ok (.iload 7, 2) := by decide +kernel
theorem dX5_comes_49 : decode cX5_comes 49 = .ok (.iload 4, 2) := by decide +kernel
theorem dX5_comes_51 : decode cX5_comes 51 = .ok (.iastore, 1) := by decide +kernel
theorem dX5_comes_52 : decode cX5_comes 52 = .ok (.aload_n 0, 1) := by decide +kernel
theorem dX5_comes_53 : decode cX5_comes 53 = .ok (.getfield 32, 3) := by decide +kernel
theorem dX5_comes_56 : decode cX5_comes 56 = .ok (.iload 7, 2) := by decide +kernel
theorem dX5_comes_58 : decode cX5_comes 58 = .ok (.iload 5, 2) := by decide +kernel
theorem dX5_comes_60 : decode cX5_comes 60 = .ok (.iastore, 1) := by decide +kernel
theorem dX5_comes_61 : decode cX5_comes 61 = .ok (.aload_n 0, 1) := by decide +kernel
theorem dX5_comes_62 : decode cX5_comes 62 = .ok (.getfield 35, 3) := by decide +kernel
theorem dX5_comes_65 : decode cX5_comes 65 = .ok (.iload 7, 2) := by decide +kernel
theorem dX5_comes_67 : decode cX5_comes 67 = .ok (.iload 6, 2) := by decide +kernel
theorem dX5_comes_69 : decode cX5_comes 69 = .ok (.iastore, 1) := by decide +kernel
theorem dX5_comes_70 : decode cX5_comes 70 = .ok (.aload_n 0, 1) := by decide +kernel
theorem dX5_comes_71 : decode cX5_comes 71 = .ok (.getfield 20, 3) := by decide +kernel
theorem dX5_comes_74 : decode cX5_comes 74 = .ok (.iload_n 1, 1) := by decide +kernel
theorem dX5_comes_75 : decode cX5_comes 75 = .ok (.dup2, 1) := by decide +kernel
theorem dX5_comes_76 : decode cX5_comes 76 = .ok (.iaload, 1) := by decide +kernel
theorem dX5_comes_77 : decode cX5_comes 77 = .ok (.iconst 1, 1) := by decide +kernel
theorem dX5_comes_78 : decode cX5_comes 78 = .ok (.iadd, 1) := by decide +kernel
theorem dX5_comes_79 : decode cX5_comes 79 = .ok (.iastore, 1) := by decide +kernel
theorem dX5_comes_80 : decode cX5_comes 80 = .ok (.aload_n 0, 1) := by decide +kernel
theorem dX5_comes_81 : decode cX5_comes 81 = .ok (.getfield 20, 3) := by decide +kernel
theorem dX5_comes_84 : decode cX5_comes 84 = .ok (.iload_n 1, 1) := by decide +kernel
theorem dX5_comes_85 : decode cX5_comes 85 = .ok (.iaload, 1) := by decide +kernel
theorem dX5_comes_86 : decode cX5_comes 86 = .ok (.iconst 1, 1) := by decide +kernel
theorem dX5_comes_87 : decode cX5_comes 87 = .ok (.isub, 1) := by decide +kernel
theorem dX5_comes_88 : decode cX5_comes 88 = .ok (.ireturn, 1) := by decide +kernel
theorem dX5_call_0 : decode cX5_call 0 = .ok (.iload_n 1, 1) := by decide +kernel
theorem dX5_call_1 : decode cX5_call 1 = .ok (.invokestatic 108, 3) := by decide +kernel
theorem dX5_call_4 : decode cX5_call 4 = .ok (.ifCond .eq 30, 3) := by decide +kernel
theorem dX5_call_7 : decode cX5_call 7 = .ok (.iload_n 2, 1) := by decide +kernel
theorem dX5_call_8 : decode cX5_call 8 = .ok (.invokestatic 97, 3) := by decide +kernel
theorem dX5_call_11 : decode cX5_call 11 = .ok (.ifCond .eq 23, 3) := by decide +kernel
theorem dX5_call_14 : decode cX5_call 14 = .ok (.iload_n 3, 1) := by decide +kernel
theorem dX5_call_15 : decode cX5_call 15 = .ok (.invokestatic 111, 3) := by decide +kernel
theorem dX5_call_18 : decode cX5_call 18 = .ok (.ifCond .eq 16, 3) := by decide +kernel
theorem dX5_call_21 : decode cX5_call 21 = .ok (.aload_n 0, 1) := by decide +kernel
theorem dX5_call_22 : decode cX5_call 22 = .ok (.iload_n 1, 1) := by decide +kernel
theorem dX5_call_23 : decode cX5_call 23 = .ok (.iconst 0, 1) := by decide +kernel
theorem dX5_call_24 : decode cX5_call 24 = .ok (.iload_n 2, 1) := by decide +kernel
theorem dX5_call_25 : decode cX5_call 25 = .ok (.iconst 0, 1) := by decide +kernel
theorem dX5_call_26 : decode cX5_call 26 = .ok (.iconst 0, 1) := by decide +kernel
theorem dX5_call_27 : decode cX5_call 27 = .ok (.iload_n 3, 1) := by decide +kernel
theorem dX5_call_28 : decode cX5_call 28 = .ok (.invokevirtual 114, 3) := by decide +kernel
theorem dX5_call_31 : decode cX5_call 31 = .ok (.goto 4, 3) := by decide +kernel
theorem dX5_call_34 : decode cX5_call 34 = .ok (.iconst (-1), 1) := by decide +kernel
theorem dX5_call_35 : decode cX5_call 35 = .ok (.ireturn, 1) := by decide +kernel
theorem dX5_wrap_0 : decode cX5_wrap 0 = .ok (.iload_n 1, 1) := by decide +kernel
theorem dX5_wrap_1 : decode cX5_wrap 1 = .ok (.invokestatic 108, 3) := by decide +kernel
theorem dX5_wrap_4 : decode cX5_wrap 4 = .ok (.ifCond .eq 44, 3) := by decide +kernel
theorem dX5_wrap_7 : decode cX5_wrap 7 = .ok (.aload_n 0, 1) := by decide +kernel
theorem dX5_wrap_8 : decode cX5_wrap 8 = .ok (.iload_n 1, 1) := by decide +kernel
theorem dX5_wrap_9 : decode cX5_wrap 9 = .ok (.iload_n 2, 1) := by decide +kernel
theorem dX5_wrap_10 : decode cX5_wrap 10 = .ok (.invokevirtual 118, 3) := by decide +kernel
theorem dX5_wrap_13 : decode cX5_wrap 13 = .ok (.ifCond .eq 35, 3) := by decide +kernel
theorem dX5_wrap_16 : decode cX5_wrap 16 = .ok (.iload_n 3, 1) := by decide +kernel
theorem dX5_wrap_17 : decode cX5_wrap 17 = .ok (.iconst 0, 1) := by decide +kernel
theorem dX5_wrap_18 : decode cX5_wrap 18 = .ok (.bipush 7, 2) := by decide +kernel
theorem dX5_wrap_20 : decode cX5_wrap 20 = .ok (.invokestatic 93, 3) := by decide +kernel
theorem dX5_wrap_23 : decode cX5_wrap 23 = .ok (.ifCond .eq 25, 3) := by decide +kernel
theorem dX5_wrap_26 : decode cX5_wrap 26 = .ok (.iload 4, 2) := by decide +kernel
theorem dX5_wrap_28 : decode cX5_wrap 28 = .ok (.invokestatic 111, 3) := by decide +kernel
theorem dX5_wrap_31 : decode cX5_wrap 31 = .ok (.ifCond .eq 17, 3) := by decide +kernel
theorem dX5_wrap_34 : decode cX5_wrap 34 = .ok (.aload_n 0, 1) := by decide +kernel
theorem dX5_wrap_35 : decode cX5_wrap 35 = .ok (.iload_n 1, 1) := by decide +kernel
theorem dX5_wrap_36 : decode cX5_wrap 36 = .ok (.iconst 1, 1) := by decide +kernel
theorem dX5_wrap_37 : decode cX5_wrap 37 = .ok (.iload_n 2, 1) := by decide +kernel
theorem dX5_wrap_38 : decode cX5_wrap 38 = .ok (.iconst 0, 1) := by decide +kernel
theorem dX5_wrap_39 : decode cX5_wrap 39 = .ok (.iload_n 3, 1) := by decide +kernel
theorem dX5_wrap_40 : decode cX5_wrap 40 = .ok (.iload 4, 2) := by decide +kernel
theorem dX5_wrap_42 : decode cX5_wrap 42 = .ok (.invokevirtual 114, 3) := by decide +kernel
theorem dX5_wrap_45 : decode cX5_wrap 45 = .ok (.goto 4, 3) := by decide +kernel
theorem dX5_wrap_48 : decode cX5_wrap 48 = .ok (.iconst (-1), 1) := by decide +kernel
theorem dX5_wrap_49 : decode cX5_wrap 49 = .ok (.ireturn, 1) := by decide +kernel
theorem dX5_split_0 : decode cX5_split 0 = .ok (.iload_n 1, 1) := by decide +kernel
theorem dX5_split_1 : decode cX5_split 1 = .ok (.invokestatic 108, 3) := by decide +kernel
theorem dX5_split_4 : decode cX5_split 4 = .ok (.ifCond .eq 55, 3) := by decide +kernel
theorem dX5_split_7 : decode cX5_split 7 = .ok (.aload_n 0, 1) := by decide +kernel
theorem dX5_split_8 : decode cX5_split 8 = .ok (.iload_n 1, 1) := by decide +kernel
theorem dX5_split_9 : decode cX5_split 9 = .ok (.iload_n 2, 1) := by decide +kernel
theorem dX5_split_10 : decode cX5_split 10 = .ok (.invokevirtual 118, 3) := by decide +kernel
theorem dX5_split_13 : decode cX5_split 13 = .ok (.ifCond .eq 46, 3) := by decide +kernel
theorem dX5_split_16 : decode cX5_split 16 = .ok (.aload_n 0, 1) := by decide +kernel
theorem dX5_split_17 : decode cX5_split 17 = .ok (.iload_n 1, 1) := by decide +kernel
theorem dX5_split_18 : decode cX5_split 18 = .ok (.iload_n 3, 1) := by decide +kernel
theorem dX5_split_19 : decode cX5_split 19 = .ok (.invokevirtual 118, 3) := by decide +kernel
theorem dX5_split_22 : decode cX5_split 22 = .ok (.ifCond .eq 37, 3) := by decide +kernel
theorem dX5_split_25 : decode cX5_split 25 = .ok (.iload 4, 2) := by decide +kernel
theorem dX5_split_27 : decode cX5_split 27 = .ok (.iconst 1, 1) := by decide +kernel
theorem dX5_split_28 : decode cX5_split 28 = .ok (.bipush 7, 2) := by decide +kernel
theorem dX5_split_30 : decode cX5_split 30 = .ok (.invokestatic 93, 3) := by decide +kernel
theorem dX5_split_33 : decode cX5_split 33 = .ok (.ifCond .eq 26, 3) := by decide +kernel
theorem dX5_split_36 : decode cX5_split 36 = .ok (.iload 5, 2) := by decide +kernel
theorem dX5_split_38 : decode cX5_split 38 = .ok (.invokestatic 111, 3) := by decide +kernel
theorem dX5_split_41 : decode cX5_split 41 = .ok (.ifCond .eq 18, 3) := by decide +kernel
theorem dX5_split_44 : decode cX5_split 44 = .ok (.aload_n 0, 1) := by decide +kernel
theorem dX5_split_45 : decode cX5_split 45 = .ok (.iload_n 1, 1) := by decide +kernel
theorem dX5_split_46 : decode cX5_split 46 = .ok (.iconst 2, 1) := by decide +kernel
theorem dX5_split_47 : decode cX5_split 47 = .ok (.iload_n 2, 1) := by decide +kernel
theorem dX5_split_48 : decode cX5_split 48 = .ok (.iload_n 3, 1) := by decide +kernel
theorem dX5_split_49 : decode cX5_split 49 = .ok (.iload 4, 2) := by decide +kernel
theorem dX5_split_51 : decode cX5_split 51 = .ok (.iload 5, 2) := by decide +kernel
theorem dX5_split_53 : decode cX5_split 53 = .ok (.invokevirtual 114, 3) := by decide +kernel
theorem dX5_split_56 : decode cX5_split 56 = .ok (.goto 4, 3) := by decide +kernel
theorem dX5_split_59 : decode cX5_split 59 = .ok (.iconst (-1), 1) := by decide +kernel
theorem dX5_split_60 : decode cX5_split 60 = .ok (.ireturn, 1) := by decide +kernel
theorem dX5_clear_0 : decode cX5_clear 0 = .ok (.iload_n 1, 1) := by decide +kernel
theorem dX5_clear_1 : decode cX5_clear 1 = .ok (.invokestatic 108, 3) := by decide +kernel
theorem dX5_clear_4 : decode cX5_clear 4 = .ok (.ifCond .ne 5, 3) := by decide +kernel
theorem dX5_clear_7 : decode cX5_clear 7 = .ok (.iconst (-1), 1) := by decide +kernel
theorem dX5_clear_8 : decode cX5_clear 8 = .ok (.ireturn, 1) := by decide +kernel
theorem dX5_clear_9 : decode cX5_clear 9 = .ok (.aload_n 0, 1) := by decide +kernel
theorem dX5_clear_10 : decode cX5_clear 10 = .ok (.getfield 20, 3) := by decide +kernel
theorem dX5_clear_13 : decode cX5_clear 13 = .ok (.iload_n 1, 1) := by decide +kernel
theorem dX5_clear_14 : decode cX5_clear 14 = .ok (.iaload, 1) := by decide +kernel
theorem dX5_clear_15 : decode cX5_clear 15 = .ok (.istore_n 2, 1) := by decide +kernel
theorem dX5_clear_16 : decode cX5_clear 16 = .ok (.aload_n 0, 1) := by decide +kernel
theorem dX5_clear_17 : decode cX5_clear 17 = .ok (.getfield 20, 3) := by decide +kernel
theorem dX5_clear_20 : decode cX5_clear 20 = .ok (.iload_n 1, 1) := by decide +kernel
theorem dX5_clear_21 : decode cX5_clear 21 = .ok (.iconst 0, 1) := by decide +kernel
theorem dX5_clear_22 : decode cX5_clear 22 = .ok (.iastore, 1) := by decide +kernel
theorem dX5_clear_23 : decode cX5_clear 23 = .ok (.iload_n 2, 1) := by decide +kernel
theorem dX5_clear_24 : decode cX5_clear 24 = .ok (.ireturn, 1) := by decide +kernel
theorem dX5_turned_0 : decode cX5_turned 0 = .ok (.iload_n 0, 1) := by decide +kernel
theorem dX5_turned_1 : decode cX5_turned 1 = .ok (.iload_n 1, 1) := by decide +kernel
theorem dX5_turned_2 : decode cX5_turned 2 = .ok (.ishl, 1) := by decide +kernel
theorem dX5_turned_3 : decode cX5_turned 3 = .ok (.iload_n 0, 1) := by decide +kernel
theorem dX5_turned_4 : decode cX5_turned 4 = .ok (.bipush 8, 2) := by decide +kernel
theorem dX5_turned_6 : decode cX5_turned 6 = .ok (.iload_n 1, 1) := by decide +kernel
theorem dX5_turned_7 : decode cX5_turned 7 = .ok (.isub, 1) := by decide +kernel
theorem dX5_turned_8 : decode cX5_turned 8 = .ok (.ishr, 1) := by decide +kernel
theorem dX5_turned_9 : decode cX5_turned 9 = .ok (.ior, 1) := by decide +kernel
theorem dX5_turned_10 : decode cX5_turned 10 = .ok (.sipush 255, 3) := by decide +kernel
theorem dX5_turned_13 : decode cX5_turned 13 = .ok (.iand, 1) := by decide +kernel
theorem dX5_turned_14 : decode cX5_turned 14 = .ok (.ireturn, 1) := by decide +kernel
theorem dX5_piles_0 : decode cX5_piles 0 = .ok (.iload_n 2, 1) := by decide +kernel
theorem dX5_piles_1 : decode cX5_piles 1 = .ok (.ifCond .eq 33, 3) := by decide +kernel
theorem dX5_piles_4 : decode cX5_piles 4 = .ok (.aload_n 0, 1) := by decide +kernel
theorem dX5_piles_5 : decode cX5_piles 5 = .ok (.getfield 78, 3) := by decide +kernel
theorem dX5_piles_8 : decode cX5_piles 8 = .ok (.aload_n 0, 1) := by decide +kernel
theorem dX5_piles_9 : decode cX5_piles 9 = .ok (.getfield 122, 3) := by decide +kernel
theorem dX5_piles_12 : decode cX5_piles 12 = .ok (.iload_n 1, 1) := by decide +kernel
theorem dX5_piles_13 : decode cX5_piles 13 = .ok (.iastore, 1) := by decide +kernel
theorem dX5_piles_14 : decode cX5_piles 14 = .ok (.aload_n 0, 1) := by decide +kernel
theorem dX5_piles_15 : decode cX5_piles 15 = .ok (.getfield 81, 3) := by decide +kernel
theorem dX5_piles_18 : decode cX5_piles 18 = .ok (.aload_n 0, 1) := by decide +kernel
theorem dX5_piles_19 : decode cX5_piles 19 = .ok (.getfield 122, 3) := by decide +kernel
theorem dX5_piles_22 : decode cX5_piles 22 = .ok (.iload_n 2, 1) := by decide +kernel
theorem dX5_piles_23 : decode cX5_piles 23 = .ok (.iastore, 1) := by decide +kernel
theorem dX5_piles_24 : decode cX5_piles 24 = .ok (.aload_n 0, 1) := by decide +kernel
theorem dX5_piles_25 : decode cX5_piles 25 = .ok (.dup, 1) := by decide +kernel
theorem dX5_piles_26 : decode cX5_piles 26 = .ok (.getfield 122, 3) := by decide +kernel
theorem dX5_piles_29 : decode cX5_piles 29 = .ok (.iconst 1, 1) := by decide +kernel
theorem dX5_piles_30 : decode cX5_piles 30 = .ok (.iadd, 1) := by decide +kernel
theorem dX5_piles_31 : decode cX5_piles 31 = .ok (.putfield 122, 3) := by decide +kernel
theorem dX5_piles_34 : decode cX5_piles 34 = .ok (.return_, 1) := by decide +kernel
theorem dX5_follow_0 : decode cX5_follow 0 = .ok (.iconst 0, 1) := by decide +kernel
theorem dX5_follow_1 : decode cX5_follow 1 = .ok (.istore_n 3, 1) := by decide +kernel
theorem dX5_follow_2 : decode cX5_follow 2 = .ok (.iload_n 3, 1) := by decide +kernel
theorem dX5_follow_3 : decode cX5_follow 3 = .ok (.bipush 8, 2) := by decide +kernel
theorem dX5_follow_5 : decode cX5_follow 5 = .ok (.if_icmp .ge 16, 3) := by decide +kernel
theorem dX5_follow_8 : decode cX5_follow 8 = .ok (.aload_n 0, 1) := by decide +kernel
theorem dX5_follow_9 : decode cX5_follow 9 = .ok (.getfield 84, 3) := by decide +kernel
theorem dX5_follow_12 : decode cX5_follow 12 = .ok (.iload_n 3, 1) := by decide +kernel
theorem dX5_follow_13 : decode cX5_follow 13 = .ok (.iconst 0, 1) := by decide +kernel
theorem dX5_follow_14 : decode cX5_follow 14 = .ok (.iastore, 1) := by decide +kernel
theorem dX5_follow_15 : decode cX5_follow 15 = .ok (.iinc 3 1, 3) := by decide +kernel
theorem dX5_follow_18 : decode cX5_follow 18 = .ok (.goto (-16), 3) := by decide +kernel
theorem dX5_follow_21 : decode cX5_follow 21 = .ok (.aload_n 0, 1) := by decide +kernel
theorem dX5_follow_22 : decode cX5_follow 22 = .ok (.lconst 0, 1) := by decide +kernel
theorem dX5_follow_23 : decode cX5_follow 23 = .ok (.putfield 125, 3) := by decide +kernel
theorem dX5_follow_26 : decode cX5_follow 26 = .ok (.aload_n 0, 1) := by decide +kernel
theorem dX5_follow_27 : decode cX5_follow 27 = .ok (.iconst 0, 1) := by decide +kernel
theorem dX5_follow_28 : decode cX5_follow 28 = .ok (.putfield 122, 3) := by decide +kernel
theorem dX5_follow_31 : decode cX5_follow 31 = .ok (.aload_n 0, 1) := by decide +kernel
theorem dX5_follow_32 : decode cX5_follow 32 = .ok (.iload_n 2, 1) := by decide +kernel
theorem dX5_follow_33 : decode cX5_follow 33 = .ok (.aload_n 0, 1) := by decide +kernel
theorem dX5_follow_34 : decode cX5_follow 34 = .ok (.getfield 35, 3) := by decide +kernel
theorem dX5_follow_37 : decode cX5_follow 37 = .ok (.bipush 12, 2) := by decide +kernel
theorem dX5_follow_39 : decode cX5_follow 39 = .ok (.iload_n 1, 1) := by decide +kernel
theorem dX5_follow_40 : decode cX5_follow 40 = .ok (.imul, 1) := by decide +kernel
theorem dX5_follow_41 : decode cX5_follow 41 = .ok (.iload_n 2, 1) := by decide +kernel
theorem dX5_follow_42 : decode cX5_follow 42 = .ok (.iadd, 1) := by decide +kernel
theorem dX5_follow_43 : decode cX5_follow 43 = .ok (.iaload, 1) := by decide +kernel
theorem dX5_follow_44 : decode cX5_follow 44 = .ok (.invokevirtual 129, 3) := by decide +kernel
theorem dX5_follow_47 : decode cX5_follow 47 = .ok (.aload_n 0, 1) := by decide +kernel
theorem dX5_follow_48 : decode cX5_follow 48 = .ok (.getfield 122, 3) := by decide +kernel
theorem dX5_follow_51 : decode cX5_follow 51 = .ok (.ifCond .le 182, 3) := by decide +kernel
theorem dX5_follow_54 : decode cX5_follow 54 = .ok (.aload_n 0, 1) := by decide +kernel
theorem dX5_follow_55 : decode cX5_follow 55 = .ok (.dup, 1) := by decide +kernel
theorem dX5_follow_56 : decode cX5_follow 56 = .ok (.getfield 122, 3) := by decide +kernel
theorem dX5_follow_59 : decode cX5_follow 59 = .ok (.iconst 1, 1) := by decide +kernel
theorem dX5_follow_60 : decode cX5_follow 60 = .ok (.isub, 1) := by decide +kernel
theorem dX5_follow_61 : decode cX5_follow 61 = .ok (.putfield 122, 3) := by decide +kernel
theorem dX5_follow_64 : decode cX5_follow 64 = .ok (.bipush 12, 2) := by decide +kernel
theorem dX5_follow_66 : decode cX5_follow 66 = .ok (.iload_n 1, 1) := by decide +kernel
theorem dX5_follow_67 : decode cX5_follow 67 = .ok (.imul, 1) := by decide +kernel
theorem dX5_follow_68 : decode cX5_follow 68 = .ok (.aload_n 0, 1) := by decide +kernel
theorem dX5_follow_69 : decode cX5_follow 69 = .ok (.getfield 78, 3) := by decide +kernel
theorem dX5_follow_72 : decode cX5_follow 72 = .ok (.aload_n 0, 1) := by decide +kernel
theorem dX5_follow_73 : decode cX5_follow 73 = .ok (.getfield 122, 3) := by decide +kernel
theorem dX5_follow_76 : decode cX5_follow 76 = .ok (.iaload, 1) := by decide +kernel
theorem dX5_follow_77 : decode cX5_follow 77 = .ok (.iadd, 1) := by decide +kernel
theorem dX5_follow_78 : decode cX5_follow 78 = .ok (.istore_n 3, 1) := by decide +kernel
theorem dX5_follow_79 : decode cX5_follow 79 = .ok (.aload_n 0, 1) := by decide +kernel
theorem dX5_follow_80 : decode cX5_follow 80 = .ok (.getfield 81, 3) := by decide +kernel
theorem dX5_follow_83 : decode cX5_follow 83 = .ok (.aload_n 0, 1) := by decide +kernel
theorem dX5_follow_84 : decode cX5_follow 84 = .ok (.getfield 122, 3) := by decide +kernel
theorem dX5_follow_87 : decode cX5_follow 87 = .ok (.iaload, 1) := by decide +kernel
theorem dX5_follow_88 : decode cX5_follow 88 = .ok (.istore 4, 2) := by decide +kernel
theorem dX5_follow_90 : decode cX5_follow 90 = .ok (.aload_n 0, 1) := by decide +kernel
theorem dX5_follow_91 : decode cX5_follow 91 = .ok (.getfield 23, 3) := by decide +kernel
theorem dX5_follow_94 : decode cX5_follow 94 = .ok (.iload_n 3, 1) := by decide +kernel
theorem dX5_follow_95 : decode cX5_follow 95 = .ok (.iaload, 1) := by decide +kernel
theorem dX5_follow_96 : decode cX5_follow 96 = .ok (.ifCond .ne 32, 3) := by decide +kernel
theorem dX5_follow_99 : decode cX5_follow 99 = .ok (.aload_n 0, 1) := by decide +kernel
theorem dX5_follow_100 : decode cX5_follow 100 = .ok (.dup, 1) := by decide +kernel
theorem dX5_follow_101 : decode cX5_follow 101 = .ok (.getfield 125, 3) := by decide +kernel
theorem dX5_follow_104 : decode cX5_follow 104 = .ok (.lconst 1, 1) := by decide +kernel
theorem dX5_follow_105 : decode cX5_follow 105 = .ok (.ladd, 1) := by decide +kernel
theorem dX5_follow_106 : decode cX5_follow 106 = .ok (.putfield 125, 3) := by decide +kernel
theorem dX5_follow_109 : decode cX5_follow 109 = .ok (.aload_n 0, 1) := by decide +kernel
theorem dX5_follow_110 : decode cX5_follow 110 = .ok (.getfield 84, 3) := by decide +kernel
theorem dX5_follow_113 : decode cX5_follow 113 = .ok (.aload_n 0, 1) := by decide +kernel
theorem dX5_follow_114 : decode cX5_follow 114 = .ok (.getfield 26, 3) := by decide +kernel
theorem dX5_follow_117 : decode cX5_follow 117 = .ok (.iload_n 3, 1) := by decide +kernel
theorem dX5_follow_118 : decode cX5_follow 118 = .ok (.iaload, 1) := by decide +kernel
theorem dX5_follow_119 : decode cX5_follow 119 = .ok (.dup2, 1) := by decide +kernel
theorem dX5_follow_120 : decode cX5_follow 120 = .ok (.iaload, 1) := by decide +kernel
theorem dX5_follow_121 : decode cX5_follow 121 = .ok (.iload 4, 2) := by decide +kernel
theorem dX5_follow_123 : decode cX5_follow 123 = .ok (.ior, 1) := by decide +kernel
theorem dX5_follow_124 : decode cX5_follow 124 = .ok (.iastore, 1) := by decide +kernel
theorem dX5_follow_125 : decode cX5_follow 125 = .ok (.goto 105, 3) := by decide +kernel
theorem dX5_follow_128 : decode cX5_follow 128 = .ok (.aload_n 0, 1) := by decide +kernel
theorem dX5_follow_129 : decode cX5_follow 129 = .ok (.getfield 23, 3) := by decide +kernel
theorem dX5_follow_132 : decode cX5_follow 132 = .ok (.iload_n 3, 1) := by decide +kernel
theorem dX5_follow_133 : decode cX5_follow 133 = .ok (.iaload, 1) := by decide +kernel
theorem dX5_follow_134 : decode cX5_follow 134 = .ok (.iconst 1, 1) := by decide +kernel
theorem dX5_follow_135 : decode cX5_follow 135 = .ok (.if_icmp .ne 39, 3) := by decide +kernel
theorem dX5_follow_138 : decode cX5_follow 138 = .ok (.aload_n 0, 1) := by decide +kernel
theorem dX5_follow_139 : decode cX5_follow 139 = .ok (.dup, 1) := by decide +kernel
theorem dX5_follow_140 : decode cX5_follow 140 = .ok (.getfield 125, 3) := by decide +kernel
theorem dX5_follow_143 : decode cX5_follow 143 = .ok (.ldc2_w 133, 3) := by decide +kernel
theorem dX5_follow_146 : decode cX5_follow 146 = .ok (.ladd, 1) := by decide +kernel
theorem dX5_follow_147 : decode cX5_follow 147 = .ok (.putfield 125, 3) := by decide +kernel
theorem dX5_follow_150 : decode cX5_follow 150 = .ok (.aload_n 0, 1) := by decide +kernel
theorem dX5_follow_151 : decode cX5_follow 151 = .ok (.aload_n 0, 1) := by decide +kernel
theorem dX5_follow_152 : decode cX5_follow 152 = .ok (.getfield 26, 3) := by decide +kernel
theorem dX5_follow_155 : decode cX5_follow 155 = .ok (.iload_n 3, 1) := by decide +kernel
theorem dX5_follow_156 : decode cX5_follow 156 = .ok (.iaload, 1) := by decide +kernel
theorem dX5_follow_157 : decode cX5_follow 157 = .ok (.iload 4, 2) := by decide +kernel
theorem dX5_follow_159 : decode cX5_follow 159 = .ok (.aload_n 0, 1) := by decide +kernel
theorem dX5_follow_160 : decode cX5_follow 160 = .ok (.getfield 32, 3) := by decide +kernel
theorem dX5_follow_163 : decode cX5_follow 163 = .ok (.iload_n 3, 1) := by decide +kernel
theorem dX5_follow_164 : decode cX5_follow 164 = .ok (.iaload, 1) := by decide +kernel
theorem dX5_follow_165 : decode cX5_follow 165 = .ok (.invokestatic 135, 3) := by decide +kernel
theorem dX5_follow_168 : decode cX5_follow 168 = .ok (.invokevirtual 129, 3) := by decide +kernel
theorem dX5_follow_171 : decode cX5_follow 171 = .ok (.goto 59, 3) := by decide +kernel
theorem dX5_follow_174 : decode cX5_follow 174 = .ok (.aload_n 0, 1) := by decide +kernel
theorem dX5_follow_175 : decode cX5_follow 175 = .ok (.dup, 1) := by decide +kernel
theorem dX5_follow_176 : decode cX5_follow 176 = .ok (.getfield 125, 3) := by decide +kernel
theorem dX5_follow_179 : decode cX5_follow 179 = .ok (.ldc2_w 139, 3) := by decide +kernel
theorem dX5_follow_182 : decode cX5_follow 182 = .ok (.ladd, 1) := by decide +kernel
theorem dX5_follow_183 : decode cX5_follow 183 = .ok (.putfield 125, 3) := by decide +kernel
theorem dX5_follow_186 : decode cX5_follow 186 = .ok (.iconst 1, 1) := by decide +kernel
theorem dX5_follow_187 : decode cX5_follow 187 = .ok (.aload_n 0, 1) := by decide +kernel
theorem dX5_follow_188 : decode cX5_follow 188 = .ok (.getfield 32, 3) := by decide +kernel
theorem dX5_follow_191 : decode cX5_follow 191 = .ok (.iload_n 3, 1) := by decide +kernel
theorem dX5_follow_192 : decode cX5_follow 192 = .ok (.iaload, 1) := by decide +kernel
theorem dX5_follow_193 : decode cX5_follow 193 = .ok (.ishl, 1) := by decide +kernel
theorem dX5_follow_194 : decode cX5_follow 194 = .ok (.iconst 1, 1) := by decide +kernel
theorem dX5_follow_195 : decode cX5_follow 195 = .ok (.isub, 1) := by decide +kernel
theorem dX5_follow_196 : decode cX5_follow 196 = .ok (.istore 5, 2) := by decide +kernel
theorem dX5_follow_198 : decode cX5_follow 198 = .ok (.aload_n 0, 1) := by decide +kernel
theorem dX5_follow_199 : decode cX5_follow 199 = .ok (.aload_n 0, 1) := by decide +kernel
theorem dX5_follow_200 : decode cX5_follow 200 = .ok (.getfield 29, 3) := by decide +kernel
theorem dX5_follow_203 : decode cX5_follow 203 = .ok (.iload_n 3, 1) := by decide +kernel
theorem dX5_follow_204 : decode cX5_follow 204 = .ok (.iaload, 1) := by decide +kernel
theorem dX5_follow_205 : decode cX5_follow 205 = .ok (.iload 4, 2) := by decide +kernel
theorem dX5_follow_207 : decode cX5_follow 207 = .ok (.iload 5, 2) := by decide +kernel
theorem dX5_follow_209 : decode cX5_follow 209 = .ok (.iconst (-1), 1) := by decide +kernel
theorem dX5_follow_210 : decode cX5_follow 210 = .ok (.ixor, 1) := by decide +kernel
theorem dX5_follow_211 : decode cX5_follow 211 = .ok (.iand, 1) := by decide +kernel
theorem dX5_follow_212 : decode cX5_follow 212 = .ok (.invokevirtual 129, 3) := by decide +kernel
theorem dX5_follow_215 : decode cX5_follow 215 = .ok (.aload_n 0, 1) := by decide +kernel
theorem dX5_follow_216 : decode cX5_follow 216 = .ok (.aload_n 0, 1) := by decide +kernel
theorem dX5_follow_217 : decode cX5_follow 217 = .ok (.getfield 26, 3) := by decide +kernel
theorem dX5_follow_220 : decode cX5_follow 220 = .ok (.iload_n 3, 1) := by decide +kernel
theorem dX5_follow_221 : decode cX5_follow 221 = .ok (.iaload, 1) := by decide +kernel
theorem dX5_follow_222 : decode cX5_follow 222 = .ok (.iload 4, 2) := by decide +kernel
theorem dX5_follow_224 : decode cX5_follow 224 = .ok (.iload 5, 2) := by decide +kernel
theorem dX5_follow_226 : decode cX5_follow 226 = .ok (.iand, 1) := by decide +kernel
theorem dX5_follow_227 : decode cX5_follow 227 = .ok (.invokevirtual 129, 3) := by decide +kernel
theorem dX5_follow_230 : decode cX5_follow 230 = .ok (.goto (-183), 3) := by decide +kernel
theorem dX5_follow_233 : decode cX5_follow 233 = .ok (.return_, 1) := by decide +kernel
theorem dX5_sees_0 : decode cX5_sees 0 = .ok (.iload_n 1, 1) := by decide +kernel
theorem dX5_sees_1 : decode cX5_sees 1 = .ok (.invokestatic 108, 3) := by decide +kernel
theorem dX5_sees_4 : decode cX5_sees 4 = .ok (.ifCond .eq 19, 3) := by decide +kernel
theorem dX5_sees_7 : decode cX5_sees 7 = .ok (.aload_n 0, 1) := by decide +kernel
theorem dX5_sees_8 : decode cX5_sees 8 = .ok (.iload_n 1, 1) := by decide +kernel
theorem dX5_sees_9 : decode cX5_sees 9 = .ok (.iload_n 2, 1) := by decide +kernel
theorem dX5_sees_10 : decode cX5_sees 10 = .ok (.invokevirtual 118, 3) := by decide +kernel
theorem dX5_sees_13 : decode cX5_sees 13 = .ok (.ifCond .eq 10, 3) := by decide +kernel
theorem dX5_sees_16 : decode cX5_sees 16 = .ok (.iload_n 3, 1) := by decide +kernel
theorem dX5_sees_17 : decode cX5_sees 17 = .ok (.invokestatic 97, 3) := by decide +kernel
theorem dX5_sees_20 : decode cX5_sees 20 = .ok (.ifCond .ne 5, 3) := by decide +kernel
theorem dX5_sees_23 : decode cX5_sees 23 = .ok (.iconst (-1), 1) := by decide +kernel
theorem dX5_sees_24 : decode cX5_sees 24 = .ok (.ireturn, 1) := by decide +kernel
theorem dX5_sees_25 : decode cX5_sees 25 = .ok (.aload_n 0, 1) := by decide +kernel
theorem dX5_sees_26 : decode cX5_sees 26 = .ok (.iload_n 1, 1) := by decide +kernel
theorem dX5_sees_27 : decode cX5_sees 27 = .ok (.iload_n 2, 1) := by decide +kernel
theorem dX5_sees_28 : decode cX5_sees 28 = .ok (.invokevirtual 141, 3) := by decide +kernel
theorem dX5_sees_31 : decode cX5_sees 31 = .ok (.aload_n 0, 1) := by decide +kernel
theorem dX5_sees_32 : decode cX5_sees 32 = .ok (.dup, 1) := by decide +kernel
theorem dX5_sees_33 : decode cX5_sees 33 = .ok (.getfield 144, 3) := by decide +kernel
theorem dX5_sees_36 : decode cX5_sees 36 = .ok (.aload_n 0, 1) := by decide +kernel
theorem dX5_sees_37 : decode cX5_sees 37 = .ok (.getfield 125, 3) := by decide +kernel
theorem dX5_sees_40 : decode cX5_sees 40 = .ok (.ladd, 1) := by decide +kernel
theorem dX5_sees_41 : decode cX5_sees 41 = .ok (.putfield 144, 3) := by decide +kernel
theorem dX5_sees_44 : decode cX5_sees 44 = .ok (.aload_n 0, 1) := by decide +kernel
theorem dX5_sees_45 : decode cX5_sees 45 = .ok (.getfield 84, 3) := by decide +kernel
theorem dX5_sees_48 : decode cX5_sees 48 = .ok (.iload_n 3, 1) := by decide +kernel
theorem dX5_sees_49 : decode cX5_sees 49 = .ok (.iaload, 1) := by decide +kernel
theorem dX5_sees_50 : decode cX5_sees 50 = .ok (.ireturn, 1) := by decide +kernel
theorem dX5_usesOf_0 : decode cX5_usesOf 0 = .ok (.iconst 0, 1) := by decide +kernel
theorem dX5_usesOf_1 : decode cX5_usesOf 1 = .ok (.istore_n 3, 1) := by decide +kernel
theorem dX5_usesOf_2 : decode cX5_usesOf 2 = .ok (.iconst 0, 1) := by decide +kernel
theorem dX5_usesOf_3 : decode cX5_usesOf 3 = .ok (.istore 4, 2) := by decide +kernel
theorem dX5_usesOf_5 : decode cX5_usesOf 5 = .ok (.iload 4, 2) := by decide +kernel
theorem dX5_usesOf_7 : decode cX5_usesOf 7 = .ok (.aload_n 0, 1) := by decide +kernel
theorem dX5_usesOf_8 : decode cX5_usesOf 8 = .ok (.getfield 20, 3) := by decide +kernel
theorem dX5_usesOf_11 : decode cX5_usesOf 11 = .ok (.iload_n 1, 1) := by decide +kernel
theorem dX5_usesOf_12 : decode cX5_usesOf 12 = .ok (.iaload, 1) := by decide +kernel
theorem dX5_usesOf_13 : decode cX5_usesOf 13 = .ok (.if_icmp .ge 25, 3) := by decide +kernel
theorem dX5_usesOf_16 : decode cX5_usesOf 16 = .ok (.aload_n 0, 1) := by decide +kernel
theorem dX5_usesOf_17 : decode cX5_usesOf 17 = .ok (.iload_n 1, 1) := by decide +kernel
theorem dX5_usesOf_18 : decode cX5_usesOf 18 = .ok (.iload 4, 2) := by decide +kernel
theorem dX5_usesOf_20 : decode cX5_usesOf 20 = .ok (.invokevirtual 141, 3) := by decide +kernel
theorem dX5_usesOf_23 : decode cX5_usesOf 23 = .ok (.iload_n 3, 1) := by decide +kernel
theorem dX5_usesOf_24 : decode cX5_usesOf 24 = .ok (.aload_n 0, 1) := by decide +kernel
theorem dX5_usesOf_25 : decode cX5_usesOf 25 = .ok (.getfield 84, 3) := by decide +kernel
theorem dX5_usesOf_28 : decode cX5_usesOf 28 = .ok (.iload_n 2, 1) := by decide +kernel
theorem dX5_usesOf_29 : decode cX5_usesOf 29 = .ok (.iaload, 1) := by decide +kernel
theorem dX5_usesOf_30 : decode cX5_usesOf 30 = .ok (.ior, 1) := by decide +kernel
theorem dX5_usesOf_31 : decode cX5_usesOf 31 = .ok (.istore_n 3, 1) := by decide +kernel
theorem dX5_usesOf_32 : decode cX5_usesOf 32 = .ok (.iinc 4 1, 3) := by decide +kernel
theorem dX5_usesOf_35 : decode cX5_usesOf 35 = .ok (.goto (-30), 3) := by decide +kernel
theorem dX5_usesOf_38 : decode cX5_usesOf 38 = .ok (.iload_n 3, 1) := by decide +kernel
theorem dX5_usesOf_39 : decode cX5_usesOf 39 = .ok (.ireturn, 1) := by decide +kernel
theorem dX5_uses_0 : decode cX5_uses 0 = .ok (.iload_n 1, 1) := by decide +kernel
theorem dX5_uses_1 : decode cX5_uses 1 = .ok (.invokestatic 108, 3) := by decide +kernel
theorem dX5_uses_4 : decode cX5_uses 4 = .ok (.ifCond .eq 19, 3) := by decide +kernel
theorem dX5_uses_7 : decode cX5_uses 7 = .ok (.iload_n 2, 1) := by decide +kernel
theorem dX5_uses_8 : decode cX5_uses 8 = .ok (.invokestatic 97, 3) := by decide +kernel
theorem dX5_uses_11 : decode cX5_uses 11 = .ok (.ifCond .eq 12, 3) := by decide +kernel
theorem dX5_uses_14 : decode cX5_uses 14 = .ok (.aload_n 0, 1) := by decide +kernel
theorem dX5_uses_15 : decode cX5_uses 15 = .ok (.iload_n 1, 1) := by decide +kernel
theorem dX5_uses_16 : decode cX5_uses 16 = .ok (.iload_n 2, 1) := by decide +kernel
theorem dX5_uses_17 : decode cX5_uses 17 = .ok (.invokevirtual 147, 3) := by decide +kernel
theorem dX5_uses_20 : decode cX5_uses 20 = .ok (.goto 4, 3) := by decide +kernel
theorem dX5_uses_23 : decode cX5_uses 23 = .ok (.iconst (-1), 1) := by decide +kernel
theorem dX5_uses_24 : decode cX5_uses 24 = .ok (.ireturn, 1) := by decide +kernel
theorem dX5_shape_0 : decode cX5_shape 0 = .ok (.iload_n 1, 1) := by decide +kernel
theorem dX5_shape_1 : decode cX5_shape 1 = .ok (.invokestatic 108, 3) := by decide +kernel
theorem dX5_shape_4 : decode cX5_shape 4 = .ok (.ifCond .eq 10, 3) := by decide +kernel
theorem dX5_shape_7 : decode cX5_shape 7 = .ok (.iload_n 2, 1) := by decide +kernel
theorem dX5_shape_8 : decode cX5_shape 8 = .ok (.invokestatic 97, 3) := by decide +kernel
theorem dX5_shape_11 : decode cX5_shape 11 = .ok (.ifCond .ne 5, 3) := by decide +kernel
theorem dX5_shape_14 : decode cX5_shape 14 = .ok (.iconst (-1), 1) := by decide +kernel
theorem dX5_shape_15 : decode cX5_shape 15 = .ok (.ireturn, 1) := by decide +kernel
theorem dX5_shape_16 : decode cX5_shape 16 = .ok (.aload_n 0, 1) := by decide +kernel
theorem dX5_shape_17 : decode cX5_shape 17 = .ok (.iload_n 1, 1) := by decide +kernel
theorem dX5_shape_18 : decode cX5_shape 18 = .ok (.iload_n 2, 1) := by decide +kernel
theorem dX5_shape_19 : decode cX5_shape 19 = .ok (.invokevirtual 147, 3) := by decide +kernel
theorem dX5_shape_22 : decode cX5_shape 22 = .ok (.istore_n 3, 1) := by decide +kernel
theorem dX5_shape_23 : decode cX5_shape 23 = .ok (.iload_n 3, 1) := by decide +kernel
theorem dX5_shape_24 : decode cX5_shape 24 = .ok (.ifCond .ne 7, 3) := by decide +kernel
theorem dX5_shape_27 : decode cX5_shape 27 = .ok (.iconst 0, 1) := by decide +kernel
theorem dX5_shape_28 : decode cX5_shape 28 = .ok (.goto 27, 3) := by decide +kernel
theorem dX5_shape_31 : decode cX5_shape 31 = .ok (.iload_n 3, 1) := by decide +kernel
theorem dX5_shape_32 : decode cX5_shape 32 = .ok (.sipush 255, 3) := by decide +kernel
theorem dX5_shape_35 : decode cX5_shape 35 = .ok (.if_icmp .ne 7, 3) := by decide +kernel
theorem dX5_shape_38 : decode cX5_shape 38 = .ok (.iconst 3, 1) := by decide +kernel
theorem dX5_shape_39 : decode cX5_shape 39 = .ok (.goto 16, 3) := by decide +kernel
theorem dX5_shape_42 : decode cX5_shape 42 = .ok (.iload_n 3, 1) := by decide +kernel
theorem dX5_shape_43 : decode cX5_shape 43 = .ok (.iload_n 3, 1) := by decide +kernel
theorem dX5_shape_44 : decode cX5_shape 44 = .ok (.iconst 1, 1) := by decide +kernel
theorem dX5_shape_45 : decode cX5_shape 45 = .ok (.isub, 1) := by decide +kernel
theorem dX5_shape_46 : decode cX5_shape 46 = .ok (.iand, 1) := by decide +kernel
theorem dX5_shape_47 : decode cX5_shape 47 = .ok (.ifCond .ne 7, 3) := by decide +kernel
theorem dX5_shape_50 : decode cX5_shape 50 = .ok (.iconst 1, 1) := by decide +kernel
theorem dX5_shape_51 : decode cX5_shape 51 = .ok (.goto 4, 3) := by decide +kernel
theorem dX5_shape_54 : decode cX5_shape 54 = .ok (.iconst 2, 1) := by decide +kernel
theorem dX5_shape_55 : decode cX5_shape 55 = .ok (.ireturn, 1) := by decide +kernel
theorem dX5_isShut_0 : decode cX5_isShut 0 = .ok (.aload_n 0, 1) := by decide +kernel
theorem dX5_isShut_1 : decode cX5_isShut 1 = .ok (.getfield 66, 3) := by decide +kernel
theorem dX5_isShut_4 : decode cX5_isShut 4 = .ok (.iload_n 1, 1) := by decide +kernel
theorem dX5_isShut_5 : decode cX5_isShut 5 = .ok (.iaload, 1) := by decide +kernel
theorem dX5_isShut_6 : decode cX5_isShut 6 = .ok (.bipush (-9), 2) := by decide +kernel
theorem dX5_isShut_8 : decode cX5_isShut 8 = .ok (.if_icmp .eq 20, 3) := by decide +kernel
theorem dX5_isShut_11 : decode cX5_isShut 11 = .ok (.aload_n 0, 1) := by decide +kernel
theorem dX5_isShut_12 : decode cX5_isShut 12 = .ok (.getfield 66, 3) := by decide +kernel
theorem dX5_isShut_15 : decode cX5_isShut 15 = .ok (.iload_n 1, 1) := by decide +kernel
theorem dX5_isShut_16 : decode cX5_isShut 16 = .ok (.iaload, 1) := by decide +kernel
theorem dX5_isShut_17 : decode cX5_isShut 17 = .ok (.aload_n 0, 1) := by decide +kernel
theorem dX5_isShut_18 : decode cX5_isShut 18 = .ok (.getfield 90, 3) := by decide +kernel
theorem dX5_isShut_21 : decode cX5_isShut 21 = .ok (.if_icmp .gt 7, 3) := by decide +kernel
theorem dX5_isShut_24 : decode cX5_isShut 24 = .ok (.iconst 1, 1) := by decide +kernel
theorem dX5_isShut_25 : decode cX5_isShut 25 = .ok (.goto 4, 3) := by decide +kernel
theorem dX5_isShut_28 : decode cX5_isShut 28 = .ok (.iconst 0, 1) := by decide +kernel
theorem dX5_isShut_29 : decode cX5_isShut 29 = .ok (.ireturn, 1) := by decide +kernel
theorem dX5_count_0 : decode cX5_count 0 = .ok (.iload_n 1, 1) := by decide +kernel
theorem dX5_count_1 : decode cX5_count 1 = .ok (.invokestatic 108, 3) := by decide +kernel
theorem dX5_count_4 : decode cX5_count 4 = .ok (.ifCond .eq 45, 3) := by decide +kernel
theorem dX5_count_7 : decode cX5_count 7 = .ok (.iload_n 2, 1) := by decide +kernel
theorem dX5_count_8 : decode cX5_count 8 = .ok (.invokestatic 97, 3) := by decide +kernel
theorem dX5_count_11 : decode cX5_count 11 = .ok (.ifCond .eq 38, 3) := by decide +kernel
theorem dX5_count_14 : decode cX5_count 14 = .ok (.iload_n 3, 1) := by decide +kernel
theorem dX5_count_15 : decode cX5_count 15 = .ok (.iconst 0, 1) := by decide +kernel
theorem dX5_count_16 : decode cX5_count 16 = .ok (.aload_n 0, 1) := by decide +kernel
theorem dX5_count_17 : decode cX5_count 17 = .ok (.getfield 90, 3) := by decide +kernel
theorem dX5_count_20 : decode cX5_count 20 = .ok (.invokestatic 93, 3) := by decide +kernel
theorem dX5_count_23 : decode cX5_count 23 = .ok (.ifCond .eq 26, 3) := by decide +kernel
theorem dX5_count_26 : decode cX5_count 26 = .ok (.iload 4, 2) := by decide +kernel
theorem dX5_count_28 : decode cX5_count 28 = .ok (.iconst 0, 1) := by decide +kernel
theorem dX5_count_29 : decode cX5_count 29 = .ok (.sipush 1000, 3) := by decide +kernel
theorem dX5_count_32 : decode cX5_count 32 = .ok (.invokestatic 93, 3) := by decide +kernel
theorem dX5_count_35 : decode cX5_count 35 = .ok (.ifCond .eq 14, 3) := by decide +kernel
theorem dX5_count_38 : decode cX5_count 38 = .ok (.iload 5, 2) := by decide +kernel
theorem dX5_count_40 : decode cX5_count 40 = .ok (.iconst 0, 1) := by decide +kernel
theorem dX5_count_41 : decode cX5_count 41 = .ok (.bipush 99, 2) := by decide +kernel
theorem dX5_count_43 : decode cX5_count 43 = .ok (.invokestatic 93, 3) := by decide +kernel
theorem dX5_count_46 : decode cX5_count 46 = .ok (.ifCond .ne 5, 3) := by decide +kernel
theorem dX5_count_49 : decode cX5_count 49 = .ok (.iconst (-1), 1) := by decide +kernel
theorem dX5_count_50 : decode cX5_count 50 = .ok (.ireturn, 1) := by decide +kernel
theorem dX5_count_51 : decode cX5_count 51 = .ok (.aload_n 0, 1) := by decide +kernel
theorem dX5_count_52 : decode cX5_count 52 = .ok (.getfield 41, 3) := by decide +kernel
theorem dX5_count_55 : decode cX5_count 55 = .ok (.bipush 100, 2) := by decide +kernel
theorem dX5_count_57 : decode cX5_count 57 = .ok (.iload_n 1, 1) := by decide +kernel
theorem dX5_count_58 : decode cX5_count 58 = .ok (.imul, 1) := by decide +kernel
theorem dX5_count_59 : decode cX5_count 59 = .ok (.iload 5, 2) := by decide +kernel
theorem dX5_count_61 : decode cX5_count 61 = .ok (.iadd, 1) := by decide +kernel
theorem dX5_count_62 : decode cX5_count 62 = .ok (.baload, 1) := by decide +kernel
theorem dX5_count_63 : decode cX5_count 63 = .ok (.ifCond .eq 5, 3) := by decide +kernel
theorem dX5_count_66 : decode cX5_count 66 = .ok (.iconst 0, 1) := by decide +kernel
theorem dX5_count_67 : decode cX5_count 67 = .ok (.ireturn, 1) := by decide +kernel
theorem dX5_count_68 : decode cX5_count 68 = .ok (.aload_n 0, 1) := by decide +kernel
theorem dX5_count_69 : decode cX5_count 69 = .ok (.getfield 41, 3) := by decide +kernel
theorem dX5_count_72 : decode cX5_count 72 = .ok (.bipush 100, 2) := by decide +kernel
theorem dX5_count_74 : decode cX5_count 74 = .ok (.iload_n 1, 1) := by decide +kernel
theorem dX5_count_75 : decode cX5_count 75 = .ok (.imul, 1) := by decide +kernel
theorem dX5_count_76 : decode cX5_count 76 = .ok (.iload 5, 2) := by decide +kernel
theorem dX5_count_78 : decode cX5_count 78 = .ok (.iadd, 1) := by decide +kernel
theorem dX5_count_79 : decode cX5_count 79 = .ok (.iconst 1, 1) := by decide +kernel
theorem dX5_count_80 : decode cX5_count 80 = .ok (.bastore, 1) := by decide +kernel
theorem dX5_count_81 : decode cX5_count 81 = .ok (.aload_n 0, 1) := by decide +kernel
theorem dX5_count_82 : decode cX5_count 82 = .ok (.getfield 45, 3) := by decide +kernel
theorem dX5_count_85 : decode cX5_count 85 = .ok (.iload_n 1, 1) := by decide +kernel
theorem dX5_count_86 : decode cX5_count 86 = .ok (.iconst 1, 1) := by decide +kernel
theorem dX5_count_87 : decode cX5_count 87 = .ok (.bastore, 1) := by decide +kernel
theorem dX5_count_88 : decode cX5_count 88 = .ok (.aload_n 0, 1) := by decide +kernel
theorem dX5_count_89 : decode cX5_count 89 = .ok (.getfield 38, 3) := by decide +kernel
theorem dX5_count_92 : decode cX5_count 92 = .ok (.sipush 320, 3) := by decide +kernel
theorem dX5_count_95 : decode cX5_count 95 = .ok (.iload_n 1, 1) := by decide +kernel
theorem dX5_count_96 : decode cX5_count 96 = .ok (.imul, 1) := by decide +kernel
theorem dX5_count_97 : decode cX5_count 97 = .ok (.bipush 40, 2) := by decide +kernel
theorem dX5_count_99 : decode cX5_count 99 = .ok (.iload_n 2, 1) := by decide +kernel
theorem dX5_count_100 : decode cX5_count 100 = .ok (.imul, 1) := by decide +kernel
theorem dX5_count_101 : decode cX5_count 101 = .ok (.iadd, 1) := by decide +kernel
theorem dX5_count_102 : decode cX5_count 102 = .ok (.iload_n 3, 1) := by decide +kernel
theorem dX5_count_103 : decode cX5_count 103 = .ok (.iadd, 1) := by decide +kernel
theorem dX5_count_104 : decode cX5_count 104 = .ok (.dup2, 1) := by decide +kernel
theorem dX5_count_105 : decode cX5_count 105 = .ok (.iaload, 1) := by decide +kernel
theorem dX5_count_106 : decode cX5_count 106 = .ok (.iload 4, 2) := by decide +kernel
theorem dX5_count_108 : decode cX5_count 108 = .ok (.iadd, 1) := by decide +kernel
theorem dX5_count_109 : decode cX5_count 109 = .ok (.iastore, 1) := by decide +kernel
theorem dX5_count_110 : decode cX5_count 110 = .ok (.iload 4, 2) := by decide +kernel
theorem dX5_count_112 : decode cX5_count 112 = .ok (.ifCond .le 39, 3) := by decide +kernel
theorem dX5_count_115 : decode cX5_count 115 = .ok (.aload_n 0, 1) := by decide +kernel
theorem dX5_count_116 : decode cX5_count 116 = .ok (.iload_n 2, 1) := by decide +kernel
theorem dX5_count_117 : decode cX5_count 117 = .ok (.invokevirtual 150, 3) := by decide +kernel
theorem dX5_count_120 : decode cX5_count 120 = .ok (.ifCond .eq 31, 3) := by decide +kernel
theorem dX5_count_123 : decode cX5_count 123 = .ok (.iload_n 3, 1) := by decide +kernel
theorem dX5_count_124 : decode cX5_count 124 = .ok (.aload_n 0, 1) := by decide +kernel
theorem dX5_count_125 : decode cX5_count 125 = .ok (.getfield 66, 3) := by decide +kernel
theorem dX5_count_128 : decode cX5_count 128 = .ok (.iload_n 2, 1) := by decide +kernel
theorem dX5_count_129 : decode cX5_count 129 = .ok (.iaload, 1) := by decide +kernel
theorem dX5_count_130 : decode cX5_count 130 = .ok (.if_icmp .lt 21, 3) := by decide +kernel
theorem dX5_count_133 : decode cX5_count 133 = .ok (.aload_n 0, 1) := by decide +kernel
theorem dX5_count_134 : decode cX5_count 134 = .ok (.getfield 66, 3) := by decide +kernel
theorem dX5_count_137 : decode cX5_count 137 = .ok (.iload_n 2, 1) := by decide +kernel
theorem dX5_count_138 : decode cX5_count 138 = .ok (.bipush (-9), 2) := by decide +kernel
theorem dX5_count_140 : decode cX5_count 140 = .ok (.iastore, 1) := by decide +kernel
theorem dX5_count_141 : decode cX5_count 141 = .ok (.aload_n 0, 1) := by decide +kernel
theorem dX5_count_142 : decode cX5_count 142 = .ok (.getfield 69, 3) := by decide +kernel
theorem dX5_count_145 : decode cX5_count 145 = .ok (.iload_n 2, 1) := by decide +kernel
theorem dX5_count_146 : decode cX5_count 146 = .ok (.dup2, 1) := by decide +kernel
theorem dX5_count_147 : decode cX5_count 147 = .ok (.iaload, 1) := by decide +kernel
theorem dX5_count_148 : decode cX5_count 148 = .ok (.iconst 1, 1) := by decide +kernel
theorem dX5_count_149 : decode cX5_count 149 = .ok (.iadd, 1) := by decide +kernel
theorem dX5_count_150 : decode cX5_count 150 = .ok (.iastore, 1) := by decide +kernel
theorem dX5_count_151 : decode cX5_count 151 = .ok (.iconst 1, 1) := by decide +kernel
theorem dX5_count_152 : decode cX5_count 152 = .ok (.ireturn, 1) := by decide +kernel
theorem dX5_isSpan_0 : decode cX5_isSpan 0 = .ok (.iload_n 0, 1) := by decide +kernel
theorem dX5_isSpan_1 : decode cX5_isSpan 1 = .ok (.ifCond .lt 18, 3) := by decide +kernel
theorem dX5_isSpan_4 : decode cX5_isSpan 4 = .ok (.iload_n 1, 1) := by decide +kernel
theorem dX5_isSpan_5 : decode cX5_isSpan 5 = .ok (.bipush 40, 2) := by decide +kernel
theorem dX5_isSpan_7 : decode cX5_isSpan 7 = .ok (.if_icmp .ge 12, 3) := by decide +kernel
theorem dX5_isSpan_10 : decode cX5_isSpan 10 = .ok (.iload_n 0, 1) := by decide +kernel
theorem dX5_isSpan_11 : decode cX5_isSpan 11 = .ok (.iload_n 1, 1) := by decide +kernel
theorem dX5_isSpan_12 : decode cX5_isSpan 12 = .ok (.if_icmp .gt 7, 3) := by decide +kernel
theorem dX5_isSpan_15 : decode cX5_isSpan 15 = .ok (.iconst 1, 1) := by decide +kernel
theorem dX5_isSpan_16 : decode cX5_isSpan 16 = .ok (.goto 4, 3) := by decide +kernel
theorem dX5_isSpan_19 : decode cX5_isSpan 19 = .ok (.iconst 0, 1) := by decide +kernel
theorem dX5_isSpan_20 : decode cX5_isSpan 20 = .ok (.ireturn, 1) := by decide +kernel
theorem dX5_sumOf_0 : decode cX5_sumOf 0 = .ok (.iconst 0, 1) := by decide +kernel
theorem dX5_sumOf_1 : decode cX5_sumOf 1 = .ok (.istore 5, 2) := by decide +kernel
theorem dX5_sumOf_3 : decode cX5_sumOf 3 = .ok (.iload_n 3, 1) := by decide +kernel
theorem dX5_sumOf_4 : decode cX5_sumOf 4 = .ok (.istore 6, 2) := by decide +kernel
theorem dX5_sumOf_6 : decode cX5_sumOf 6 = .ok (.iload 6, 2) := by decide +kernel
theorem dX5_sumOf_8 : decode cX5_sumOf 8 = .ok (.iload 4, 2) := by decide +kernel
theorem dX5_sumOf_10 : decode cX5_sumOf 10 = .ok (.if_icmp .gt 32, 3) := by decide +kernel
theorem dX5_sumOf_13 : decode cX5_sumOf 13 = .ok (.iload 5, 2) := by decide +kernel
theorem dX5_sumOf_15 : decode cX5_sumOf 15 = .ok (.aload_n 0, 1) := by decide +kernel
theorem dX5_sumOf_16 : decode cX5_sumOf 16 = .ok (.getfield 38, 3) := by decide +kernel
theorem dX5_sumOf_19 : decode cX5_sumOf 19 = .ok (.sipush 320, 3) := by decide +kernel
theorem dX5_sumOf_22 : decode cX5_sumOf 22 = .ok (.iload_n 1, 1) := by decide +kernel
theorem dX5_sumOf_23 : decode cX5_sumOf 23 = .ok (.imul, 1) := by decide +kernel
theorem dX5_sumOf_24 : decode cX5_sumOf 24 = .ok (.bipush 40, 2) := by decide +kernel
theorem dX5_sumOf_26 : decode cX5_sumOf 26 = .ok (.iload_n 2, 1) := by decide +kernel
theorem dX5_sumOf_27 : decode cX5_sumOf 27 = .ok (.imul, 1) := by decide +kernel
theorem dX5_sumOf_28 : decode cX5_sumOf 28 = .ok (.iadd, 1) := by decide +kernel
theorem dX5_sumOf_29 : decode cX5_sumOf 29 = .ok (.iload 6, 2) := by decide +kernel
theorem dX5_sumOf_31 : decode cX5_sumOf 31 = .ok (.iadd, 1) := by decide +kernel
theorem dX5_sumOf_32 : decode cX5_sumOf 32 = .ok (.iaload, 1) := by decide +kernel
theorem dX5_sumOf_33 : decode cX5_sumOf 33 = .ok (.iadd, 1) := by decide +kernel
theorem dX5_sumOf_34 : decode cX5_sumOf 34 = .ok (.istore 5, 2) := by decide +kernel
theorem dX5_sumOf_36 : decode cX5_sumOf 36 = .ok (.iinc 6 1, 3) := by decide +kernel
theorem dX5_sumOf_39 : decode cX5_sumOf 39 = .ok (.goto (-33), 3) := by decide +kernel
theorem dX5_sumOf_42 : decode cX5_sumOf 42 = .ok (.iload 5, 2) := by decide +kernel
theorem dX5_sumOf_44 : decode cX5_sumOf 44 = .ok (.ireturn, 1) := by decide +kernel
theorem dX5_sum_0 : decode cX5_sum 0 = .ok (.iload_n 1, 1) := by decide +kernel
theorem dX5_sum_1 : decode cX5_sum 1 = .ok (.invokestatic 108, 3) := by decide +kernel
theorem dX5_sum_4 : decode cX5_sum 4 = .ok (.ifCond .eq 31, 3) := by decide +kernel
theorem dX5_sum_7 : decode cX5_sum 7 = .ok (.iload_n 2, 1) := by decide +kernel
theorem dX5_sum_8 : decode cX5_sum 8 = .ok (.invokestatic 97, 3) := by decide +kernel
theorem dX5_sum_11 : decode cX5_sum 11 = .ok (.ifCond .eq 24, 3) := by decide +kernel
theorem dX5_sum_14 : decode cX5_sum 14 = .ok (.iload_n 3, 1) := by decide +kernel
theorem dX5_sum_15 : decode cX5_sum 15 = .ok (.iload 4, 2) := by decide +kernel
theorem dX5_sum_17 : decode cX5_sum 17 = .ok (.invokestatic 153, 3) := by decide +kernel
theorem dX5_sum_20 : decode cX5_sum 20 = .ok (.ifCond .eq 15, 3) := by decide +kernel
theorem dX5_sum_23 : decode cX5_sum 23 = .ok (.aload_n 0, 1) := by decide +kernel
theorem dX5_sum_24 : decode cX5_sum 24 = .ok (.iload_n 1, 1) := by decide +kernel
theorem dX5_sum_25 : decode cX5_sum 25 = .ok (.iload_n 2, 1) := by decide +kernel
theorem dX5_sum_26 : decode cX5_sum 26 = .ok (.iload_n 3, 1) := by decide +kernel
theorem dX5_sum_27 : decode cX5_sum 27 = .ok (.iload 4, 2) := by decide +kernel
theorem dX5_sum_29 : decode cX5_sum 29 = .ok (.invokevirtual 156, 3) := by decide +kernel
theorem dX5_sum_32 : decode cX5_sum 32 = .ok (.goto 4, 3) := by decide +kernel
theorem dX5_sum_35 : decode cX5_sum 35 = .ok (.iconst (-1), 1) := by decide +kernel
theorem dX5_sum_36 : decode cX5_sum 36 = .ok (.ireturn, 1) := by decide +kernel
theorem dX5_isSilent_0 : decode cX5_isSilent 0 = .ok (.aload_n 0, 1) := by decide +kernel
theorem dX5_isSilent_1 : decode cX5_isSilent 1 = .ok (.getfield 20, 3) := by decide +kernel
theorem dX5_isSilent_4 : decode cX5_isSilent 4 = .ok (.iload_n 1, 1) := by decide +kernel
theorem dX5_isSilent_5 : decode cX5_isSilent 5 = .ok (.iaload, 1) := by decide +kernel
theorem dX5_isSilent_6 : decode cX5_isSilent 6 = .ok (.ifCond .ne 16, 3) := by decide +kernel
theorem dX5_isSilent_9 : decode cX5_isSilent 9 = .ok (.aload_n 0, 1) := by decide +kernel
theorem dX5_isSilent_10 : decode cX5_isSilent 10 = .ok (.getfield 45, 3) := by decide +kernel
theorem dX5_isSilent_13 : decode cX5_isSilent 13 = .ok (.iload_n 1, 1) := by decide +kernel
theorem dX5_isSilent_14 : decode cX5_isSilent 14 = .ok (.baload, 1) := by decide +kernel
theorem dX5_isSilent_15 : decode cX5_isSilent 15 = .ok (.ifCond .ne 7, 3) := by decide +kernel
theorem dX5_isSilent_18 : decode cX5_isSilent 18 = .ok (.iconst 1, 1) := by decide +kernel
theorem dX5_isSilent_19 : decode cX5_isSilent 19 = .ok (.goto 4, 3) := by decide +kernel
theorem dX5_isSilent_22 : decode cX5_isSilent 22 = .ok (.iconst 0, 1) := by decide +kernel
theorem dX5_isSilent_23 : decode cX5_isSilent 23 = .ok (.ireturn, 1) := by decide +kernel
theorem dX5_silent_0 : decode cX5_silent 0 = .ok (.iload_n 1, 1) := by decide +kernel
theorem dX5_silent_1 : decode cX5_silent 1 = .ok (.invokestatic 108, 3) := by decide +kernel
theorem dX5_silent_4 : decode cX5_silent 4 = .ok (.ifCond .ne 7, 3) := by decide +kernel
theorem dX5_silent_7 : decode cX5_silent 7 = .ok (.iconst (-1), 1) := by decide +kernel
theorem dX5_silent_8 : decode cX5_silent 8 = .ok (.goto 16, 3) := by decide +kernel
theorem dX5_silent_11 : decode cX5_silent 11 = .ok (.aload_n 0, 1) := by decide +kernel
theorem dX5_silent_12 : decode cX5_silent 12 = .ok (.iload_n 1, 1) := by decide +kernel
theorem dX5_silent_13 : decode cX5_silent 13 = .ok (.invokevirtual 160, 3) := by decide +kernel
theorem dX5_silent_16 : decode cX5_silent 16 = .ok (.ifCond .eq 7, 3) := by decide +kernel
theorem dX5_silent_19 : decode cX5_silent 19 = .ok (.iconst 1, 1) := by decide +kernel
theorem dX5_silent_20 : decode cX5_silent 20 = .ok (.goto 4, 3) := by decide +kernel
theorem dX5_silent_23 : decode cX5_silent 23 = .ok (.iconst 0, 1) := by decide +kernel
theorem dX5_silent_24 : decode cX5_silent 24 = .ok (.ireturn, 1) := by decide +kernel
theorem dX5_most_0 : decode cX5_most 0 = .ok (.iload_n 1, 1) := by decide +kernel
theorem dX5_most_1 : decode cX5_most 1 = .ok (.invokestatic 97, 3) := by decide +kernel
theorem dX5_most_4 : decode cX5_most 4 = .ok (.ifCond .eq 11, 3) := by decide +kernel
theorem dX5_most_7 : decode cX5_most 7 = .ok (.iload_n 2, 1) := by decide +kernel
theorem dX5_most_8 : decode cX5_most 8 = .ok (.iload_n 3, 1) := by decide +kernel
theorem dX5_most_9 : decode cX5_most 9 = .ok (.invokestatic 153, 3) := by decide +kernel
theorem dX5_most_12 : decode cX5_most 12 = .ok (.ifCond .ne 5, 3) := by decide +kernel
theorem dX5_most_15 : decode cX5_most 15 = .ok (.iconst (-1), 1) := by decide +kernel
theorem dX5_most_16 : decode cX5_most 16 = .ok (.ireturn, 1) := by decide +kernel
theorem dX5_most_17 : decode cX5_most 17 = .ok (.iconst 0, 1) := by decide +kernel
theorem dX5_most_18 : decode cX5_most 18 = .ok (.istore 4, 2) := by decide +kernel
theorem dX5_most_20 : decode cX5_most 20 = .ok (.iconst 0, 1) := by decide +kernel
theorem dX5_most_21 : decode cX5_most 21 = .ok (.istore 5, 2) := by decide +kernel
theorem dX5_most_23 : decode cX5_most 23 = .ok (.iload 5, 2) := by decide +kernel
theorem dX5_most_25 : decode cX5_most 25 = .ok (.bipush 6, 2) := by decide +kernel
theorem dX5_most_27 : decode cX5_most 27 = .ok (.if_icmp .ge 45, 3) := by decide +kernel
theorem dX5_most_30 : decode cX5_most 30 = .ok (.iload 4, 2) := by decide +kernel
theorem dX5_most_32 : decode cX5_most 32 = .ok (.aload_n 0, 1) := by decide +kernel
theorem dX5_most_33 : decode cX5_most 33 = .ok (.iload 5, 2) := by decide +kernel
theorem dX5_most_35 : decode cX5_most 35 = .ok (.invokevirtual 160, 3) := by decide +kernel
theorem dX5_most_38 : decode cX5_most 38 = .ok (.ifCond .eq 16, 3) := by decide +kernel
theorem dX5_most_41 : decode cX5_most 41 = .ok (.aload_n 0, 1) := by decide +kernel
theorem dX5_most_42 : decode cX5_most 42 = .ok (.getfield 48, 3) := by decide +kernel
theorem dX5_most_45 : decode cX5_most 45 = .ok (.iload_n 3, 1) := by decide +kernel
theorem dX5_most_46 : decode cX5_most 46 = .ok (.iload_n 2, 1) := by decide +kernel
theorem dX5_most_47 : decode cX5_most 47 = .ok (.isub, 1) := by decide +kernel
theorem dX5_most_48 : decode cX5_most 48 = .ok (.iconst 1, 1) := by decide +kernel
theorem dX5_most_49 : decode cX5_most 49 = .ok (.iadd, 1) := by decide +kernel
theorem dX5_most_50 : decode cX5_most 50 = .ok (.imul, 1) := by decide +kernel
theorem dX5_most_51 : decode cX5_most 51 = .ok (.goto 12, 3) := by decide +kernel
theorem dX5_most_54 : decode cX5_most 54 = .ok (.aload_n 0, 1) := by decide +kernel
theorem dX5_most_55 : decode cX5_most 55 = .ok (.iload 5, 2) := by decide +kernel
theorem dX5_most_57 : decode cX5_most 57 = .ok (.iload_n 1, 1) := by decide +kernel
theorem dX5_most_58 : decode cX5_most 58 = .ok (.iload_n 2, 1) := by decide +kernel
theorem dX5_most_59 : decode cX5_most 59 = .ok (.iload_n 3, 1) := by decide +kernel
theorem dX5_most_60 : decode cX5_most 60 = .ok (.invokevirtual 156, 3) := by decide +kernel
theorem dX5_most_63 : decode cX5_most 63 = .ok (.iadd, 1) := by decide +kernel
theorem dX5_most_64 : decode cX5_most 64 = .ok (.istore 4, 2) := by decide +kernel
theorem dX5_most_66 : decode cX5_most 66 = .ok (.iinc 5 1, 3) := by decide +kernel
theorem dX5_most_69 : decode cX5_most 69 = .ok (.goto (-46), 3) := by decide +kernel
theorem dX5_most_72 : decode cX5_most 72 = .ok (.iload 4, 2) := by decide +kernel
theorem dX5_most_74 : decode cX5_most 74 = .ok (.ireturn, 1) := by decide +kernel
theorem dX5_harm_0 : decode cX5_harm 0 = .ok (.iload_n 1, 1) := by decide +kernel
theorem dX5_harm_1 : decode cX5_harm 1 = .ok (.invokestatic 108, 3) := by decide +kernel
theorem dX5_harm_4 : decode cX5_harm 4 = .ok (.ifCond .eq 18, 3) := by decide +kernel
theorem dX5_harm_7 : decode cX5_harm 7 = .ok (.iload_n 2, 1) := by decide +kernel
theorem dX5_harm_8 : decode cX5_harm 8 = .ok (.invokestatic 97, 3) := by decide +kernel
theorem dX5_harm_11 : decode cX5_harm 11 = .ok (.ifCond .eq 11, 3) := by decide +kernel
theorem dX5_harm_14 : decode cX5_harm 14 = .ok (.aload_n 0, 1) := by decide +kernel
theorem dX5_harm_15 : decode cX5_harm 15 = .ok (.iload_n 3, 1) := by decide +kernel
theorem dX5_harm_16 : decode cX5_harm 16 = .ok (.invokevirtual 101, 3) := by decide +kernel
theorem dX5_harm_19 : decode cX5_harm 19 = .ok (.ifCond .ne 5, 3) := by decide +kernel
theorem dX5_harm_22 : decode cX5_harm 22 = .ok (.iconst (-1), 1) := by decide +kernel
theorem dX5_harm_23 : decode cX5_harm 23 = .ok (.ireturn, 1) := by decide +kernel
theorem dX5_harm_24 : decode cX5_harm 24 = .ok (.aload_n 0, 1) := by decide +kernel
theorem dX5_harm_25 : decode cX5_harm 25 = .ok (.iload_n 1, 1) := by decide +kernel
theorem dX5_harm_26 : decode cX5_harm 26 = .ok (.invokevirtual 160, 3) := by decide +kernel
theorem dX5_harm_29 : decode cX5_harm 29 = .ok (.ifCond .eq 5, 3) := by decide +kernel
theorem dX5_harm_32 : decode cX5_harm 32 = .ok (.iconst 3, 1) := by decide +kernel
theorem dX5_harm_33 : decode cX5_harm 33 = .ok (.ireturn, 1) := by decide +kernel
theorem dX5_harm_34 : decode cX5_harm 34 = .ok (.aload_n 0, 1) := by decide +kernel
theorem dX5_harm_35 : decode cX5_harm 35 = .ok (.iload_n 2, 1) := by decide +kernel
theorem dX5_harm_36 : decode cX5_harm 36 = .ok (.aload_n 0, 1) := by decide +kernel
theorem dX5_harm_37 : decode cX5_harm 37 = .ok (.getfield 17, 3) := by decide +kernel
theorem dX5_harm_40 : decode cX5_harm 40 = .ok (.iload_n 1, 1) := by decide +kernel
theorem dX5_harm_41 : decode cX5_harm 41 = .ok (.iaload, 1) := by decide +kernel
theorem dX5_harm_42 : decode cX5_harm 42 = .ok (.iload_n 3, 1) := by decide +kernel
theorem dX5_harm_43 : decode cX5_harm 43 = .ok (.invokevirtual 104, 3) := by decide +kernel
theorem dX5_harm_46 : decode cX5_harm 46 = .ok (.istore 4, 2) := by decide +kernel
theorem dX5_harm_48 : decode cX5_harm 48 = .ok (.iconst 0, 1) := by decide +kernel
theorem dX5_harm_49 : decode cX5_harm 49 = .ok (.istore 5, 2) := by decide +kernel
theorem dX5_harm_51 : decode cX5_harm 51 = .ok (.iconst 0, 1) := by decide +kernel
theorem dX5_harm_52 : decode cX5_harm 52 = .ok (.istore 6, 2) := by decide +kernel
theorem dX5_harm_54 : decode cX5_harm 54 = .ok (.iload 6, 2) := by decide +kernel
theorem dX5_harm_56 : decode cX5_harm 56 = .ok (.aload_n 0, 1) := by decide +kernel
theorem dX5_harm_57 : decode cX5_harm 57 = .ok (.getfield 20, 3) := by decide +kernel
theorem dX5_harm_60 : decode cX5_harm 60 = .ok (.iload_n 1, 1) := by decide +kernel
theorem dX5_harm_61 : decode cX5_harm 61 = .ok (.iaload, 1) := by decide +kernel
theorem dX5_harm_62 : decode cX5_harm 62 = .ok (.if_icmp .ge 78, 3) := by decide +kernel
theorem dX5_harm_65 : decode cX5_harm 65 = .ok (.aload_n 0, 1) := by decide +kernel
theorem dX5_harm_66 : decode cX5_harm 66 = .ok (.iload_n 1, 1) := by decide +kernel
theorem dX5_harm_67 : decode cX5_harm 67 = .ok (.iload 6, 2) := by decide +kernel
theorem dX5_harm_69 : decode cX5_harm 69 = .ok (.invokevirtual 141, 3) := by decide +kernel
theorem dX5_harm_72 : decode cX5_harm 72 = .ok (.aload_n 0, 1) := by decide +kernel
theorem dX5_harm_73 : decode cX5_harm 73 = .ok (.getfield 84, 3) := by decide +kernel
theorem dX5_harm_76 : decode cX5_harm 76 = .ok (.iload_n 2, 1) := by decide +kernel
theorem dX5_harm_77 : decode cX5_harm 77 = .ok (.iaload, 1) := by decide +kernel
theorem dX5_harm_78 : decode cX5_harm 78 = .ok (.ifCond .eq 15, 3) := by decide +kernel
theorem dX5_harm_81 : decode cX5_harm 81 = .ok (.aload_n 0, 1) := by decide +kernel
theorem dX5_harm_82 : decode cX5_harm 82 = .ok (.getfield 84, 3) := by decide +kernel
theorem dX5_harm_85 : decode cX5_harm 85 = .ok (.iload_n 2, 1) := by decide +kernel
theorem dX5_harm_86 : decode cX5_harm 86 = .ok (.iaload, 1) := by decide +kernel
theorem dX5_harm_87 : decode cX5_harm 87 = .ok (.iload 4, 2) := by decide +kernel
theorem dX5_harm_89 : decode cX5_harm 89 = .ok (.iand, 1) := by decide +kernel
theorem dX5_harm_90 : decode cX5_harm 90 = .ok (.ifCond .ne 7, 3) := by decide +kernel
theorem dX5_harm_93 : decode cX5_harm 93 = .ok (.iconst 0, 1) := by decide +kernel
theorem dX5_harm_94 : decode cX5_harm 94 = .ok (.goto 22, 3) := by decide +kernel
theorem dX5_harm_97 : decode cX5_harm 97 = .ok (.aload_n 0, 1) := by decide +kernel
theorem dX5_harm_98 : decode cX5_harm 98 = .ok (.getfield 84, 3) := by decide +kernel
theorem dX5_harm_101 : decode cX5_harm 101 = .ok (.iload_n 2, 1) := by decide +kernel
theorem dX5_harm_102 : decode cX5_harm 102 = .ok (.iaload, 1) := by decide +kernel
theorem dX5_harm_103 : decode cX5_harm 103 = .ok (.iload 4, 2) := by decide +kernel
theorem dX5_harm_105 : decode cX5_harm 105 = .ok (.iconst (-1), 1) := by decide +kernel
theorem dX5_harm_106 : decode cX5_harm 106 = .ok (.ixor, 1) := by decide +kernel
theorem dX5_harm_107 : decode cX5_harm 107 = .ok (.iand, 1) := by decide +kernel
theorem dX5_harm_108 : decode cX5_harm 108 = .ok (.ifCond .ne 7, 3) := by decide +kernel
theorem dX5_harm_111 : decode cX5_harm 111 = .ok (.iconst 2, 1) := by decide +kernel
theorem dX5_harm_112 : decode cX5_harm 112 = .ok (.goto 4, 3) := by decide +kernel
theorem dX5_harm_115 : decode cX5_harm 115 = .ok (.iconst 1, 1) := by decide +kernel
theorem dX5_harm_116 : decode cX5_harm 116 = .ok (.istore 7, 2) := by decide +kernel
theorem dX5_harm_118 : decode cX5_harm 118 = .ok (.iload 7, 2) := by decide +kernel
theorem dX5_harm_120 : decode cX5_harm 120 = .ok (.iload 5, 2) := by decide +kernel
theorem dX5_harm_122 : decode cX5_harm 122 = .ok (.if_icmp .le 8, 3) := by decide +kernel
theorem dX5_harm_125 : decode cX5_harm 125 = .ok (.iload 7, 2) := by decide +kernel
theorem dX5_harm_127 : decode cX5_harm 127 = .ok (.goto 5, 3) := by decide +kernel
theorem dX5_harm_130 : decode cX5_harm 130 = .ok (.iload 5, 2) := by decide +kernel
theorem dX5_harm_132 : decode cX5_harm 132 = .ok (.istore 5, 2) := by decide +kernel
theorem dX5_harm_134 : decode cX5_harm 134 = .ok (.iinc 6 1, 3) := by decide +kernel
theorem dX5_harm_137 : decode cX5_harm 137 = .ok (.goto (-83), 3) := by decide +kernel
theorem dX5_harm_140 : decode cX5_harm 140 = .ok (.iload 5, 2) := by decide +kernel
theorem dX5_harm_142 : decode cX5_harm 142 = .ok (.ireturn, 1) := by decide +kernel
theorem dX5_rule_0 : decode cX5_rule 0 = .ok (.iload_n 1, 1) := by decide +kernel
theorem dX5_rule_1 : decode cX5_rule 1 = .ok (.invokestatic 97, 3) := by decide +kernel
theorem dX5_rule_4 : decode cX5_rule 4 = .ok (.ifCond .eq 32, 3) := by decide +kernel
theorem dX5_rule_7 : decode cX5_rule 7 = .ok (.iload_n 2, 1) := by decide +kernel
theorem dX5_rule_8 : decode cX5_rule 8 = .ok (.iconst 1, 1) := by decide +kernel
theorem dX5_rule_9 : decode cX5_rule 9 = .ok (.sipush 255, 3) := by decide +kernel
theorem dX5_rule_12 : decode cX5_rule 12 = .ok (.invokestatic 93, 3) := by decide +kernel
theorem dX5_rule_15 : decode cX5_rule 15 = .ok (.ifCond .eq 21, 3) := by decide +kernel
theorem dX5_rule_18 : decode cX5_rule 18 = .ok (.iload_n 3, 1) := by decide +kernel
theorem dX5_rule_19 : decode cX5_rule 19 = .ok (.invokestatic 97, 3) := by decide +kernel
theorem dX5_rule_22 : decode cX5_rule 22 = .ok (.ifCond .eq 14, 3) := by decide +kernel
theorem dX5_rule_25 : decode cX5_rule 25 = .ok (.iload 4, 2) := by decide +kernel
theorem dX5_rule_27 : decode cX5_rule 27 = .ok (.iconst 0, 1) := by decide +kernel
theorem dX5_rule_28 : decode cX5_rule 28 = .ok (.bipush 7, 2) := by decide +kernel
theorem dX5_rule_30 : decode cX5_rule 30 = .ok (.invokestatic 93, 3) := by decide +kernel
theorem dX5_rule_33 : decode cX5_rule 33 = .ok (.ifCond .ne 5, 3) := by decide +kernel
theorem dX5_rule_36 : decode cX5_rule 36 = .ok (.iconst (-1), 1) := by decide +kernel
theorem dX5_rule_37 : decode cX5_rule 37 = .ok (.ireturn, 1) := by decide +kernel
theorem dX5_rule_38 : decode cX5_rule 38 = .ok (.aload_n 0, 1) := by decide +kernel
theorem dX5_rule_39 : decode cX5_rule 39 = .ok (.getfield 163, 3) := by decide +kernel
theorem dX5_rule_42 : decode cX5_rule 42 = .ok (.bipush 12, 2) := by decide +kernel
theorem dX5_rule_44 : decode cX5_rule 44 = .ok (.if_icmp .ne 6, 3) := by decide +kernel
theorem dX5_rule_47 : decode cX5_rule 47 = .ok (.bipush (-3), 2) := by decide +kernel
theorem dX5_rule_49 : decode cX5_rule 49 = .ok (.ireturn, 1) := by decide +kernel
theorem dX5_rule_50 : decode cX5_rule 50 = .ok (.aload_n 0, 1) := by decide +kernel
theorem dX5_rule_51 : decode cX5_rule 51 = .ok (.getfield 51, 3) := by decide +kernel
theorem dX5_rule_54 : decode cX5_rule 54 = .ok (.aload_n 0, 1) := by decide +kernel
theorem dX5_rule_55 : decode cX5_rule 55 = .ok (.getfield 163, 3) := by decide +kernel
theorem dX5_rule_58 : decode cX5_rule 58 = .ok (.iload_n 1, 1) := by decide +kernel
theorem dX5_rule_59 : decode cX5_rule 59 = .ok (.iastore, 1) := by decide +kernel
theorem dX5_rule_60 : decode cX5_rule 60 = .ok (.aload_n 0, 1) := by decide +kernel
theorem dX5_rule_61 : decode cX5_rule 61 = .ok (.getfield 54, 3) := by decide +kernel
theorem dX5_rule_64 : decode cX5_rule 64 = .ok (.aload_n 0, 1) := by decide +kernel
theorem dX5_rule_65 : decode cX5_rule 65 = .ok (.getfield 163, 3) := by decide +kernel
theorem dX5_rule_68 : decode cX5_rule 68 = .ok (.iload_n 2, 1) := by decide +kernel
theorem dX5_rule_69 : decode cX5_rule 69 = .ok (.iastore, 1) := by decide +kernel
theorem dX5_rule_70 : decode cX5_rule 70 = .ok (.aload_n 0, 1) := by decide +kernel
theorem dX5_rule_71 : decode cX5_rule 71 = .ok (.getfield 57, 3) := by decide +kernel
theorem dX5_rule_74 : decode cX5_rule 74 = .ok (.aload_n 0, 1) := by decide +kernel
theorem dX5_rule_75 : decode cX5_rule 75 = .ok (.getfield 163, 3) := by decide +kernel
theorem dX5_rule_78 : decode cX5_rule 78 = .ok (.iload_n 3, 1) := by decide +kernel
theorem dX5_rule_79 : decode cX5_rule 79 = .ok (.iastore, 1) := by decide +kernel
theorem dX5_rule_80 : decode cX5_rule 80 = .ok (.aload_n 0, 1) := by decide +kernel
theorem dX5_rule_81 : decode cX5_rule 81 = .ok (.getfield 60, 3) := by decide +kernel
theorem dX5_rule_84 : decode cX5_rule 84 = .ok (.aload_n 0, 1) := by decide +kernel
theorem dX5_rule_85 : decode cX5_rule 85 = .ok (.getfield 163, 3) := by decide +kernel
theorem dX5_rule_88 : decode cX5_rule 88 = .ok (.iload 4, 2) := by decide +kernel
theorem dX5_rule_90 : decode cX5_rule 90 = .ok (.iastore, 1) := by decide +kernel
theorem dX5_rule_91 : decode cX5_rule 91 = .ok (.aload_n 0, 1) := by decide +kernel
theorem dX5_rule_92 : decode cX5_rule 92 = .ok (.dup, 1) := by decide +kernel
theorem dX5_rule_93 : decode cX5_rule 93 = .ok (.getfield 163, 3) := by decide +kernel
theorem dX5_rule_96 : decode cX5_rule 96 = .ok (.iconst 1, 1) := by decide +kernel
theorem dX5_rule_97 : decode cX5_rule 97 = .ok (.iadd, 1) := by decide +kernel
theorem dX5_rule_98 : decode cX5_rule 98 = .ok (.putfield 163, 3) := by decide +kernel
theorem dX5_rule_101 : decode cX5_rule 101 = .ok (.aload_n 0, 1) := by decide +kernel
theorem dX5_rule_102 : decode cX5_rule 102 = .ok (.getfield 163, 3) := by decide +kernel
theorem dX5_rule_105 : decode cX5_rule 105 = .ok (.iconst 1, 1) := by decide +kernel
theorem dX5_rule_106 : decode cX5_rule 106 = .ok (.isub, 1) := by decide +kernel
theorem dX5_rule_107 : decode cX5_rule 107 = .ok (.ireturn, 1) := by decide +kernel
theorem dX5_isRule_0 : decode cX5_isRule 0 = .ok (.iload_n 1, 1) := by decide +kernel
theorem dX5_isRule_1 : decode cX5_isRule 1 = .ok (.iconst 0, 1) := by decide +kernel
theorem dX5_isRule_2 : decode cX5_isRule 2 = .ok (.aload_n 0, 1) := by decide +kernel
theorem dX5_isRule_3 : decode cX5_isRule 3 = .ok (.getfield 163, 3) := by decide +kernel
theorem dX5_isRule_6 : decode cX5_isRule 6 = .ok (.iconst 1, 1) := by decide +kernel
theorem dX5_isRule_7 : decode cX5_isRule 7 = .ok (.isub, 1) := by decide +kernel
theorem dX5_isRule_8 : decode cX5_isRule 8 = .ok (.invokestatic 93, 3) := by decide +kernel
theorem dX5_isRule_11 : decode cX5_isRule 11 = .ok (.ireturn, 1) := by decide +kernel
theorem dX5_holdsFrom_0 : decode cX5_holdsFrom 0 = .ok (.iconst 1, 1) := by decide +kernel
theorem dX5_holdsFrom_1 : decode cX5_holdsFrom 1 = .ok (.istore 4, 2) := by decide +kernel
theorem dX5_holdsFrom_3 : decode cX5_holdsFrom 3 = .ok (.iconst 0, 1) := by decide +kernel
theorem dX5_holdsFrom_4 : decode cX5_holdsFrom 4 = .ok (.istore 5, 2) := by decide +kernel
theorem dX5_holdsFrom_6 : decode cX5_holdsFrom 6 = .ok (.iload 5, 2) := by decide +kernel
theorem dX5_holdsFrom_8 : decode cX5_holdsFrom 8 = .ok (.bipush 8, 2) := by decide +kernel
theorem dX5_holdsFrom_10 : decode cX5_holdsFrom 10 = .ok (.if_icmp .ge 93, 3) := by decide +kernel
theorem dX5_holdsFrom_13 : decode cX5_holdsFrom 13 = .ok (.aload_n 0, 1) := by decide +kernel
theorem dX5_holdsFrom_14 : decode cX5_holdsFrom 14 = .ok (.getfield 54, 3) := by decide +kernel
theorem dX5_holdsFrom_17 : decode cX5_holdsFrom 17 = .ok (.iload_n 1, 1) := by decide +kernel
theorem dX5_holdsFrom_18 : decode cX5_holdsFrom 18 = .ok (.iaload, 1) := by decide +kernel
theorem dX5_holdsFrom_19 : decode cX5_holdsFrom 19 = .ok (.iload 5, 2) := by decide +kernel
theorem dX5_holdsFrom_21 : decode cX5_holdsFrom 21 = .ok (.ishr, 1) := by decide +kernel
theorem dX5_holdsFrom_22 : decode cX5_holdsFrom 22 = .ok (.iconst 1, 1) := by decide +kernel
theorem dX5_holdsFrom_23 : decode cX5_holdsFrom 23 = .ok (.iand, 1) := by decide +kernel
theorem dX5_holdsFrom_24 : decode cX5_holdsFrom 24 = .ok (.iconst 1, 1) := by decide +kernel
theorem dX5_holdsFrom_25 : decode cX5_holdsFrom 25 = .ok (.if_icmp .ne 72, 3) := by decide +kernel
theorem dX5_holdsFrom_28 : decode cX5_holdsFrom 28 = .ok (.iload 4, 2) := by decide +kernel
theorem dX5_holdsFrom_30 : decode cX5_holdsFrom 30 = .ok (.ifCond .eq 64, 3) := by decide +kernel
theorem dX5_holdsFrom_33 : decode cX5_holdsFrom 33 = .ok (.aload_n 0, 1) := by decide +kernel
theorem dX5_holdsFrom_34 : decode cX5_holdsFrom 34 = .ok (.getfield 13, 3) := by decide +kernel
theorem dX5_holdsFrom_37 : decode cX5_holdsFrom 37 = .ok (.bipush 40, 2) := by decide +kernel
theorem dX5_holdsFrom_39 : decode cX5_holdsFrom 39 = .ok (.aload_n 0, 1) := by decide +kernel
theorem dX5_holdsFrom_40 : decode cX5_holdsFrom 40 = .ok (.getfield 51, 3) := by decide +kernel
theorem dX5_holdsFrom_43 : decode cX5_holdsFrom 43 = .ok (.iload_n 1, 1) := by decide +kernel
theorem dX5_holdsFrom_44 : decode cX5_holdsFrom 44 = .ok (.iaload, 1) := by decide +kernel
theorem dX5_holdsFrom_45 : decode cX5_holdsFrom 45 = .ok (.imul, 1) := by decide +kernel
theorem dX5_holdsFrom_46 : decode cX5_holdsFrom 46 = .ok (.bipush 8, 2) := by decide +kernel
theorem dX5_holdsFrom_48 : decode cX5_holdsFrom 48 = .ok (.iload_n 2, 1) := by decide +kernel
theorem dX5_holdsFrom_49 : decode cX5_holdsFrom 49 = .ok (.imul, 1) := by decide +kernel
theorem dX5_holdsFrom_50 : decode cX5_holdsFrom 50 = .ok (.iadd, 1) := by decide +kernel
theorem dX5_holdsFrom_51 : decode cX5_holdsFrom 51 = .ok (.iload 5, 2) := by decide +kernel
theorem dX5_holdsFrom_53 : decode cX5_holdsFrom 53 = .ok (.iadd, 1) := by decide +kernel
theorem dX5_holdsFrom_54 : decode cX5_holdsFrom 54 = .ok (.iaload, 1) := by decide +kernel
theorem dX5_holdsFrom_55 : decode cX5_holdsFrom 55 = .ok (.aload_n 0, 1) := by decide +kernel
theorem dX5_holdsFrom_56 : decode cX5_holdsFrom 56 = .ok (.getfield 13, 3) := by decide +kernel
theorem dX5_holdsFrom_59 : decode cX5_holdsFrom 59 = .ok (.bipush 40, 2) := by decide +kernel
theorem dX5_holdsFrom_61 : decode cX5_holdsFrom 61 = .ok (.aload_n 0, 1) := by decide +kernel
theorem dX5_holdsFrom_62 : decode cX5_holdsFrom 62 = .ok (.getfield 57, 3) := by decide +kernel
theorem dX5_holdsFrom_65 : decode cX5_holdsFrom 65 = .ok (.iload_n 1, 1) := by decide +kernel
theorem dX5_holdsFrom_66 : decode cX5_holdsFrom 66 = .ok (.iaload, 1) := by decide +kernel
theorem dX5_holdsFrom_67 : decode cX5_holdsFrom 67 = .ok (.imul, 1) := by decide +kernel
theorem dX5_holdsFrom_68 : decode cX5_holdsFrom 68 = .ok (.bipush 8, 2) := by decide +kernel
theorem dX5_holdsFrom_70 : decode cX5_holdsFrom 70 = .ok (.iload_n 3, 1) := by decide +kernel
theorem dX5_holdsFrom_71 : decode cX5_holdsFrom 71 = .ok (.imul, 1) := by decide +kernel
theorem dX5_holdsFrom_72 : decode cX5_holdsFrom 72 = .ok (.iadd, 1) := by decide +kernel
theorem dX5_holdsFrom_73 : decode cX5_holdsFrom 73 = .ok (.iload 5, 2) := by decide +kernel
theorem dX5_holdsFrom_75 : decode cX5_holdsFrom 75 = .ok (.aload_n 0, 1) := by decide +kernel
theorem dX5_holdsFrom_76 : decode cX5_holdsFrom 76 = .ok (.getfield 60, 3) := by decide +kernel
theorem dX5_holdsFrom_79 : decode cX5_holdsFrom 79 = .ok (.iload_n 1, 1) := by decide +kernel
theorem dX5_holdsFrom_80 : decode cX5_holdsFrom 80 = .ok (.iaload, 1) := by decide +kernel
theorem dX5_holdsFrom_81 : decode cX5_holdsFrom 81 = .ok (.iadd, 1) := by decide +kernel
theorem dX5_holdsFrom_82 : decode cX5_holdsFrom 82 = .ok (.bipush 8, 2) := by decide +kernel
theorem dX5_holdsFrom_84 : decode cX5_holdsFrom 84 = .ok (.irem, 1) := by decide +kernel
theorem dX5_holdsFrom_85 : decode cX5_holdsFrom 85 = .ok (.iadd, 1) := by decide +kernel
theorem dX5_holdsFrom_86 : decode cX5_holdsFrom 86 = .ok (.iaload, 1) := by decide +kernel
theorem dX5_holdsFrom_87 : decode cX5_holdsFrom 87 = .ok (.if_icmp .ne 7, 3) := by decide +kernel
theorem dX5_holdsFrom_90 : decode cX5_holdsFrom 90 = .ok (.iconst 1, 1) := by decide +kernel
theorem dX5_holdsFrom_91 : decode cX5_holdsFrom 91 = .ok (.goto 4, 3) := by decide +kernel
theorem dX5_holdsFrom_94 : decode cX5_holdsFrom 94 = .ok (.iconst 0, 1) := by decide +kernel
theorem dX5_holdsFrom_95 : decode cX5_holdsFrom 95 = .ok (.istore 4, 2) := by decide +kernel
theorem dX5_holdsFrom_97 : decode cX5_holdsFrom 97 = .ok (.iinc 5 1, 3) := by decide +kernel
theorem dX5_holdsFrom_100 : decode cX5_holdsFrom 100 = .ok (.goto (-94), 3) := by decide +kernel
theorem dX5_holdsFrom_103 : decode cX5_holdsFrom 103 = .ok (.iload 4, 2) := by decide +kernel
theorem dX5_holdsFrom_105 : decode cX5_holdsFrom 105 = .ok (.ireturn, 1) := by decide +kernel
theorem dX5_holds_0 : decode cX5_holds 0 = .ok (.aload_n 0, 1) := by decide +kernel
theorem dX5_holds_1 : decode cX5_holds 1 = .ok (.iload_n 1, 1) := by decide +kernel
theorem dX5_holds_2 : decode cX5_holds 2 = .ok (.invokevirtual 166, 3) := by decide +kernel
theorem dX5_holds_5 : decode cX5_holds 5 = .ok (.ifCond .eq 19, 3) := by decide +kernel
theorem dX5_holds_8 : decode cX5_holds 8 = .ok (.aload_n 0, 1) := by decide +kernel
theorem dX5_holds_9 : decode cX5_holds 9 = .ok (.iload_n 2, 1) := by decide +kernel
theorem dX5_holds_10 : decode cX5_holds 10 = .ok (.invokevirtual 101, 3) := by decide +kernel
theorem dX5_holds_13 : decode cX5_holds 13 = .ok (.ifCond .eq 11, 3) := by decide +kernel
theorem dX5_holds_16 : decode cX5_holds 16 = .ok (.aload_n 0, 1) := by decide +kernel
theorem dX5_holds_17 : decode cX5_holds 17 = .ok (.iload_n 3, 1) := by decide +kernel
theorem dX5_holds_18 : decode cX5_holds 18 = .ok (.invokevirtual 101, 3) := by decide +kernel
theorem dX5_holds_21 : decode cX5_holds 21 = .ok (.ifCond .ne 7, 3) := by decide +kernel
theorem dX5_holds_24 : decode cX5_holds 24 = .ok (.iconst (-1), 1) := by decide +kernel
theorem dX5_holds_25 : decode cX5_holds 25 = .ok (.goto 18, 3) := by decide +kernel
theorem dX5_holds_28 : decode cX5_holds 28 = .ok (.aload_n 0, 1) := by decide +kernel
theorem dX5_holds_29 : decode cX5_holds 29 = .ok (.iload_n 1, 1) := by decide +kernel
theorem dX5_holds_30 : decode cX5_holds 30 = .ok (.iload_n 2, 1) := by decide +kernel
theorem dX5_holds_31 : decode cX5_holds 31 = .ok (.iload_n 3, 1) := by decide +kernel
theorem dX5_holds_32 : decode cX5_holds 32 = .ok (.invokevirtual 169, 3) := by decide +kernel
theorem dX5_holds_35 : decode cX5_holds 35 = .ok (.ifCond .eq 7, 3) := by decide +kernel
theorem dX5_holds_38 : decode cX5_holds 38 = .ok (.iconst 1, 1) := by decide +kernel
theorem dX5_holds_39 : decode cX5_holds 39 = .ok (.goto 4, 3) := by decide +kernel
theorem dX5_holds_42 : decode cX5_holds 42 = .ok (.iconst 0, 1) := by decide +kernel
theorem dX5_holds_43 : decode cX5_holds 43 = .ok (.ireturn, 1) := by decide +kernel
theorem dX5_clash_0 : decode cX5_clash 0 = .ok (.aload_n 0, 1) := by decide +kernel
theorem dX5_clash_1 : decode cX5_clash 1 = .ok (.iload_n 1, 1) := by decide +kernel
theorem dX5_clash_2 : decode cX5_clash 2 = .ok (.invokevirtual 166, 3) := by decide +kernel
theorem dX5_clash_5 : decode cX5_clash 5 = .ok (.ifCond .eq 11, 3) := by decide +kernel
theorem dX5_clash_8 : decode cX5_clash 8 = .ok (.aload_n 0, 1) := by decide +kernel
theorem dX5_clash_9 : decode cX5_clash 9 = .ok (.iload_n 2, 1) := by decide +kernel
theorem dX5_clash_10 : decode cX5_clash 10 = .ok (.invokevirtual 166, 3) := by decide +kernel
theorem dX5_clash_13 : decode cX5_clash 13 = .ok (.ifCond .ne 5, 3) := by decide +kernel
theorem dX5_clash_16 : decode cX5_clash 16 = .ok (.iconst (-1), 1) := by decide +kernel
theorem dX5_clash_17 : decode cX5_clash 17 = .ok (.ireturn, 1) := by decide +kernel
theorem dX5_clash_18 : decode cX5_clash 18 = .ok (.aload_n 0, 1) := by decide +kernel
theorem dX5_clash_19 : decode cX5_clash 19 = .ok (.getfield 51, 3) := by decide +kernel
theorem dX5_clash_22 : decode cX5_clash 22 = .ok (.iload_n 1, 1) := by decide +kernel
theorem dX5_clash_23 : decode cX5_clash 23 = .ok (.iaload, 1) := by decide +kernel
theorem dX5_clash_24 : decode cX5_clash 24 = .ok (.aload_n 0, 1) := by decide +kernel
theorem dX5_clash_25 : decode cX5_clash 25 = .ok (.getfield 51, 3) := by decide +kernel
theorem dX5_clash_28 : decode cX5_clash 28 = .ok (.iload_n 2, 1) := by decide +kernel
theorem dX5_clash_29 : decode cX5_clash 29 = .ok (.iaload, 1) := by decide +kernel
theorem dX5_clash_30 : decode cX5_clash 30 = .ok (.if_icmp .ne 23, 3) := by decide +kernel
theorem dX5_clash_33 : decode cX5_clash 33 = .ok (.aload_n 0, 1) := by decide +kernel
theorem dX5_clash_34 : decode cX5_clash 34 = .ok (.getfield 54, 3) := by decide +kernel
theorem dX5_clash_37 : decode cX5_clash 37 = .ok (.iload_n 1, 1) := by decide +kernel
theorem dX5_clash_38 : decode cX5_clash 38 = .ok (.iaload, 1) := by decide +kernel
theorem dX5_clash_39 : decode cX5_clash 39 = .ok (.aload_n 0, 1) := by decide +kernel
theorem dX5_clash_40 : decode cX5_clash 40 = .ok (.getfield 54, 3) := by decide +kernel
theorem dX5_clash_43 : decode cX5_clash 43 = .ok (.iload_n 2, 1) := by decide +kernel
theorem dX5_clash_44 : decode cX5_clash 44 = .ok (.iaload, 1) := by decide +kernel
theorem dX5_clash_45 : decode cX5_clash 45 = .ok (.iand, 1) := by decide +kernel
theorem dX5_clash_46 : decode cX5_clash 46 = .ok (.ifCond .eq 7, 3) := by decide +kernel
theorem dX5_clash_49 : decode cX5_clash 49 = .ok (.iconst 1, 1) := by decide +kernel
theorem dX5_clash_50 : decode cX5_clash 50 = .ok (.goto 4, 3) := by decide +kernel
theorem dX5_clash_53 : decode cX5_clash 53 = .ok (.iconst 0, 1) := by decide +kernel
theorem dX5_clash_54 : decode cX5_clash 54 = .ok (.istore_n 3, 1) := by decide +kernel
theorem dX5_clash_55 : decode cX5_clash 55 = .ok (.iload_n 3, 1) := by decide +kernel
theorem dX5_clash_56 : decode cX5_clash 56 = .ok (.ifCond .eq 37, 3) := by decide +kernel
theorem dX5_clash_59 : decode cX5_clash 59 = .ok (.aload_n 0, 1) := by decide +kernel
theorem dX5_clash_60 : decode cX5_clash 60 = .ok (.getfield 57, 3) := by decide +kernel
theorem dX5_clash_63 : decode cX5_clash 63 = .ok (.iload_n 1, 1) := by decide +kernel
theorem dX5_clash_64 : decode cX5_clash 64 = .ok (.iaload, 1) := by decide +kernel
theorem dX5_clash_65 : decode cX5_clash 65 = .ok (.aload_n 0, 1) := by decide +kernel
theorem dX5_clash_66 : decode cX5_clash 66 = .ok (.getfield 57, 3) := by decide +kernel
theorem dX5_clash_69 : decode cX5_clash 69 = .ok (.iload_n 2, 1) := by decide +kernel
theorem dX5_clash_70 : decode cX5_clash 70 = .ok (.iaload, 1) := by decide +kernel
theorem dX5_clash_71 : decode cX5_clash 71 = .ok (.if_icmp .ne 18, 3) := by decide +kernel
theorem dX5_clash_74 : decode cX5_clash 74 = .ok (.aload_n 0, 1) := by decide +kernel
theorem dX5_clash_75 : decode cX5_clash 75 = .ok (.getfield 60, 3) := by decide +kernel
theorem dX5_clash_78 : decode cX5_clash 78 = .ok (.iload_n 1, 1) := by decide +kernel
theorem dX5_clash_79 : decode cX5_clash 79 = .ok (.iaload, 1) := by decide +kernel
theorem dX5_clash_80 : decode cX5_clash 80 = .ok (.aload_n 0, 1) := by decide +kernel
theorem dX5_clash_81 : decode cX5_clash 81 = .ok (.getfield 60, 3) := by decide +kernel
theorem dX5_clash_84 : decode cX5_clash 84 = .ok (.iload_n 2, 1) := by decide +kernel
theorem dX5_clash_85 : decode cX5_clash 85 = .ok (.iaload, 1) := by decide +kernel
theorem dX5_clash_86 : decode cX5_clash 86 = .ok (.if_icmp .eq 7, 3) := by decide +kernel
theorem dX5_clash_89 : decode cX5_clash 89 = .ok (.iconst 1, 1) := by decide +kernel
theorem dX5_clash_90 : decode cX5_clash 90 = .ok (.goto 4, 3) := by decide +kernel
theorem dX5_clash_93 : decode cX5_clash 93 = .ok (.iconst 0, 1) := by decide +kernel
theorem dX5_clash_94 : decode cX5_clash 94 = .ok (.ireturn, 1) := by decide +kernel
theorem dX5_left_0 : decode cX5_left 0 = .ok (.iload_n 1, 1) := by decide +kernel
theorem dX5_left_1 : decode cX5_left 1 = .ok (.invokestatic 108, 3) := by decide +kernel
theorem dX5_left_4 : decode cX5_left 4 = .ok (.ifCond .eq 18, 3) := by decide +kernel
theorem dX5_left_7 : decode cX5_left 7 = .ok (.iload_n 2, 1) := by decide +kernel
theorem dX5_left_8 : decode cX5_left 8 = .ok (.invokestatic 97, 3) := by decide +kernel
theorem dX5_left_11 : decode cX5_left 11 = .ok (.ifCond .eq 11, 3) := by decide +kernel
theorem dX5_left_14 : decode cX5_left 14 = .ok (.aload_n 0, 1) := by decide +kernel
theorem dX5_left_15 : decode cX5_left 15 = .ok (.iload_n 3, 1) := by decide +kernel
theorem dX5_left_16 : decode cX5_left 16 = .ok (.invokevirtual 101, 3) := by decide +kernel
theorem dX5_left_19 : decode cX5_left 19 = .ok (.ifCond .ne 5, 3) := by decide +kernel
theorem dX5_left_22 : decode cX5_left 22 = .ok (.iconst (-1), 1) := by decide +kernel
theorem dX5_left_23 : decode cX5_left 23 = .ok (.ireturn, 1) := by decide +kernel
theorem dX5_left_24 : decode cX5_left 24 = .ok (.aload_n 0, 1) := by decide +kernel
theorem dX5_left_25 : decode cX5_left 25 = .ok (.iload_n 1, 1) := by decide +kernel
theorem dX5_left_26 : decode cX5_left 26 = .ok (.iload_n 2, 1) := by decide +kernel
theorem dX5_left_27 : decode cX5_left 27 = .ok (.invokevirtual 147, 3) := by decide +kernel
theorem dX5_left_30 : decode cX5_left 30 = .ok (.aload_n 0, 1) := by decide +kernel
theorem dX5_left_31 : decode cX5_left 31 = .ok (.iload_n 2, 1) := by decide +kernel
theorem dX5_left_32 : decode cX5_left 32 = .ok (.aload_n 0, 1) := by decide +kernel
theorem dX5_left_33 : decode cX5_left 33 = .ok (.getfield 17, 3) := by decide +kernel
theorem dX5_left_36 : decode cX5_left 36 = .ok (.iload_n 1, 1) := by decide +kernel
theorem dX5_left_37 : decode cX5_left 37 = .ok (.iaload, 1) := by decide +kernel
theorem dX5_left_38 : decode cX5_left 38 = .ok (.iload_n 3, 1) := by decide +kernel
theorem dX5_left_39 : decode cX5_left 39 = .ok (.invokevirtual 104, 3) := by decide +kernel
theorem dX5_left_42 : decode cX5_left 42 = .ok (.iand, 1) := by decide +kernel
theorem dX5_left_43 : decode cX5_left 43 = .ok (.istore 4, 2) := by decide +kernel
theorem dX5_left_45 : decode cX5_left 45 = .ok (.iconst 0, 1) := by decide +kernel
theorem dX5_left_46 : decode cX5_left 46 = .ok (.istore 5, 2) := by decide +kernel
theorem dX5_left_48 : decode cX5_left 48 = .ok (.iload 5, 2) := by decide +kernel
theorem dX5_left_50 : decode cX5_left 50 = .ok (.aload_n 0, 1) := by decide +kernel
theorem dX5_left_51 : decode cX5_left 51 = .ok (.getfield 163, 3) := by decide +kernel
theorem dX5_left_54 : decode cX5_left 54 = .ok (.if_icmp .ge 56, 3) := by decide +kernel
theorem dX5_left_57 : decode cX5_left 57 = .ok (.iload 4, 2) := by decide +kernel
theorem dX5_left_59 : decode cX5_left 59 = .ok (.aload_n 0, 1) := by decide +kernel
theorem dX5_left_60 : decode cX5_left 60 = .ok (.getfield 51, 3) := by decide +kernel
theorem dX5_left_63 : decode cX5_left 63 = .ok (.iload 5, 2) := by decide +kernel
theorem dX5_left_65 : decode cX5_left 65 = .ok (.iaload, 1) := by decide +kernel
theorem dX5_left_66 : decode cX5_left 66 = .ok (.iload_n 2, 1) := by decide +kernel
theorem dX5_left_67 : decode cX5_left 67 = .ok (.if_icmp .ne 31, 3) := by decide +kernel
theorem dX5_left_70 : decode cX5_left 70 = .ok (.aload_n 0, 1) := by decide +kernel
theorem dX5_left_71 : decode cX5_left 71 = .ok (.iload 5, 2) := by decide +kernel
theorem dX5_left_73 : decode cX5_left 73 = .ok (.aload_n 0, 1) := by decide +kernel
theorem dX5_left_74 : decode cX5_left 74 = .ok (.getfield 17, 3) := by decide +kernel
theorem dX5_left_77 : decode cX5_left 77 = .ok (.iload_n 1, 1) := by decide +kernel
theorem dX5_left_78 : decode cX5_left 78 = .ok (.iaload, 1) := by decide +kernel
theorem dX5_left_79 : decode cX5_left 79 = .ok (.iload_n 3, 1) := by decide +kernel
theorem dX5_left_80 : decode cX5_left 80 = .ok (.invokevirtual 169, 3) := by decide +kernel
theorem dX5_left_83 : decode cX5_left 83 = .ok (.ifCond .eq 15, 3) := by decide +kernel
theorem dX5_left_86 : decode cX5_left 86 = .ok (.aload_n 0, 1) := by decide +kernel
theorem dX5_left_87 : decode cX5_left 87 = .ok (.getfield 54, 3) := by decide +kernel
theorem dX5_left_90 : decode cX5_left 90 = .ok (.iload 5, 2) := by decide +kernel
theorem dX5_left_92 : decode cX5_left 92 = .ok (.iaload, 1) := by decide +kernel
theorem dX5_left_93 : decode cX5_left 93 = .ok (.iconst (-1), 1) := by decide +kernel
theorem dX5_left_94 : decode cX5_left 94 = .ok (.ixor, 1) := by decide +kernel
theorem dX5_left_95 : decode cX5_left 95 = .ok (.goto 6, 3) := by decide +kernel
theorem dX5_left_98 : decode cX5_left 98 = .ok (.sipush 255, 3) := by decide +kernel
theorem dX5_left_101 : decode cX5_left 101 = .ok (.iand, 1) := by decide +kernel
theorem dX5_left_102 : decode cX5_left 102 = .ok (.istore 4, 2) := by decide +kernel
theorem dX5_left_104 : decode cX5_left 104 = .ok (.iinc 5 1, 3) := by decide +kernel
theorem dX5_left_107 : decode cX5_left 107 = .ok (.goto (-59), 3) := by decide +kernel
theorem dX5_left_110 : decode cX5_left 110 = .ok (.iload 4, 2) := by decide +kernel
theorem dX5_left_112 : decode cX5_left 112 = .ok (.ireturn, 1) := by decide +kernel
theorem dX5_days_0 : decode cX5_days 0 = .ok (.iload_n 1, 1) := by decide +kernel
theorem dX5_days_1 : decode cX5_days 1 = .ok (.iconst 1, 1) := by decide +kernel
theorem dX5_days_2 : decode cX5_days 2 = .ok (.bipush 20, 2) := by decide +kernel
theorem dX5_days_4 : decode cX5_days 4 = .ok (.invokestatic 93, 3) := by decide +kernel
theorem dX5_days_7 : decode cX5_days 7 = .ok (.ifCond .ne 5, 3) := by decide +kernel
theorem dX5_days_10 : decode cX5_days 10 = .ok (.iconst (-1), 1) := by decide +kernel
theorem dX5_days_11 : decode cX5_days 11 = .ok (.ireturn, 1) := by decide +kernel
theorem dX5_days_12 : decode cX5_days 12 = .ok (.aload_n 0, 1) := by decide +kernel
theorem dX5_days_13 : decode cX5_days 13 = .ok (.getfield 90, 3) := by decide +kernel
theorem dX5_days_16 : decode cX5_days 16 = .ok (.iload_n 1, 1) := by decide +kernel
theorem dX5_days_17 : decode cX5_days 17 = .ok (.iadd, 1) := by decide +kernel
theorem dX5_days_18 : decode cX5_days 18 = .ok (.bipush 40, 2) := by decide +kernel
theorem dX5_days_20 : decode cX5_days 20 = .ok (.if_icmp .lt 6, 3) := by decide +kernel
theorem dX5_days_23 : decode cX5_days 23 = .ok (.bipush (-2), 2) := by decide +kernel
theorem dX5_days_25 : decode cX5_days 25 = .ok (.ireturn, 1) := by decide +kernel
theorem dX5_days_26 : decode cX5_days 26 = .ok (.aload_n 0, 1) := by decide +kernel
theorem dX5_days_27 : decode cX5_days 27 = .ok (.dup, 1) := by decide +kernel
theorem dX5_days_28 : decode cX5_days 28 = .ok (.getfield 90, 3) := by decide +kernel
theorem dX5_days_31 : decode cX5_days 31 = .ok (.iload_n 1, 1) := by decide +kernel
theorem dX5_days_32 : decode cX5_days 32 = .ok (.iadd, 1) := by decide +kernel
theorem dX5_days_33 : decode cX5_days 33 = .ok (.putfield 90, 3) := by decide +kernel
theorem dX5_days_36 : decode cX5_days 36 = .ok (.aload_n 0, 1) := by decide +kernel
theorem dX5_days_37 : decode cX5_days 37 = .ok (.getfield 90, 3) := by decide +kernel
theorem dX5_days_40 : decode cX5_days 40 = .ok (.ireturn, 1) := by decide +kernel
theorem dX5_latest_0 : decode cX5_latest 0 = .ok (.iconst 0, 1) := by decide +kernel
theorem dX5_latest_1 : decode cX5_latest 1 = .ok (.istore_n 2, 1) := by decide +kernel
theorem dX5_latest_2 : decode cX5_latest 2 = .ok (.iconst 0, 1) := by decide +kernel
theorem dX5_latest_3 : decode cX5_latest 3 = .ok (.istore_n 3, 1) := by decide +kernel
theorem dX5_latest_4 : decode cX5_latest 4 = .ok (.iload_n 3, 1) := by decide +kernel
theorem dX5_latest_5 : decode cX5_latest 5 = .ok (.bipush 6, 2) := by decide +kernel
theorem dX5_latest_7 : decode cX5_latest 7 = .ok (.if_icmp .ge 40, 3) := by decide +kernel
theorem dX5_latest_10 : decode cX5_latest 10 = .ok (.aload_n 0, 1) := by decide +kernel
theorem dX5_latest_11 : decode cX5_latest 11 = .ok (.getfield 63, 3) := by decide +kernel
theorem dX5_latest_14 : decode cX5_latest 14 = .ok (.bipush 6, 2) := by decide +kernel
theorem dX5_latest_16 : decode cX5_latest 16 = .ok (.iload_n 1, 1) := by decide +kernel
theorem dX5_latest_17 : decode cX5_latest 17 = .ok (.imul, 1) := by decide +kernel
theorem dX5_latest_18 : decode cX5_latest 18 = .ok (.iload_n 3, 1) := by decide +kernel
theorem dX5_latest_19 : decode cX5_latest 19 = .ok (.iadd, 1) := by decide +kernel
theorem dX5_latest_20 : decode cX5_latest 20 = .ok (.iaload, 1) := by decide +kernel
theorem dX5_latest_21 : decode cX5_latest 21 = .ok (.iload_n 2, 1) := by decide +kernel
theorem dX5_latest_22 : decode cX5_latest 22 = .ok (.if_icmp .le 17, 3) := by decide +kernel
theorem dX5_latest_25 : decode cX5_latest 25 = .ok (.aload_n 0, 1) := by decide +kernel
theorem dX5_latest_26 : decode cX5_latest 26 = .ok (.getfield 63, 3) := by decide +kernel
theorem dX5_latest_29 : decode cX5_latest 29 = .ok (.bipush 6, 2) := by decide +kernel
theorem dX5_latest_31 : decode cX5_latest 31 = .ok (.iload_n 1, 1) := by decide +kernel
theorem dX5_latest_32 : decode cX5_latest 32 = .ok (.imul, 1) := by decide +kernel
theorem dX5_latest_33 : decode cX5_latest 33 = .ok (.iload_n 3, 1) := by decide +kernel
theorem dX5_latest_34 : decode cX5_latest 34 = .ok (.iadd, 1) := by decide +kernel
theorem dX5_latest_35 : decode cX5_latest 35 = .ok (.iaload, 1) := by decide +kernel
theorem dX5_latest_36 : decode cX5_latest 36 = .ok (.goto 4, 3) := by decide +kernel
theorem dX5_latest_39 : decode cX5_latest 39 = .ok (.iload_n 2, 1) := by decide +kernel
theorem dX5_latest_40 : decode cX5_latest 40 = .ok (.istore_n 2, 1) := by decide +kernel
theorem dX5_latest_41 : decode cX5_latest 41 = .ok (.iinc 3 1, 3) := by decide +kernel
theorem dX5_latest_44 : decode cX5_latest 44 = .ok (.goto (-40), 3) := by decide +kernel
theorem dX5_latest_47 : decode cX5_latest 47 = .ok (.iload_n 2, 1) := by decide +kernel
theorem dX5_latest_48 : decode cX5_latest 48 = .ok (.invokestatic 172, 3) := by decide +kernel
theorem dX5_latest_51 : decode cX5_latest 51 = .ok (.ireturn, 1) := by decide +kernel
theorem dX5_promise_0 : decode cX5_promise 0 = .ok (.iload_n 1, 1) := by decide +kernel
theorem dX5_promise_1 : decode cX5_promise 1 = .ok (.invokestatic 97, 3) := by decide +kernel
theorem dX5_promise_4 : decode cX5_promise 4 = .ok (.ifCond .eq 26, 3) := by decide +kernel
theorem dX5_promise_7 : decode cX5_promise 7 = .ok (.iload_n 2, 1) := by decide +kernel
theorem dX5_promise_8 : decode cX5_promise 8 = .ok (.invokestatic 108, 3) := by decide +kernel
theorem dX5_promise_11 : decode cX5_promise 11 = .ok (.ifCond .eq 19, 3) := by decide +kernel
theorem dX5_promise_14 : decode cX5_promise 14 = .ok (.iload_n 3, 1) := by decide +kernel
theorem dX5_promise_15 : decode cX5_promise 15 = .ok (.bipush (-9), 2) := by decide +kernel
theorem dX5_promise_17 : decode cX5_promise 17 = .ok (.if_icmp .eq 16, 3) := by decide +kernel
theorem dX5_promise_20 : decode cX5_promise 20 = .ok (.iload_n 3, 1) := by decide +kernel
theorem dX5_promise_21 : decode cX5_promise 21 = .ok (.iconst 0, 1) := by decide +kernel
theorem dX5_promise_22 : decode cX5_promise 22 = .ok (.bipush 39, 2) := by decide +kernel
theorem dX5_promise_24 : decode cX5_promise 24 = .ok (.invokestatic 93, 3) := by decide +kernel
theorem dX5_promise_27 : decode cX5_promise 27 = .ok (.ifCond .ne 6, 3) := by decide +kernel
theorem dX5_promise_30 : decode cX5_promise 30 = .ok (.bipush (-2), 2) := by decide +kernel
theorem dX5_promise_32 : decode cX5_promise 32 = .ok (.ireturn, 1) := by decide +kernel
theorem dX5_promise_33 : decode cX5_promise 33 = .ok (.aload_n 0, 1) := by decide +kernel
theorem dX5_promise_34 : decode cX5_promise 34 = .ok (.iload_n 1, 1) := by decide +kernel
theorem dX5_promise_35 : decode cX5_promise 35 = .ok (.invokevirtual 150, 3) := by decide +kernel
theorem dX5_promise_38 : decode cX5_promise 38 = .ok (.ifCond .eq 6, 3) := by decide +kernel
theorem dX5_promise_41 : decode cX5_promise 41 = .ok (.bipush (-3), 2) := by decide +kernel
theorem dX5_promise_43 : decode cX5_promise 43 = .ok (.ireturn, 1) := by decide +kernel
theorem dX5_promise_44 : decode cX5_promise 44 = .ok (.aload_n 0, 1) := by decide +kernel
theorem dX5_promise_45 : decode cX5_promise 45 = .ok (.getfield 63, 3) := by decide +kernel
theorem dX5_promise_48 : decode cX5_promise 48 = .ok (.bipush 6, 2) := by decide +kernel
theorem dX5_promise_50 : decode cX5_promise 50 = .ok (.iload_n 1, 1) := by decide +kernel
theorem dX5_promise_51 : decode cX5_promise 51 = .ok (.imul, 1) := by decide +kernel
theorem dX5_promise_52 : decode cX5_promise 52 = .ok (.iload_n 2, 1) := by decide +kernel
theorem dX5_promise_53 : decode cX5_promise 53 = .ok (.iadd, 1) := by decide +kernel
theorem dX5_promise_54 : decode cX5_promise 54 = .ok (.iaload, 1) := by decide +kernel
theorem dX5_promise_55 : decode cX5_promise 55 = .ok (.invokestatic 172, 3) := by decide +kernel
theorem dX5_promise_58 : decode cX5_promise 58 = .ok (.istore 4, 2) := by decide +kernel
theorem dX5_promise_60 : decode cX5_promise 60 = .ok (.aload_n 0, 1) := by decide +kernel
theorem dX5_promise_61 : decode cX5_promise 61 = .ok (.getfield 63, 3) := by decide +kernel
theorem dX5_promise_64 : decode cX5_promise 64 = .ok (.bipush 6, 2) := by decide +kernel
theorem dX5_promise_66 : decode cX5_promise 66 = .ok (.iload_n 1, 1) := by decide +kernel
theorem dX5_promise_67 : decode cX5_promise 67 = .ok (.imul, 1) := by decide +kernel
theorem dX5_promise_68 : decode cX5_promise 68 = .ok (.iload_n 2, 1) := by decide +kernel
theorem dX5_promise_69 : decode cX5_promise 69 = .ok (.iadd, 1) := by decide +kernel
theorem dX5_promise_70 : decode cX5_promise 70 = .ok (.iload_n 3, 1) := by decide +kernel
theorem dX5_promise_71 : decode cX5_promise 71 = .ok (.bipush (-9), 2) := by decide +kernel
theorem dX5_promise_73 : decode cX5_promise 73 = .ok (.if_icmp .ne 7, 3) := by decide +kernel
theorem dX5_promise_76 : decode cX5_promise 76 = .ok (.iconst 0, 1) := by decide +kernel
theorem dX5_promise_77 : decode cX5_promise 77 = .ok (.goto 6, 3) := by decide +kernel
theorem dX5_promise_80 : decode cX5_promise 80 = .ok (.iload_n 3, 1) := by decide +kernel
theorem dX5_promise_81 : decode cX5_promise 81 = .ok (.iconst 1, 1) := by decide +kernel
theorem dX5_promise_82 : decode cX5_promise 82 = .ok (.iadd, 1) := by decide +kernel
theorem dX5_promise_83 : decode cX5_promise 83 = .ok (.iastore, 1) := by decide +kernel
theorem dX5_promise_84 : decode cX5_promise 84 = .ok (.iload_n 3, 1) := by decide +kernel
theorem dX5_promise_85 : decode cX5_promise 85 = .ok (.bipush (-9), 2) := by decide +kernel
theorem dX5_promise_87 : decode cX5_promise 87 = .ok (.if_icmp .eq 33, 3) := by decide +kernel
theorem dX5_promise_90 : decode cX5_promise 90 = .ok (.aload_n 0, 1) := by decide +kernel
theorem dX5_promise_91 : decode cX5_promise 91 = .ok (.getfield 66, 3) := by decide +kernel
theorem dX5_promise_94 : decode cX5_promise 94 = .ok (.iload_n 1, 1) := by decide +kernel
theorem dX5_promise_95 : decode cX5_promise 95 = .ok (.iaload, 1) := by decide +kernel
theorem dX5_promise_96 : decode cX5_promise 96 = .ok (.bipush (-9), 2) := by decide +kernel
theorem dX5_promise_98 : decode cX5_promise 98 = .ok (.if_icmp .eq 22, 3) := by decide +kernel
theorem dX5_promise_101 : decode cX5_promise 101 = .ok (.aload_n 0, 1) := by decide +kernel
theorem dX5_promise_102 : decode cX5_promise 102 = .ok (.getfield 66, 3) := by decide +kernel
theorem dX5_promise_105 : decode cX5_promise 105 = .ok (.iload_n 1, 1) := by decide +kernel
theorem dX5_promise_106 : decode cX5_promise 106 = .ok (.iaload, 1) := by decide +kernel
theorem dX5_promise_107 : decode cX5_promise 107 = .ok (.iload_n 3, 1) := by decide +kernel
theorem dX5_promise_108 : decode cX5_promise 108 = .ok (.if_icmp .gt 12, 3) := by decide +kernel
theorem dX5_promise_111 : decode cX5_promise 111 = .ok (.aload_n 0, 1) := by decide +kernel
theorem dX5_promise_112 : decode cX5_promise 112 = .ok (.getfield 66, 3) := by decide +kernel
theorem dX5_promise_115 : decode cX5_promise 115 = .ok (.iload_n 1, 1) := by decide +kernel
theorem dX5_promise_116 : decode cX5_promise 116 = .ok (.iload_n 3, 1) := by decide +kernel
theorem dX5_promise_117 : decode cX5_promise 117 = .ok (.iconst 1, 1) := by decide +kernel
theorem dX5_promise_118 : decode cX5_promise 118 = .ok (.iadd, 1) := by decide +kernel
theorem dX5_promise_119 : decode cX5_promise 119 = .ok (.iastore, 1) := by decide +kernel
theorem dX5_promise_120 : decode cX5_promise 120 = .ok (.iload 4, 2) := by decide +kernel
theorem dX5_promise_122 : decode cX5_promise 122 = .ok (.ireturn, 1) := by decide +kernel
theorem dX5_shut_0 : decode cX5_shut 0 = .ok (.iload_n 1, 1) := by decide +kernel
theorem dX5_shut_1 : decode cX5_shut 1 = .ok (.invokestatic 97, 3) := by decide +kernel
theorem dX5_shut_4 : decode cX5_shut 4 = .ok (.ifCond .eq 16, 3) := by decide +kernel
theorem dX5_shut_7 : decode cX5_shut 7 = .ok (.iload_n 2, 1) := by decide +kernel
theorem dX5_shut_8 : decode cX5_shut 8 = .ok (.aload_n 0, 1) := by decide +kernel
theorem dX5_shut_9 : decode cX5_shut 9 = .ok (.getfield 90, 3) := by decide +kernel
theorem dX5_shut_12 : decode cX5_shut 12 = .ok (.bipush 40, 2) := by decide +kernel
theorem dX5_shut_14 : decode cX5_shut 14 = .ok (.invokestatic 93, 3) := by decide +kernel
theorem dX5_shut_17 : decode cX5_shut 17 = .ok (.ifCond .ne 5, 3) := by decide +kernel
theorem dX5_shut_20 : decode cX5_shut 20 = .ok (.iconst (-1), 1) := by decide +kernel
theorem dX5_shut_21 : decode cX5_shut 21 = .ok (.ireturn, 1) := by decide +kernel
theorem dX5_shut_22 : decode cX5_shut 22 = .ok (.aload_n 0, 1) := by decide +kernel
theorem dX5_shut_23 : decode cX5_shut 23 = .ok (.iload_n 1, 1) := by decide +kernel
theorem dX5_shut_24 : decode cX5_shut 24 = .ok (.invokevirtual 150, 3) := by decide +kernel
theorem dX5_shut_27 : decode cX5_shut 27 = .ok (.ifCond .ne 12, 3) := by decide +kernel
theorem dX5_shut_30 : decode cX5_shut 30 = .ok (.aload_n 0, 1) := by decide +kernel
theorem dX5_shut_31 : decode cX5_shut 31 = .ok (.iload_n 1, 1) := by decide +kernel
theorem dX5_shut_32 : decode cX5_shut 32 = .ok (.invokevirtual 176, 3) := by decide +kernel
theorem dX5_shut_35 : decode cX5_shut 35 = .ok (.iload_n 2, 1) := by decide +kernel
theorem dX5_shut_36 : decode cX5_shut 36 = .ok (.if_icmp .lt 6, 3) := by decide +kernel
theorem dX5_shut_39 : decode cX5_shut 39 = .ok (.bipush (-2), 2) := by decide +kernel
theorem dX5_shut_41 : decode cX5_shut 41 = .ok (.ireturn, 1) := by decide +kernel
theorem dX5_shut_42 : decode cX5_shut 42 = .ok (.aload_n 0, 1) := by decide +kernel
theorem dX5_shut_43 : decode cX5_shut 43 = .ok (.getfield 66, 3) := by decide +kernel
theorem dX5_shut_46 : decode cX5_shut 46 = .ok (.iload_n 1, 1) := by decide +kernel
theorem dX5_shut_47 : decode cX5_shut 47 = .ok (.iload_n 2, 1) := by decide +kernel
theorem dX5_shut_48 : decode cX5_shut 48 = .ok (.iastore, 1) := by decide +kernel
theorem dX5_shut_49 : decode cX5_shut 49 = .ok (.iload_n 2, 1) := by decide +kernel
theorem dX5_shut_50 : decode cX5_shut 50 = .ok (.ireturn, 1) := by decide +kernel
theorem dX5_open_0 : decode cX5_open 0 = .ok (.iload_n 1, 1) := by decide +kernel
theorem dX5_open_1 : decode cX5_open 1 = .ok (.invokestatic 97, 3) := by decide +kernel
theorem dX5_open_4 : decode cX5_open 4 = .ok (.ifCond .ne 5, 3) := by decide +kernel
theorem dX5_open_7 : decode cX5_open 7 = .ok (.iconst (-1), 1) := by decide +kernel
theorem dX5_open_8 : decode cX5_open 8 = .ok (.ireturn, 1) := by decide +kernel
theorem dX5_open_9 : decode cX5_open 9 = .ok (.aload_n 0, 1) := by decide +kernel
theorem dX5_open_10 : decode cX5_open 10 = .ok (.getfield 66, 3) := by decide +kernel
theorem dX5_open_13 : decode cX5_open 13 = .ok (.iload_n 1, 1) := by decide +kernel
theorem dX5_open_14 : decode cX5_open 14 = .ok (.iaload, 1) := by decide +kernel
theorem dX5_open_15 : decode cX5_open 15 = .ok (.bipush (-9), 2) := by decide +kernel
theorem dX5_open_17 : decode cX5_open 17 = .ok (.if_icmp .ne 6, 3) := by decide +kernel
theorem dX5_open_20 : decode cX5_open 20 = .ok (.bipush (-2), 2) := by decide +kernel
theorem dX5_open_22 : decode cX5_open 22 = .ok (.ireturn, 1) := by decide +kernel
theorem dX5_open_23 : decode cX5_open 23 = .ok (.aload_n 0, 1) := by decide +kernel
theorem dX5_open_24 : decode cX5_open 24 = .ok (.getfield 66, 3) := by decide +kernel
theorem dX5_open_27 : decode cX5_open 27 = .ok (.iload_n 1, 1) := by decide +kernel
theorem dX5_open_28 : decode cX5_open 28 = .ok (.iaload, 1) := by decide +kernel
theorem dX5_open_29 : decode cX5_open 29 = .ok (.istore_n 2, 1) := by decide +kernel
theorem dX5_open_30 : decode cX5_open 30 = .ok (.aload_n 0, 1) := by decide +kernel
theorem dX5_open_31 : decode cX5_open 31 = .ok (.getfield 66, 3) := by decide +kernel
theorem dX5_open_34 : decode cX5_open 34 = .ok (.iload_n 1, 1) := by decide +kernel
theorem dX5_open_35 : decode cX5_open 35 = .ok (.bipush (-9), 2) := by decide +kernel
theorem dX5_open_37 : decode cX5_open 37 = .ok (.iastore, 1) := by decide +kernel
theorem dX5_open_38 : decode cX5_open 38 = .ok (.iload_n 2, 1) := by decide +kernel
theorem dX5_open_39 : decode cX5_open 39 = .ok (.ireturn, 1) := by decide +kernel
theorem dX5_about_0 : decode cX5_about 0 = .ok (.iload_n 1, 1) := by decide +kernel
theorem dX5_about_1 : decode cX5_about 1 = .ok (.invokestatic 97, 3) := by decide +kernel
theorem dX5_about_4 : decode cX5_about 4 = .ok (.ifCond .ne 5, 3) := by decide +kernel
theorem dX5_about_7 : decode cX5_about 7 = .ok (.iconst (-1), 1) := by decide +kernel
theorem dX5_about_8 : decode cX5_about 8 = .ok (.ireturn, 1) := by decide +kernel
theorem dX5_about_9 : decode cX5_about 9 = .ok (.iload_n 2, 1) := by decide +kernel
theorem dX5_about_10 : decode cX5_about 10 = .ok (.tableswitch 64 0 3 #[30, 37, 51, 57], 30) := by decide +kernel
theorem dX5_about_40 : decode cX5_about 40 = .ok (.aload_n 0, 1) := by decide +kernel
theorem dX5_about_41 : decode cX5_about 41 = .ok (.getfield 66, 3) := by decide +kernel
theorem dX5_about_44 : decode cX5_about 44 = .ok (.iload_n 1, 1) := by decide +kernel
theorem dX5_about_45 : decode cX5_about 45 = .ok (.iaload, 1) := by decide +kernel
theorem dX5_about_46 : decode cX5_about 46 = .ok (.ireturn, 1) := by decide +kernel
theorem dX5_about_47 : decode cX5_about 47 = .ok (.aload_n 0, 1) := by decide +kernel
theorem dX5_about_48 : decode cX5_about 48 = .ok (.iload_n 1, 1) := by decide +kernel
theorem dX5_about_49 : decode cX5_about 49 = .ok (.invokevirtual 150, 3) := by decide +kernel
theorem dX5_about_52 : decode cX5_about 52 = .ok (.ifCond .eq 7, 3) := by decide +kernel
theorem dX5_about_55 : decode cX5_about 55 = .ok (.iconst 1, 1) := by decide +kernel
theorem dX5_about_56 : decode cX5_about 56 = .ok (.goto 4, 3) := by decide +kernel
theorem dX5_about_59 : decode cX5_about 59 = .ok (.iconst 0, 1) := by decide +kernel
theorem dX5_about_60 : decode cX5_about 60 = .ok (.ireturn, 1) := by decide +kernel
theorem dX5_about_61 : decode cX5_about 61 = .ok (.aload_n 0, 1) := by decide +kernel
theorem dX5_about_62 : decode cX5_about 62 = .ok (.iload_n 1, 1) := by decide +kernel
theorem dX5_about_63 : decode cX5_about 63 = .ok (.invokevirtual 176, 3) := by decide +kernel
theorem dX5_about_66 : decode cX5_about 66 = .ok (.ireturn, 1) := by decide +kernel
theorem dX5_about_67 : decode cX5_about 67 = .ok (.aload_n 0, 1) := by decide +kernel
theorem dX5_about_68 : decode cX5_about 68 = .ok (.getfield 69, 3) := by decide +kernel
theorem dX5_about_71 : decode cX5_about 71 = .ok (.iload_n 1, 1) := by decide +kernel
theorem dX5_about_72 : decode cX5_about 72 = .ok (.iaload, 1) := by decide +kernel
theorem dX5_about_73 : decode cX5_about 73 = .ok (.ireturn, 1) := by decide +kernel
theorem dX5_about_74 : decode cX5_about 74 = .ok (.iconst (-1), 1) := by decide +kernel
theorem dX5_about_75 : decode cX5_about 75 = .ok (.ireturn, 1) := by decide +kernel
theorem dX5_harmOn_0 : decode cX5_harmOn 0 = .ok (.iconst 0, 1) := by decide +kernel
theorem dX5_harmOn_1 : decode cX5_harmOn 1 = .ok (.istore_n 3, 1) := by decide +kernel
theorem dX5_harmOn_2 : decode cX5_harmOn 2 = .ok (.iconst 0, 1) := by decide +kernel
theorem dX5_harmOn_3 : decode cX5_harmOn 3 = .ok (.istore 4, 2) := by decide +kernel
theorem dX5_harmOn_5 : decode cX5_harmOn 5 = .ok (.iload 4, 2) := by decide +kernel
theorem dX5_harmOn_7 : decode cX5_harmOn 7 = .ok (.bipush 6, 2) := by decide +kernel
theorem dX5_harmOn_9 : decode cX5_harmOn 9 = .ok (.if_icmp .ge 71, 3) := by decide +kernel
theorem dX5_harmOn_12 : decode cX5_harmOn 12 = .ok (.iload_n 2, 1) := by decide +kernel
theorem dX5_harmOn_13 : decode cX5_harmOn 13 = .ok (.bipush 7, 2) := by decide +kernel
theorem dX5_harmOn_15 : decode cX5_harmOn 15 = .ok (.if_icmp .le 10, 3) := by decide +kernel
theorem dX5_harmOn_18 : decode cX5_harmOn 18 = .ok (.iload_n 2, 1) := by decide +kernel
theorem dX5_harmOn_19 : decode cX5_harmOn 19 = .ok (.bipush 7, 2) := by decide +kernel
theorem dX5_harmOn_21 : decode cX5_harmOn 21 = .ok (.isub, 1) := by decide +kernel
theorem dX5_harmOn_22 : decode cX5_harmOn 22 = .ok (.goto 4, 3) := by decide +kernel
theorem dX5_harmOn_25 : decode cX5_harmOn 25 = .ok (.iconst 0, 1) := by decide +kernel
theorem dX5_harmOn_26 : decode cX5_harmOn 26 = .ok (.istore 5, 2) := by decide +kernel
theorem dX5_harmOn_28 : decode cX5_harmOn 28 = .ok (.iload_n 2, 1) := by decide +kernel
theorem dX5_harmOn_29 : decode cX5_harmOn 29 = .ok (.bipush 40, 2) := by decide +kernel
theorem dX5_harmOn_31 : decode cX5_harmOn 31 = .ok (.if_icmp .ge 7, 3) := by decide +kernel
theorem dX5_harmOn_34 : decode cX5_harmOn 34 = .ok (.iload_n 2, 1) := by decide +kernel
theorem dX5_harmOn_35 : decode cX5_harmOn 35 = .ok (.goto 5, 3) := by decide +kernel
theorem dX5_harmOn_38 : decode cX5_harmOn 38 = .ok (.bipush 39, 2) := by decide +kernel
theorem dX5_harmOn_40 : decode cX5_harmOn 40 = .ok (.istore 6, 2) := by decide +kernel
theorem dX5_harmOn_42 : decode cX5_harmOn 42 = .ok (.iload_n 3, 1) := by decide +kernel
theorem dX5_harmOn_43 : decode cX5_harmOn 43 = .ok (.aload_n 0, 1) := by decide +kernel
theorem dX5_harmOn_44 : decode cX5_harmOn 44 = .ok (.iload 4, 2) := by decide +kernel
theorem dX5_harmOn_46 : decode cX5_harmOn 46 = .ok (.iload_n 1, 1) := by decide +kernel
theorem dX5_harmOn_47 : decode cX5_harmOn 47 = .ok (.invokevirtual 147, 3) := by decide +kernel
theorem dX5_harmOn_50 : decode cX5_harmOn 50 = .ok (.ifCond .ne 17, 3) := by decide +kernel
theorem dX5_harmOn_53 : decode cX5_harmOn 53 = .ok (.aload_n 0, 1) := by decide +kernel
theorem dX5_harmOn_54 : decode cX5_harmOn 54 = .ok (.iload 4, 2) := by decide +kernel
theorem dX5_harmOn_56 : decode cX5_harmOn 56 = .ok (.iload_n 1, 1) := by decide +kernel
theorem dX5_harmOn_57 : decode cX5_harmOn 57 = .ok (.iload 5, 2) := by decide +kernel
theorem dX5_harmOn_59 : decode cX5_harmOn 59 = .ok (.iload 6, 2) := by decide +kernel
theorem dX5_harmOn_61 : decode cX5_harmOn 61 = .ok (.invokevirtual 156, 3) := by decide +kernel
theorem dX5_harmOn_64 : decode cX5_harmOn 64 = .ok (.ifCond .le 7, 3) := by decide +kernel
theorem dX5_harmOn_67 : decode cX5_harmOn 67 = .ok (.iconst 1, 1) := by decide +kernel
theorem dX5_harmOn_68 : decode cX5_harmOn 68 = .ok (.goto 4, 3) := by decide +kernel
theorem dX5_harmOn_71 : decode cX5_harmOn 71 = .ok (.iconst 0, 1) := by decide +kernel
theorem dX5_harmOn_72 : decode cX5_harmOn 72 = .ok (.iadd, 1) := by decide +kernel
theorem dX5_harmOn_73 : decode cX5_harmOn 73 = .ok (.istore_n 3, 1) := by decide +kernel
theorem dX5_harmOn_74 : decode cX5_harmOn 74 = .ok (.iinc 4 1, 3) := by decide +kernel
theorem dX5_harmOn_77 : decode cX5_harmOn 77 = .ok (.goto (-72), 3) := by decide +kernel
theorem dX5_harmOn_80 : decode cX5_harmOn 80 = .ok (.iload_n 3, 1) := by decide +kernel
theorem dX5_harmOn_81 : decode cX5_harmOn 81 = .ok (.ireturn, 1) := by decide +kernel
theorem dX5_harmed_0 : decode cX5_harmed 0 = .ok (.iload_n 1, 1) := by decide +kernel
theorem dX5_harmed_1 : decode cX5_harmed 1 = .ok (.invokestatic 97, 3) := by decide +kernel
theorem dX5_harmed_4 : decode cX5_harmed 4 = .ok (.ifCond .eq 22, 3) := by decide +kernel
theorem dX5_harmed_7 : decode cX5_harmed 7 = .ok (.iload_n 2, 1) := by decide +kernel
theorem dX5_harmed_8 : decode cX5_harmed 8 = .ok (.iconst 0, 1) := by decide +kernel
theorem dX5_harmed_9 : decode cX5_harmed 9 = .ok (.bipush 40, 2) := by decide +kernel
theorem dX5_harmed_11 : decode cX5_harmed 11 = .ok (.invokestatic 93, 3) := by decide +kernel
theorem dX5_harmed_14 : decode cX5_harmed 14 = .ok (.ifCond .eq 12, 3) := by decide +kernel
theorem dX5_harmed_17 : decode cX5_harmed 17 = .ok (.aload_n 0, 1) := by decide +kernel
theorem dX5_harmed_18 : decode cX5_harmed 18 = .ok (.iload_n 1, 1) := by decide +kernel
theorem dX5_harmed_19 : decode cX5_harmed 19 = .ok (.iload_n 2, 1) := by decide +kernel
theorem dX5_harmed_20 : decode cX5_harmed 20 = .ok (.invokevirtual 179, 3) := by decide +kernel
theorem dX5_harmed_23 : decode cX5_harmed 23 = .ok (.goto 4, 3) := by decide +kernel
theorem dX5_harmed_26 : decode cX5_harmed 26 = .ok (.iconst (-1), 1) := by decide +kernel
theorem dX5_harmed_27 : decode cX5_harmed 27 = .ok (.ireturn, 1) := by decide +kernel
theorem dX5_ready_0 : decode cX5_ready 0 = .ok (.iload_n 1, 1) := by decide +kernel
theorem dX5_ready_1 : decode cX5_ready 1 = .ok (.invokestatic 97, 3) := by decide +kernel
theorem dX5_ready_4 : decode cX5_ready 4 = .ok (.ifCond .ne 5, 3) := by decide +kernel
theorem dX5_ready_7 : decode cX5_ready 7 = .ok (.iconst (-1), 1) := by decide +kernel
theorem dX5_ready_8 : decode cX5_ready 8 = .ok (.ireturn, 1) := by decide +kernel
theorem dX5_ready_9 : decode cX5_ready 9 = .ok (.aload_n 0, 1) := by decide +kernel
theorem dX5_ready_10 : decode cX5_ready 10 = .ok (.getfield 90, 3) := by decide +kernel
theorem dX5_ready_13 : decode cX5_ready 13 = .ok (.istore_n 2, 1) := by decide +kernel
theorem dX5_ready_14 : decode cX5_ready 14 = .ok (.iload_n 2, 1) := by decide +kernel
theorem dX5_ready_15 : decode cX5_ready 15 = .ok (.bipush 40, 2) := by decide +kernel
theorem dX5_ready_17 : decode cX5_ready 17 = .ok (.if_icmp .gt 29, 3) := by decide +kernel
theorem dX5_ready_20 : decode cX5_ready 20 = .ok (.aload_n 0, 1) := by decide +kernel
theorem dX5_ready_21 : decode cX5_ready 21 = .ok (.iload_n 1, 1) := by decide +kernel
theorem dX5_ready_22 : decode cX5_ready 22 = .ok (.invokevirtual 176, 3) := by decide +kernel
theorem dX5_ready_25 : decode cX5_ready 25 = .ok (.iload_n 2, 1) := by decide +kernel
theorem dX5_ready_26 : decode cX5_ready 26 = .ok (.if_icmp .ge 14, 3) := by decide +kernel
theorem dX5_ready_29 : decode cX5_ready 29 = .ok (.aload_n 0, 1) := by decide +kernel
theorem dX5_ready_30 : decode cX5_ready 30 = .ok (.iload_n 1, 1) := by decide +kernel
theorem dX5_ready_31 : decode cX5_ready 31 = .ok (.iload_n 2, 1) := by decide +kernel
theorem dX5_ready_32 : decode cX5_ready 32 = .ok (.invokevirtual 179, 3) := by decide +kernel
theorem dX5_ready_35 : decode cX5_ready 35 = .ok (.ifCond .ne 5, 3) := by decide +kernel
theorem dX5_ready_38 : decode cX5_ready 38 = .ok (.iload_n 2, 1) := by decide +kernel
theorem dX5_ready_39 : decode cX5_ready 39 = .ok (.ireturn, 1) := by decide +kernel
theorem dX5_ready_40 : decode cX5_ready 40 = .ok (.iinc 2 1, 3) := by decide +kernel
theorem dX5_ready_43 : decode cX5_ready 43 = .ok (.goto (-29), 3) := by decide +kernel
theorem dX5_ready_46 : decode cX5_ready 46 = .ok (.bipush (-9), 2) := by decide +kernel
theorem dX5_ready_48 : decode cX5_ready 48 = .ok (.ireturn, 1) := by decide +kernel
theorem dX5_set_0 : decode cX5_set 0 = .ok (.iconst (-1), 1) := by decide +kernel
theorem dX5_set_1 : decode cX5_set 1 = .ok (.istore 4, 2) := by decide +kernel
theorem dX5_set_3 : decode cX5_set 3 = .ok (.iload_n 3, 1) := by decide +kernel
theorem dX5_set_4 : decode cX5_set 4 = .ok (.iconst 0, 1) := by decide +kernel
theorem dX5_set_5 : decode cX5_set 5 = .ok (.sipush 1000, 3) := by decide +kernel
theorem dX5_set_8 : decode cX5_set 8 = .ok (.invokestatic 93, 3) := by decide +kernel
theorem dX5_set_11 : decode cX5_set 11 = .ok (.ifCond .ne 5, 3) := by decide +kernel
theorem dX5_set_14 : decode cX5_set 14 = .ok (.iconst (-1), 1) := by decide +kernel
theorem dX5_set_15 : decode cX5_set 15 = .ok (.ireturn, 1) := by decide +kernel
theorem dX5_set_16 : decode cX5_set 16 = .ok (.iload_n 1, 1) := by decide +kernel
theorem dX5_set_17 : decode cX5_set 17 = .ok (.ifCond .ne 28, 3) := by decide +kernel
theorem dX5_set_20 : decode cX5_set 20 = .ok (.iload_n 2, 1) := by decide +kernel
theorem dX5_set_21 : decode cX5_set 21 = .ok (.invokestatic 97, 3) := by decide +kernel
theorem dX5_set_24 : decode cX5_set 24 = .ok (.ifCond .eq 21, 3) := by decide +kernel
theorem dX5_set_27 : decode cX5_set 27 = .ok (.aload_n 0, 1) := by decide +kernel
theorem dX5_set_28 : decode cX5_set 28 = .ok (.getfield 72, 3) := by decide +kernel
theorem dX5_set_31 : decode cX5_set 31 = .ok (.iload_n 2, 1) := by decide +kernel
theorem dX5_set_32 : decode cX5_set 32 = .ok (.iaload, 1) := by decide +kernel
theorem dX5_set_33 : decode cX5_set 33 = .ok (.istore 4, 2) := by decide +kernel
theorem dX5_set_35 : decode cX5_set 35 = .ok (.aload_n 0, 1) := by decide +kernel
theorem dX5_set_36 : decode cX5_set 36 = .ok (.getfield 72, 3) := by decide +kernel
theorem dX5_set_39 : decode cX5_set 39 = .ok (.iload_n 2, 1) := by decide +kernel
theorem dX5_set_40 : decode cX5_set 40 = .ok (.iload_n 3, 1) := by decide +kernel
theorem dX5_set_41 : decode cX5_set 41 = .ok (.iastore, 1) := by decide +kernel
theorem dX5_set_42 : decode cX5_set 42 = .ok (.goto 49, 3) := by decide +kernel
theorem dX5_set_45 : decode cX5_set 45 = .ok (.iload_n 1, 1) := by decide +kernel
theorem dX5_set_46 : decode cX5_set 46 = .ok (.iconst 1, 1) := by decide +kernel
theorem dX5_set_47 : decode cX5_set 47 = .ok (.if_icmp .ne 28, 3) := by decide +kernel
theorem dX5_set_50 : decode cX5_set 50 = .ok (.iload_n 2, 1) := by decide +kernel
theorem dX5_set_51 : decode cX5_set 51 = .ok (.invokestatic 108, 3) := by decide +kernel
theorem dX5_set_54 : decode cX5_set 54 = .ok (.ifCond .eq 21, 3) := by decide +kernel
theorem dX5_set_57 : decode cX5_set 57 = .ok (.aload_n 0, 1) := by decide +kernel
theorem dX5_set_58 : decode cX5_set 58 = .ok (.getfield 75, 3) := by decide +kernel
theorem dX5_set_61 : decode cX5_set 61 = .ok (.iload_n 2, 1) := by decide +kernel
theorem dX5_set_62 : decode cX5_set 62 = .ok (.iaload, 1) := by decide +kernel
theorem dX5_set_63 : decode cX5_set 63 = .ok (.istore 4, 2) := by decide +kernel
theorem dX5_set_65 : decode cX5_set 65 = .ok (.aload_n 0, 1) := by decide +kernel
theorem dX5_set_66 : decode cX5_set 66 = .ok (.getfield 75, 3) := by decide +kernel
theorem dX5_set_69 : decode cX5_set 69 = .ok (.iload_n 2, 1) := by decide +kernel
theorem dX5_set_70 : decode cX5_set 70 = .ok (.iload_n 3, 1) := by decide +kernel
theorem dX5_set_71 : decode cX5_set 71 = .ok (.iastore, 1) := by decide +kernel
theorem dX5_set_72 : decode cX5_set 72 = .ok (.goto 19, 3) := by decide +kernel
theorem dX5_set_75 : decode cX5_set 75 = .ok (.iload_n 1, 1) := by decide +kernel
theorem dX5_set_76 : decode cX5_set 76 = .ok (.iconst 2, 1) := by decide +kernel
theorem dX5_set_77 : decode cX5_set 77 = .ok (.if_icmp .ne 14, 3) := by decide +kernel
theorem dX5_set_80 : decode cX5_set 80 = .ok (.aload_n 0, 1) := by decide +kernel
theorem dX5_set_81 : decode cX5_set 81 = .ok (.getfield 48, 3) := by decide +kernel
theorem dX5_set_84 : decode cX5_set 84 = .ok (.istore 4, 2) := by decide +kernel
theorem dX5_set_86 : decode cX5_set 86 = .ok (.aload_n 0, 1) := by decide +kernel
theorem dX5_set_87 : decode cX5_set 87 = .ok (.iload_n 3, 1) := by decide +kernel
theorem dX5_set_88 : decode cX5_set 88 = .ok (.putfield 48, 3) := by decide +kernel
theorem dX5_set_91 : decode cX5_set 91 = .ok (.iload 4, 2) := by decide +kernel
theorem dX5_set_93 : decode cX5_set 93 = .ok (.ireturn, 1) := by decide +kernel
theorem dX5_costOf_0 : decode cX5_costOf 0 = .ok (.iconst 0, 1) := by decide +kernel
theorem dX5_costOf_1 : decode cX5_costOf 1 = .ok (.istore_n 2, 1) := by decide +kernel
theorem dX5_costOf_2 : decode cX5_costOf 2 = .ok (.iconst 0, 1) := by decide +kernel
theorem dX5_costOf_3 : decode cX5_costOf 3 = .ok (.istore_n 3, 1) := by decide +kernel
theorem dX5_costOf_4 : decode cX5_costOf 4 = .ok (.iload_n 3, 1) := by decide +kernel
theorem dX5_costOf_5 : decode cX5_costOf 5 = .ok (.bipush 8, 2) := by decide +kernel
theorem dX5_costOf_7 : decode cX5_costOf 7 = .ok (.if_icmp .ge 36, 3) := by decide +kernel
theorem dX5_costOf_10 : decode cX5_costOf 10 = .ok (.iload_n 2, 1) := by decide +kernel
theorem dX5_costOf_11 : decode cX5_costOf 11 = .ok (.iload_n 1, 1) := by decide +kernel
theorem dX5_costOf_12 : decode cX5_costOf 12 = .ok (.iload_n 3, 1) := by decide +kernel
theorem dX5_costOf_13 : decode cX5_costOf 13 = .ok (.ishr, 1) := by decide +kernel
theorem dX5_costOf_14 : decode cX5_costOf 14 = .ok (.iconst 1, 1) := by decide +kernel
theorem dX5_costOf_15 : decode cX5_costOf 15 = .ok (.iand, 1) := by decide +kernel
theorem dX5_costOf_16 : decode cX5_costOf 16 = .ok (.iconst 1, 1) := by decide +kernel
theorem dX5_costOf_17 : decode cX5_costOf 17 = .ok (.if_icmp .ne 12, 3) := by decide +kernel
theorem dX5_costOf_20 : decode cX5_costOf 20 = .ok (.aload_n 0, 1) := by decide +kernel
theorem dX5_costOf_21 : decode cX5_costOf 21 = .ok (.getfield 72, 3) := by decide +kernel
theorem dX5_costOf_24 : decode cX5_costOf 24 = .ok (.iload_n 3, 1) := by decide +kernel
theorem dX5_costOf_25 : decode cX5_costOf 25 = .ok (.iaload, 1) := by decide +kernel
theorem dX5_costOf_26 : decode cX5_costOf 26 = .ok (.goto 9, 3) := by decide +kernel
theorem dX5_costOf_29 : decode cX5_costOf 29 = .ok (.aload_n 0, 1) := by decide +kernel
theorem dX5_costOf_30 : decode cX5_costOf 30 = .ok (.getfield 87, 3) := by decide +kernel
theorem dX5_costOf_33 : decode cX5_costOf 33 = .ok (.iload_n 3, 1) := by decide +kernel
theorem dX5_costOf_34 : decode cX5_costOf 34 = .ok (.iaload, 1) := by decide +kernel
theorem dX5_costOf_35 : decode cX5_costOf 35 = .ok (.iadd, 1) := by decide +kernel
theorem dX5_costOf_36 : decode cX5_costOf 36 = .ok (.istore_n 2, 1) := by decide +kernel
theorem dX5_costOf_37 : decode cX5_costOf 37 = .ok (.iinc 3 1, 3) := by decide +kernel
theorem dX5_costOf_40 : decode cX5_costOf 40 = .ok (.goto (-36), 3) := by decide +kernel
theorem dX5_costOf_43 : decode cX5_costOf 43 = .ok (.iload_n 2, 1) := by decide +kernel
theorem dX5_costOf_44 : decode cX5_costOf 44 = .ok (.ireturn, 1) := by decide +kernel
theorem dX5_plan_0 : decode cX5_plan 0 = .ok (.iload_n 1, 1) := by decide +kernel
theorem dX5_plan_1 : decode cX5_plan 1 = .ok (.iconst 0, 1) := by decide +kernel
theorem dX5_plan_2 : decode cX5_plan 2 = .ok (.iconst 1, 1) := by decide +kernel
theorem dX5_plan_3 : decode cX5_plan 3 = .ok (.invokestatic 93, 3) := by decide +kernel
theorem dX5_plan_6 : decode cX5_plan 6 = .ok (.ifCond .ne 5, 3) := by decide +kernel
theorem dX5_plan_9 : decode cX5_plan 9 = .ok (.iconst (-1), 1) := by decide +kernel
theorem dX5_plan_10 : decode cX5_plan 10 = .ok (.ireturn, 1) := by decide +kernel
theorem dX5_plan_11 : decode cX5_plan 11 = .ok (.iconst 0, 1) := by decide +kernel
theorem dX5_plan_12 : decode cX5_plan 12 = .ok (.istore_n 2, 1) := by decide +kernel
theorem dX5_plan_13 : decode cX5_plan 13 = .ok (.iconst 0, 1) := by decide +kernel
theorem dX5_plan_14 : decode cX5_plan 14 = .ok (.istore_n 3, 1) := by decide +kernel
theorem dX5_plan_15 : decode cX5_plan 15 = .ok (.iload_n 3, 1) := by decide +kernel
theorem dX5_plan_16 : decode cX5_plan 16 = .ok (.bipush 8, 2) := by decide +kernel
theorem dX5_plan_18 : decode cX5_plan 18 = .ok (.if_icmp .ge 84, 3) := by decide +kernel
theorem dX5_plan_21 : decode cX5_plan 21 = .ok (.iload_n 2, 1) := by decide +kernel
theorem dX5_plan_22 : decode cX5_plan 22 = .ok (.aload_n 0, 1) := by decide +kernel
theorem dX5_plan_23 : decode cX5_plan 23 = .ok (.iload_n 3, 1) := by decide +kernel
theorem dX5_plan_24 : decode cX5_plan 24 = .ok (.invokevirtual 176, 3) := by decide +kernel
theorem dX5_plan_27 : decode cX5_plan 27 = .ok (.aload_n 0, 1) := by decide +kernel
theorem dX5_plan_28 : decode cX5_plan 28 = .ok (.getfield 90, 3) := by decide +kernel
theorem dX5_plan_31 : decode cX5_plan 31 = .ok (.if_icmp .le 9, 3) := by decide +kernel
theorem dX5_plan_34 : decode cX5_plan 34 = .ok (.iconst 1, 1) := by decide +kernel
theorem dX5_plan_35 : decode cX5_plan 35 = .ok (.iload_n 3, 1) := by decide +kernel
theorem dX5_plan_36 : decode cX5_plan 36 = .ok (.ishl, 1) := by decide +kernel
theorem dX5_plan_37 : decode cX5_plan 37 = .ok (.goto 4, 3) := by decide +kernel
theorem dX5_plan_40 : decode cX5_plan 40 = .ok (.iconst 0, 1) := by decide +kernel
theorem dX5_plan_41 : decode cX5_plan 41 = .ok (.ior, 1) := by decide +kernel
theorem dX5_plan_42 : decode cX5_plan 42 = .ok (.istore_n 2, 1) := by decide +kernel
theorem dX5_plan_43 : decode cX5_plan 43 = .ok (.aload_n 0, 1) := by decide +kernel
theorem dX5_plan_44 : decode cX5_plan 44 = .ok (.getfield 87, 3) := by decide +kernel
theorem dX5_plan_47 : decode cX5_plan 47 = .ok (.iload_n 3, 1) := by decide +kernel
theorem dX5_plan_48 : decode cX5_plan 48 = .ok (.iconst 0, 1) := by decide +kernel
theorem dX5_plan_49 : decode cX5_plan 49 = .ok (.iastore, 1) := by decide +kernel
theorem dX5_plan_50 : decode cX5_plan 50 = .ok (.iconst 0, 1) := by decide +kernel
theorem dX5_plan_51 : decode cX5_plan 51 = .ok (.istore 4, 2) := by decide +kernel
theorem dX5_plan_53 : decode cX5_plan 53 = .ok (.iload 4, 2) := by decide +kernel
theorem dX5_plan_55 : decode cX5_plan 55 = .ok (.bipush 6, 2) := by decide +kernel
theorem dX5_plan_57 : decode cX5_plan 57 = .ok (.if_icmp .ge 39, 3) := by decide +kernel
theorem dX5_plan_60 : decode cX5_plan 60 = .ok (.aload_n 0, 1) := by decide +kernel
theorem dX5_plan_61 : decode cX5_plan 61 = .ok (.getfield 87, 3) := by decide +kernel
theorem dX5_plan_64 : decode cX5_plan 64 = .ok (.iload_n 3, 1) := by decide +kernel
theorem dX5_plan_65 : decode cX5_plan 65 = .ok (.dup2, 1) := by decide +kernel
theorem dX5_plan_66 : decode cX5_plan 66 = .ok (.iaload, 1) := by decide +kernel
theorem dX5_plan_67 : decode cX5_plan 67 = .ok (.aload_n 0, 1) := by decide +kernel
theorem dX5_plan_68 : decode cX5_plan 68 = .ok (.iload 4, 2) := by decide +kernel
theorem dX5_plan_70 : decode cX5_plan 70 = .ok (.iload_n 3, 1) := by decide +kernel
theorem dX5_plan_71 : decode cX5_plan 71 = .ok (.invokevirtual 147, 3) := by decide +kernel
theorem dX5_plan_74 : decode cX5_plan 74 = .ok (.ifCond .eq 13, 3) := by decide +kernel
theorem dX5_plan_77 : decode cX5_plan 77 = .ok (.aload_n 0, 1) := by decide +kernel
theorem dX5_plan_78 : decode cX5_plan 78 = .ok (.getfield 75, 3) := by decide +kernel
theorem dX5_plan_81 : decode cX5_plan 81 = .ok (.iload 4, 2) := by decide +kernel
theorem dX5_plan_83 : decode cX5_plan 83 = .ok (.iaload, 1) := by decide +kernel
theorem dX5_plan_84 : decode cX5_plan 84 = .ok (.goto 4, 3) := by decide +kernel
theorem dX5_plan_87 : decode cX5_plan 87 = .ok (.iconst 0, 1) := by decide +kernel
theorem dX5_plan_88 : decode cX5_plan 88 = .ok (.iadd, 1) := by decide +kernel
theorem dX5_plan_89 : decode cX5_plan 89 = .ok (.iastore, 1) := by decide +kernel
theorem dX5_plan_90 : decode cX5_plan 90 = .ok (.iinc 4 1, 3) := by decide +kernel
theorem dX5_plan_93 : decode cX5_plan 93 = .ok (.goto (-40), 3) := by decide +kernel
theorem dX5_plan_96 : decode cX5_plan 96 = .ok (.iinc 3 1, 3) := by decide +kernel
theorem dX5_plan_99 : decode cX5_plan 99 = .ok (.goto (-84), 3) := by decide +kernel
theorem dX5_plan_102 : decode cX5_plan 102 = .ok (.iconst (-1), 1) := by decide +kernel
theorem dX5_plan_103 : decode cX5_plan 103 = .ok (.istore_n 3, 1) := by decide +kernel
theorem dX5_plan_104 : decode cX5_plan 104 = .ok (.iconst 0, 1) := by decide +kernel
theorem dX5_plan_105 : decode cX5_plan 105 = .ok (.istore 4, 2) := by decide +kernel
theorem dX5_plan_107 : decode cX5_plan 107 = .ok (.iload 4, 2) := by decide +kernel
theorem dX5_plan_109 : decode cX5_plan 109 = .ok (.sipush 256, 3) := by decide +kernel
theorem dX5_plan_112 : decode cX5_plan 112 = .ok (.if_icmp .ge 38, 3) := by decide +kernel
theorem dX5_plan_115 : decode cX5_plan 115 = .ok (.iload 4, 2) := by decide +kernel
theorem dX5_plan_117 : decode cX5_plan 117 = .ok (.iload_n 2, 1) := by decide +kernel
theorem dX5_plan_118 : decode cX5_plan 118 = .ok (.iand, 1) := by decide +kernel
theorem dX5_plan_119 : decode cX5_plan 119 = .ok (.iload_n 2, 1) := by decide +kernel
theorem dX5_plan_120 : decode cX5_plan 120 = .ok (.if_icmp .ne 24, 3) := by decide +kernel
theorem dX5_plan_123 : decode cX5_plan 123 = .ok (.iload_n 3, 1) := by decide +kernel
theorem dX5_plan_124 : decode cX5_plan 124 = .ok (.ifCond .lt 17, 3) := by decide +kernel
theorem dX5_plan_127 : decode cX5_plan 127 = .ok (.aload_n 0, 1) := by decide +kernel
theorem dX5_plan_128 : decode cX5_plan 128 = .ok (.iload 4, 2) := by decide +kernel
theorem dX5_plan_130 : decode cX5_plan 130 = .ok (.invokevirtual 182, 3) := by decide +kernel
theorem dX5_plan_133 : decode cX5_plan 133 = .ok (.aload_n 0, 1) := by decide +kernel
theorem dX5_plan_134 : decode cX5_plan 134 = .ok (.iload_n 3, 1) := by decide +kernel
theorem dX5_plan_135 : decode cX5_plan 135 = .ok (.invokevirtual 182, 3) := by decide +kernel
theorem dX5_plan_138 : decode cX5_plan 138 = .ok (.if_icmp .ge 6, 3) := by decide +kernel
theorem dX5_plan_141 : decode cX5_plan 141 = .ok (.iload 4, 2) := by decide +kernel
theorem dX5_plan_143 : decode cX5_plan 143 = .ok (.istore_n 3, 1) := by decide +kernel
theorem dX5_plan_144 : decode cX5_plan 144 = .ok (.iinc 4 1, 3) := by decide +kernel
theorem dX5_plan_147 : decode cX5_plan 147 = .ok (.goto (-40), 3) := by decide +kernel
theorem dX5_plan_150 : decode cX5_plan 150 = .ok (.iload_n 1, 1) := by decide +kernel
theorem dX5_plan_151 : decode cX5_plan 151 = .ok (.ifCond .ne 7, 3) := by decide +kernel
theorem dX5_plan_154 : decode cX5_plan 154 = .ok (.iload_n 3, 1) := by decide +kernel
theorem dX5_plan_155 : decode cX5_plan 155 = .ok (.goto 8, 3) := by decide +kernel
theorem dX5_plan_158 : decode cX5_plan 158 = .ok (.aload_n 0, 1) := by decide +kernel
theorem dX5_plan_159 : decode cX5_plan 159 = .ok (.iload_n 3, 1) := by decide +kernel
theorem dX5_plan_160 : decode cX5_plan 160 = .ok (.invokevirtual 182, 3) := by decide +kernel
theorem dX5_plan_163 : decode cX5_plan 163 = .ok (.ireturn, 1) := by decide +kernel
theorem dX5_told_0 : decode cX5_told 0 = .ok (.iconst 0, 1) := by decide +kernel
theorem dX5_told_1 : decode cX5_told 1 = .ok (.istore_n 2, 1) := by decide +kernel
theorem dX5_told_2 : decode cX5_told 2 = .ok (.iload_n 1, 1) := by decide +kernel
theorem dX5_told_3 : decode cX5_told 3 = .ok (.tableswitch 112 0 4 #[33, 38, 43, 48, 80], 33) := by decide +kernel
theorem dX5_told_36 : decode cX5_told 36 = .ok (.aload_n 0, 1) := by decide +kernel
theorem dX5_told_37 : decode cX5_told 37 = .ok (.getfield 7, 3) := by decide +kernel
theorem dX5_told_40 : decode cX5_told 40 = .ok (.ireturn, 1) := by decide +kernel
theorem dX5_told_41 : decode cX5_told 41 = .ok (.aload_n 0, 1) := by decide +kernel
theorem dX5_told_42 : decode cX5_told 42 = .ok (.getfield 90, 3) := by decide +kernel
theorem dX5_told_45 : decode cX5_told 45 = .ok (.ireturn, 1) := by decide +kernel
theorem dX5_told_46 : decode cX5_told 46 = .ok (.aload_n 0, 1) := by decide +kernel
theorem dX5_told_47 : decode cX5_told 47 = .ok (.getfield 163, 3) := by decide +kernel
theorem dX5_told_50 : decode cX5_told 50 = .ok (.ireturn, 1) := by decide +kernel
theorem dX5_told_51 : decode cX5_told 51 = .ok (.iconst 0, 1) := by decide +kernel
theorem dX5_told_52 : decode cX5_told 52 = .ok (.istore_n 3, 1) := by decide +kernel
theorem dX5_told_53 : decode cX5_told 53 = .ok (.iload_n 3, 1) := by decide +kernel
theorem dX5_told_54 : decode cX5_told 54 = .ok (.bipush 6, 2) := by decide +kernel
theorem dX5_told_56 : decode cX5_told 56 = .ok (.if_icmp .ge 25, 3) := by decide +kernel
theorem dX5_told_59 : decode cX5_told 59 = .ok (.iload_n 2, 1) := by decide +kernel
theorem dX5_told_60 : decode cX5_told 60 = .ok (.aload_n 0, 1) := by decide +kernel
theorem dX5_told_61 : decode cX5_told 61 = .ok (.iload_n 3, 1) := by decide +kernel
theorem dX5_told_62 : decode cX5_told 62 = .ok (.invokevirtual 160, 3) := by decide +kernel
theorem dX5_told_65 : decode cX5_told 65 = .ok (.ifCond .eq 7, 3) := by decide +kernel
theorem dX5_told_68 : decode cX5_told 68 = .ok (.iconst 1, 1) := by decide +kernel
theorem dX5_told_69 : decode cX5_told 69 = .ok (.goto 4, 3) := by decide +kernel
theorem dX5_told_72 : decode cX5_told 72 = .ok (.iconst 0, 1) := by decide +kernel
theorem dX5_told_73 : decode cX5_told 73 = .ok (.iadd, 1) := by decide +kernel
theorem dX5_told_74 : decode cX5_told 74 = .ok (.istore_n 2, 1) := by decide +kernel
theorem dX5_told_75 : decode cX5_told 75 = .ok (.iinc 3 1, 3) := by decide +kernel
theorem dX5_told_78 : decode cX5_told 78 = .ok (.goto (-25), 3) := by decide +kernel
theorem dX5_told_81 : decode cX5_told 81 = .ok (.iload_n 2, 1) := by decide +kernel
theorem dX5_told_82 : decode cX5_told 82 = .ok (.ireturn, 1) := by decide +kernel
theorem dX5_told_83 : decode cX5_told 83 = .ok (.iconst 0, 1) := by decide +kernel
theorem dX5_told_84 : decode cX5_told 84 = .ok (.istore_n 3, 1) := by decide +kernel
theorem dX5_told_85 : decode cX5_told 85 = .ok (.iload_n 3, 1) := by decide +kernel
theorem dX5_told_86 : decode cX5_told 86 = .ok (.bipush 8, 2) := by decide +kernel
theorem dX5_told_88 : decode cX5_told 88 = .ok (.if_icmp .ge 25, 3) := by decide +kernel
theorem dX5_told_91 : decode cX5_told 91 = .ok (.iload_n 2, 1) := by decide +kernel
theorem dX5_told_92 : decode cX5_told 92 = .ok (.aload_n 0, 1) := by decide +kernel
theorem dX5_told_93 : decode cX5_told 93 = .ok (.iload_n 3, 1) := by decide +kernel
theorem dX5_told_94 : decode cX5_told 94 = .ok (.invokevirtual 150, 3) := by decide +kernel
theorem dX5_told_97 : decode cX5_told 97 = .ok (.ifCond .eq 7, 3) := by decide +kernel
theorem dX5_told_100 : decode cX5_told 100 = .ok (.iconst 1, 1) := by decide +kernel
theorem dX5_told_101 : decode cX5_told 101 = .ok (.goto 4, 3) := by decide +kernel
theorem dX5_told_104 : decode cX5_told 104 = .ok (.iconst 0, 1) := by decide +kernel
theorem dX5_told_105 : decode cX5_told 105 = .ok (.iadd, 1) := by decide +kernel
theorem dX5_told_106 : decode cX5_told 106 = .ok (.istore_n 2, 1) := by decide +kernel
theorem dX5_told_107 : decode cX5_told 107 = .ok (.iinc 3 1, 3) := by decide +kernel
theorem dX5_told_110 : decode cX5_told 110 = .ok (.goto (-25), 3) := by decide +kernel
theorem dX5_told_113 : decode cX5_told 113 = .ok (.iload_n 2, 1) := by decide +kernel
theorem dX5_told_114 : decode cX5_told 114 = .ok (.ireturn, 1) := by decide +kernel
theorem dX5_told_115 : decode cX5_told 115 = .ok (.iconst (-1), 1) := by decide +kernel
theorem dX5_told_116 : decode cX5_told 116 = .ok (.ireturn, 1) := by decide +kernel
theorem dX5_trace_0 : decode cX5_trace 0 = .ok (.aload_n 0, 1) := by decide +kernel
theorem dX5_trace_1 : decode cX5_trace 1 = .ok (.getfield 144, 3) := by decide +kernel
theorem dX5_trace_4 : decode cX5_trace 4 = .ok (.lreturn, 1) := by decide +kernel
end
section
theorem dL_law_0 : decode cL_law 0 = .ok (.new 7, 3) := by decide +kernel
theorem dL_law_3 : decode cL_law 3 = .ok (.dup, 1) := by decide +kernel
theorem dL_law_4 : decode cL_law 4 = .ok (.invokespecial 9, 3) := by decide +kernel
theorem dL_law_7 : decode cL_law 7 = .ok (.astore_n 1, 1) := by decide +kernel
theorem dL_law_8 : decode cL_law 8 = .ok (.new 10, 3) := by decide +kernel
theorem dL_law_11 : decode cL_law 11 = .ok (.dup, 1) := by decide +kernel
theorem dL_law_12 : decode cL_law 12 = .ok (.invokespecial 12, 3) := by decide +kernel
theorem dL_law_15 : decode cL_law 15 = .ok (.astore_n 2, 1) := by decide +kernel
theorem dL_law_16 : decode cL_law 16 = .ok (.iconst 0, 1) := by decide +kernel
theorem dL_law_17 : decode cL_law 17 = .ok (.istore_n 3, 1) := by decide +kernel
theorem dL_law_18 : decode cL_law 18 = .ok (.iload_n 3, 1) := by decide +kernel
theorem dL_law_19 : decode cL_law 19 = .ok (.aload_n 0, 1) := by decide +kernel
theorem dL_law_20 : decode cL_law 20 = .ok (.arraylength, 1) := by decide +kernel
theorem dL_law_21 : decode cL_law 21 = .ok (.bipush 6, 2) := by decide +kernel
theorem dL_law_23 : decode cL_law 23 = .ok (.isub, 1) := by decide +kernel
theorem dL_law_24 : decode cL_law 24 = .ok (.if_icmp .gt 1298, 3) := by decide +kernel
theorem dL_law_27 : decode cL_law 27 = .ok (.aload_n 0, 1) := by decide +kernel
theorem dL_law_28 : decode cL_law 28 = .ok (.iload_n 3, 1) := by decide +kernel
theorem dL_law_29 : decode cL_law 29 = .ok (.iaload, 1) := by decide +kernel
theorem dL_law_30 : decode cL_law 30 = .ok (.bipush 31, 2) := by decide +kernel
theorem dL_law_32 : decode cL_law 32 = .ok (.iand, 1) := by decide +kernel
theorem dL_law_33 : decode cL_law 33 = .ok (.tableswitch 1283 0 30 #[139, 152, 205, 248, 281, 324, 377, 440, 463, 506, 539, 572, 635, 688, 711, 754, 797, 850, 893, 926, 969, 992, 1035, 1068, 1091, 1124, 1157, 1180, 1223, 1246, 1269], 139) := by decide +kernel
theorem dL_law_172 : decode cL_law 172 = .ok (.aload_n 1, 1) := by decide +kernel
theorem dL_law_173 : decode cL_law 173 = .ok (.invokevirtual 13, 3) := by decide +kernel
theorem dL_law_176 : decode cL_law 176 = .ok (.aload_n 2, 1) := by decide +kernel
theorem dL_law_177 : decode cL_law 177 = .ok (.invokevirtual 17, 3) := by decide +kernel
theorem dL_law_180 : decode cL_law 180 = .ok (.if_icmp .eq 1136, 3) := by decide +kernel
theorem dL_law_183 : decode cL_law 183 = .ok (.iconst 0, 1) := by decide +kernel
theorem dL_law_184 : decode cL_law 184 = .ok (.ireturn, 1) := by decide +kernel
theorem dL_law_185 : decode cL_law 185 = .ok (.aload_n 1, 1) := by decide +kernel
theorem dL_law_186 : decode cL_law 186 = .ok (.aload_n 0, 1) := by decide +kernel
theorem dL_law_187 : decode cL_law 187 = .ok (.iload_n 3, 1) := by decide +kernel
theorem dL_law_188 : decode cL_law 188 = .ok (.iconst 1, 1) := by decide +kernel
theorem dL_law_189 : decode cL_law 189 = .ok (.iadd, 1) := by decide +kernel
theorem dL_law_190 : decode cL_law 190 = .ok (.iaload, 1) := by decide +kernel
theorem dL_law_191 : decode cL_law 191 = .ok (.aload_n 0, 1) := by decide +kernel
theorem dL_law_192 : decode cL_law 192 = .ok (.iload_n 3, 1) := by decide +kernel
theorem dL_law_193 : decode cL_law 193 = .ok (.iconst 2, 1) := by decide +kernel
theorem dL_law_194 : decode cL_law 194 = .ok (.iadd, 1) := by decide +kernel
theorem dL_law_195 : decode cL_law 195 = .ok (.iaload, 1) := by decide +kernel
theorem dL_law_196 : decode cL_law 196 = .ok (.aload_n 0, 1) := by decide +kernel
theorem dL_law_197 : decode cL_law 197 = .ok (.iload_n 3, 1) := by decide +kernel
theorem dL_law_198 : decode cL_law 198 = .ok (.iconst 3, 1) := by decide +kernel
theorem dL_law_199 : decode cL_law 199 = .ok (.iadd, 1) := by decide +kernel
theorem dL_law_200 : decode cL_law 200 = .ok (.iaload, 1) := by decide +kernel
theorem dL_law_201 : decode cL_law 201 = .ok (.aload_n 0, 1) := by decide +kernel
theorem dL_law_202 : decode cL_law 202 = .ok (.iload_n 3, 1) := by decide +kernel
theorem dL_law_203 : decode cL_law 203 = .ok (.iconst 4, 1) := by decide +kernel
theorem dL_law_204 : decode cL_law 204 = .ok (.iadd, 1) := by decide +kernel
theorem dL_law_205 : decode cL_law 205 = .ok (.iaload, 1) := by decide +kernel
theorem dL_law_206 : decode cL_law 206 = .ok (.invokevirtual 18, 3) := by decide +kernel
theorem dL_law_209 : decode cL_law 209 = .ok (.aload_n 2, 1) := by decide +kernel
theorem dL_law_210 : decode cL_law 210 = .ok (.aload_n 0, 1) := by decide +kernel
theorem dL_law_211 : decode cL_law 211 = .ok (.iload_n 3, 1) := by decide +kernel
theorem dL_law_212 : decode cL_law 212 = .ok (.iconst 1, 1) := by decide +kernel
theorem dL_law_213 : decode cL_law 213 = .ok (.iadd, 1) := by decide +kernel
theorem dL_law_214 : decode cL_law 214 = .ok (.iaload, 1) := by decide +kernel
theorem dL_law_215 : decode cL_law 215 = .ok (.aload_n 0, 1) := by decide +kernel
theorem dL_law_216 : decode cL_law 216 = .ok (.iload_n 3, 1) := by decide +kernel
theorem dL_law_217 : decode cL_law 217 = .ok (.iconst 2, 1) := by decide +kernel
theorem dL_law_218 : decode cL_law 218 = .ok (.iadd, 1) := by decide +kernel
theorem dL_law_219 : decode cL_law 219 = .ok (.iaload, 1) := by decide +kernel
theorem dL_law_220 : decode cL_law 220 = .ok (.aload_n 0, 1) := by decide +kernel
theorem dL_law_221 : decode cL_law 221 = .ok (.iload_n 3, 1) := by decide +kernel
theorem dL_law_222 : decode cL_law 222 = .ok (.iconst 3, 1) := by decide +kernel
theorem dL_law_223 : decode cL_law 223 = .ok (.iadd, 1) := by decide +kernel
theorem dL_law_224 : decode cL_law 224 = .ok (.iaload, 1) := by decide +kernel
theorem dL_law_225 : decode cL_law 225 = .ok (.aload_n 0, 1) := by decide +kernel
theorem dL_law_226 : decode cL_law 226 = .ok (.iload_n 3, 1) := by decide +kernel
theorem dL_law_227 : decode cL_law 227 = .ok (.iconst 4, 1) := by decide +kernel
theorem dL_law_228 : decode cL_law 228 = .ok (.iadd, 1) := by decide +kernel
theorem dL_law_229 : decode cL_law 229 = .ok (.iaload, 1) := by decide +kernel
theorem dL_law_230 : decode cL_law 230 = .ok (.invokevirtual 22, 3) := by decide +kernel
theorem dL_law_233 : decode cL_law 233 = .ok (.if_icmp .eq 1083, 3) := by decide +kernel
theorem dL_law_236 : decode cL_law 236 = .ok (.iconst 0, 1) := by decide +kernel
theorem dL_law_237 : decode cL_law 237 = .ok (.ireturn, 1) := by decide +kernel
theorem dL_law_238 : decode cL_law 238 = .ok (.aload_n 1, 1) := by decide +kernel
theorem dL_law_239 : decode cL_law 239 = .ok (.aload_n 0, 1) := by decide +kernel
theorem dL_law_240 : decode cL_law 240 = .ok (.iload_n 3, 1) := by decide +kernel
theorem dL_law_241 : decode cL_law 241 = .ok (.iconst 1, 1) := by decide +kernel
theorem dL_law_242 : decode cL_law 242 = .ok (.iadd, 1) := by decide +kernel
theorem dL_law_243 : decode cL_law 243 = .ok (.iaload, 1) := by decide +kernel
theorem dL_law_244 : decode cL_law 244 = .ok (.aload_n 0, 1) := by decide +kernel
theorem dL_law_245 : decode cL_law 245 = .ok (.iload_n 3, 1) := by decide +kernel
theorem dL_law_246 : decode cL_law 246 = .ok (.iconst 2, 1) := by decide +kernel
theorem dL_law_247 : decode cL_law 247 = .ok (.iadd, 1) := by decide +kernel
theorem dL_law_248 : decode cL_law 248 = .ok (.iaload, 1) := by decide +kernel
theorem dL_law_249 : decode cL_law 249 = .ok (.aload_n 0, 1) := by decide +kernel
theorem dL_law_250 : decode cL_law 250 = .ok (.iload_n 3, 1) := by decide +kernel
theorem dL_law_251 : decode cL_law 251 = .ok (.iconst 3, 1) := by decide +kernel
theorem dL_law_252 : decode cL_law 252 = .ok (.iadd, 1) := by decide +kernel
theorem dL_law_253 : decode cL_law 253 = .ok (.iaload, 1) := by decide +kernel
theorem dL_law_254 : decode cL_law 254 = .ok (.invokevirtual 23, 3) := by decide +kernel
theorem dL_law_257 : decode cL_law 257 = .ok (.aload_n 2, 1) := by decide +kernel
theorem dL_law_258 : decode cL_law 258 = .ok (.aload_n 0, 1) := by decide +kernel
theorem dL_law_259 : decode cL_law 259 = .ok (.iload_n 3, 1) := by decide +kernel
theorem dL_law_260 : decode cL_law 260 = .ok (.iconst 1, 1) := by decide +kernel
theorem dL_law_261 : decode cL_law 261 = .ok (.iadd, 1) := by decide +kernel
theorem dL_law_262 : decode cL_law 262 = .ok (.iaload, 1) := by decide +kernel
theorem dL_law_263 : decode cL_law 263 = .ok (.aload_n 0, 1) := by decide +kernel
theorem dL_law_264 : decode cL_law 264 = .ok (.iload_n 3, 1) := by decide +kernel
theorem dL_law_265 : decode cL_law 265 = .ok (.iconst 2, 1) := by decide +kernel
theorem dL_law_266 : decode cL_law 266 = .ok (.iadd, 1) := by decide +kernel
theorem dL_law_267 : decode cL_law 267 = .ok (.iaload, 1) := by decide +kernel
theorem dL_law_268 : decode cL_law 268 = .ok (.aload_n 0, 1) := by decide +kernel
theorem dL_law_269 : decode cL_law 269 = .ok (.iload_n 3, 1) := by decide +kernel
theorem dL_law_270 : decode cL_law 270 = .ok (.iconst 3, 1) := by decide +kernel
theorem dL_law_271 : decode cL_law 271 = .ok (.iadd, 1) := by decide +kernel
theorem dL_law_272 : decode cL_law 272 = .ok (.iaload, 1) := by decide +kernel
theorem dL_law_273 : decode cL_law 273 = .ok (.invokevirtual 27, 3) := by decide +kernel
theorem dL_law_276 : decode cL_law 276 = .ok (.if_icmp .eq 1040, 3) := by decide +kernel
theorem dL_law_279 : decode cL_law 279 = .ok (.iconst 0, 1) := by decide +kernel
theorem dL_law_280 : decode cL_law 280 = .ok (.ireturn, 1) := by decide +kernel
theorem dL_law_281 : decode cL_law 281 = .ok (.aload_n 1, 1) := by decide +kernel
theorem dL_law_282 : decode cL_law 282 = .ok (.aload_n 0, 1) := by decide +kernel
theorem dL_law_283 : decode cL_law 283 = .ok (.iload_n 3, 1) := by decide +kernel
theorem dL_law_284 : decode cL_law 284 = .ok (.iconst 1, 1) := by decide +kernel
theorem dL_law_285 : decode cL_law 285 = .ok (.iadd, 1) := by decide +kernel
theorem dL_law_286 : decode cL_law 286 = .ok (.iaload, 1) := by decide +kernel
theorem dL_law_287 : decode cL_law 287 = .ok (.aload_n 0, 1) := by decide +kernel
theorem dL_law_288 : decode cL_law 288 = .ok (.iload_n 3, 1) := by decide +kernel
theorem dL_law_289 : decode cL_law 289 = .ok (.iconst 2, 1) := by decide +kernel
theorem dL_law_290 : decode cL_law 290 = .ok (.iadd, 1) := by decide +kernel
theorem dL_law_291 : decode cL_law 291 = .ok (.iaload, 1) := by decide +kernel
theorem dL_law_292 : decode cL_law 292 = .ok (.invokevirtual 28, 3) := by decide +kernel
theorem dL_law_295 : decode cL_law 295 = .ok (.aload_n 2, 1) := by decide +kernel
theorem dL_law_296 : decode cL_law 296 = .ok (.aload_n 0, 1) := by decide +kernel
theorem dL_law_297 : decode cL_law 297 = .ok (.iload_n 3, 1) := by decide +kernel
theorem dL_law_298 : decode cL_law 298 = .ok (.iconst 1, 1) := by decide +kernel
theorem dL_law_299 : decode cL_law 299 = .ok (.iadd, 1) := by decide +kernel
theorem dL_law_300 : decode cL_law 300 = .ok (.iaload, 1) := by decide +kernel
theorem dL_law_301 : decode cL_law 301 = .ok (.aload_n 0, 1) := by decide +kernel
theorem dL_law_302 : decode cL_law 302 = .ok (.iload_n 3, 1) := by decide +kernel
theorem dL_law_303 : decode cL_law 303 = .ok (.iconst 2, 1) := by decide +kernel
theorem dL_law_304 : decode cL_law 304 = .ok (.iadd, 1) := by decide +kernel
theorem dL_law_305 : decode cL_law 305 = .ok (.iaload, 1) := by decide +kernel
theorem dL_law_306 : decode cL_law 306 = .ok (.invokevirtual 32, 3) := by decide +kernel
theorem dL_law_309 : decode cL_law 309 = .ok (.if_icmp .eq 1007, 3) := by decide +kernel
theorem dL_law_312 : decode cL_law 312 = .ok (.iconst 0, 1) := by decide +kernel
theorem dL_law_313 : decode cL_law 313 = .ok (.ireturn, 1) := by decide +kernel
theorem dL_law_314 : decode cL_law 314 = .ok (.aload_n 1, 1) := by decide +kernel
theorem dL_law_315 : decode cL_law 315 = .ok (.aload_n 0, 1) := by decide +kernel
theorem dL_law_316 : decode cL_law 316 = .ok (.iload_n 3, 1) := by decide +kernel
theorem dL_law_317 : decode cL_law 317 = .ok (.iconst 1, 1) := by decide +kernel
theorem dL_law_318 : decode cL_law 318 = .ok (.iadd, 1) := by decide +kernel
theorem dL_law_319 : decode cL_law 319 = .ok (.iaload, 1) := by decide +kernel
theorem dL_law_320 : decode cL_law 320 = .ok (.aload_n 0, 1) := by decide +kernel
theorem dL_law_321 : decode cL_law 321 = .ok (.iload_n 3, 1) := by decide +kernel
theorem dL_law_322 : decode cL_law 322 = .ok (.iconst 2, 1) := by decide +kernel
theorem dL_law_323 : decode cL_law 323 = .ok (.iadd, 1) := by decide +kernel
theorem dL_law_324 : decode cL_law 324 = .ok (.iaload, 1) := by decide +kernel
theorem dL_law_325 : decode cL_law 325 = .ok (.aload_n 0, 1) := by decide +kernel
theorem dL_law_326 : decode cL_law 326 = .ok (.iload_n 3, 1) := by decide +kernel
theorem dL_law_327 : decode cL_law 327 = .ok (.iconst 3, 1) := by decide +kernel
theorem dL_law_328 : decode cL_law 328 = .ok (.iadd, 1) := by decide +kernel
theorem dL_law_329 : decode cL_law 329 = .ok (.iaload, 1) := by decide +kernel
theorem dL_law_330 : decode cL_law 330 = .ok (.invokevirtual 33, 3) := by decide +kernel
theorem dL_law_333 : decode cL_law 333 = .ok (.aload_n 2, 1) := by decide +kernel
theorem dL_law_334 : decode cL_law 334 = .ok (.aload_n 0, 1) := by decide +kernel
theorem dL_law_335 : decode cL_law 335 = .ok (.iload_n 3, 1) := by decide +kernel
theorem dL_law_336 : decode cL_law 336 = .ok (.iconst 1, 1) := by decide +kernel
theorem dL_law_337 : decode cL_law 337 = .ok (.iadd, 1) := by decide +kernel
theorem dL_law_338 : decode cL_law 338 = .ok (.iaload, 1) := by decide +kernel
theorem dL_law_339 : decode cL_law 339 = .ok (.aload_n 0, 1) := by decide +kernel
theorem dL_law_340 : decode cL_law 340 = .ok (.iload_n 3, 1) := by decide +kernel
theorem dL_law_341 : decode cL_law 341 = .ok (.iconst 2, 1) := by decide +kernel
theorem dL_law_342 : decode cL_law 342 = .ok (.iadd, 1) := by decide +kernel
theorem dL_law_343 : decode cL_law 343 = .ok (.iaload, 1) := by decide +kernel
theorem dL_law_344 : decode cL_law 344 = .ok (.aload_n 0, 1) := by decide +kernel
theorem dL_law_345 : decode cL_law 345 = .ok (.iload_n 3, 1) := by decide +kernel
theorem dL_law_346 : decode cL_law 346 = .ok (.iconst 3, 1) := by decide +kernel
theorem dL_law_347 : decode cL_law 347 = .ok (.iadd, 1) := by decide +kernel
theorem dL_law_348 : decode cL_law 348 = .ok (.iaload, 1) := by decide +kernel
theorem dL_law_349 : decode cL_law 349 = .ok (.invokevirtual 36, 3) := by decide +kernel
theorem dL_law_352 : decode cL_law 352 = .ok (.if_icmp .eq 964, 3) := by decide +kernel
theorem dL_law_355 : decode cL_law 355 = .ok (.iconst 0, 1) := by decide +kernel
theorem dL_law_356 : decode cL_law 356 = .ok (.ireturn, 1) := by decide +kernel
theorem dL_law_357 : decode cL_law 357 = .ok (.aload_n 1, 1) := by decide +kernel
theorem dL_law_358 : decode cL_law 358 = .ok (.aload_n 0, 1) := by decide +kernel
theorem dL_law_359 : decode cL_law 359 = .ok (.iload_n 3, 1) := by decide +kernel
theorem dL_law_360 : decode cL_law 360 = .ok (.iconst 1, 1) := by decide +kernel
theorem dL_law_361 : decode cL_law 361 = .ok (.iadd, 1) := by decide +kernel
theorem dL_law_362 : decode cL_law 362 = .ok (.iaload, 1) := by decide +kernel
theorem dL_law_363 : decode cL_law 363 = .ok (.aload_n 0, 1) := by decide +kernel
theorem dL_law_364 : decode cL_law 364 = .ok (.iload_n 3, 1) := by decide +kernel
theorem dL_law_365 : decode cL_law 365 = .ok (.iconst 2, 1) := by decide +kernel
theorem dL_law_366 : decode cL_law 366 = .ok (.iadd, 1) := by decide +kernel
theorem dL_law_367 : decode cL_law 367 = .ok (.iaload, 1) := by decide +kernel
theorem dL_law_368 : decode cL_law 368 = .ok (.aload_n 0, 1) := by decide +kernel
theorem dL_law_369 : decode cL_law 369 = .ok (.iload_n 3, 1) := by decide +kernel
theorem dL_law_370 : decode cL_law 370 = .ok (.iconst 3, 1) := by decide +kernel
theorem dL_law_371 : decode cL_law 371 = .ok (.iadd, 1) := by decide +kernel
theorem dL_law_372 : decode cL_law 372 = .ok (.iaload, 1) := by decide +kernel
theorem dL_law_373 : decode cL_law 373 = .ok (.aload_n 0, 1) := by decide +kernel
theorem dL_law_374 : decode cL_law 374 = .ok (.iload_n 3, 1) := by decide +kernel
theorem dL_law_375 : decode cL_law 375 = .ok (.iconst 4, 1) := by decide +kernel
theorem dL_law_376 : decode cL_law 376 = .ok (.iadd, 1) := by decide +kernel
theorem dL_law_377 : decode cL_law 377 = .ok (.iaload, 1) := by decide +kernel
theorem dL_law_378 : decode cL_law 378 = .ok (.invokevirtual 37, 3) := by decide +kernel
theorem dL_law_381 : decode cL_law 381 = .ok (.aload_n 2, 1) := by decide +kernel
theorem dL_law_382 : decode cL_law 382 = .ok (.aload_n 0, 1) := by decide +kernel
theorem dL_law_383 : decode cL_law 383 = .ok (.iload_n 3, 1) := by decide +kernel
theorem dL_law_384 : decode cL_law 384 = .ok (.iconst 1, 1) := by decide +kernel
theorem dL_law_385 : decode cL_law 385 = .ok (.iadd, 1) := by decide +kernel
theorem dL_law_386 : decode cL_law 386 = .ok (.iaload, 1) := by decide +kernel
theorem dL_law_387 : decode cL_law 387 = .ok (.aload_n 0, 1) := by decide +kernel
theorem dL_law_388 : decode cL_law 388 = .ok (.iload_n 3, 1) := by decide +kernel
theorem dL_law_389 : decode cL_law 389 = .ok (.iconst 2, 1) := by decide +kernel
theorem dL_law_390 : decode cL_law 390 = .ok (.iadd, 1) := by decide +kernel
theorem dL_law_391 : decode cL_law 391 = .ok (.iaload, 1) := by decide +kernel
theorem dL_law_392 : decode cL_law 392 = .ok (.aload_n 0, 1) := by decide +kernel
theorem dL_law_393 : decode cL_law 393 = .ok (.iload_n 3, 1) := by decide +kernel
theorem dL_law_394 : decode cL_law 394 = .ok (.iconst 3, 1) := by decide +kernel
theorem dL_law_395 : decode cL_law 395 = .ok (.iadd, 1) := by decide +kernel
theorem dL_law_396 : decode cL_law 396 = .ok (.iaload, 1) := by decide +kernel
theorem dL_law_397 : decode cL_law 397 = .ok (.aload_n 0, 1) := by decide +kernel
theorem dL_law_398 : decode cL_law 398 = .ok (.iload_n 3, 1) := by decide +kernel
theorem dL_law_399 : decode cL_law 399 = .ok (.iconst 4, 1) := by decide +kernel
theorem dL_law_400 : decode cL_law 400 = .ok (.iadd, 1) := by decide +kernel
theorem dL_law_401 : decode cL_law 401 = .ok (.iaload, 1) := by decide +kernel
theorem dL_law_402 : decode cL_law 402 = .ok (.invokevirtual 40, 3) := by decide +kernel
theorem dL_law_405 : decode cL_law 405 = .ok (.if_icmp .eq 911, 3) := by decide +kernel
theorem dL_law_408 : decode cL_law 408 = .ok (.iconst 0, 1) := by decide +kernel
theorem dL_law_409 : decode cL_law 409 = .ok (.ireturn, 1) := by decide +kernel
theorem dL_law_410 : decode cL_law 410 = .ok (.aload_n 1, 1) := by decide +kernel
theorem dL_law_411 : decode cL_law 411 = .ok (.aload_n 0, 1) := by decide +kernel
theorem dL_law_412 : decode cL_law 412 = .ok (.iload_n 3, 1) := by decide +kernel
theorem dL_law_413 : decode cL_law 413 = .ok (.iconst 1, 1) := by decide +kernel
theorem dL_law_414 : decode cL_law 414 = .ok (.iadd, 1) := by decide +kernel
theorem dL_law_415 : decode cL_law 415 = .ok (.iaload, 1) := by decide +kernel
theorem dL_law_416 : decode cL_law 416 = .ok (.aload_n 0, 1) := by decide +kernel
theorem dL_law_417 : decode cL_law 417 = .ok (.iload_n 3, 1) := by decide +kernel
theorem dL_law_418 : decode cL_law 418 = .ok (.iconst 2, 1) := by decide +kernel
theorem dL_law_419 : decode cL_law 419 = .ok (.iadd, 1) := by decide +kernel
theorem dL_law_420 : decode cL_law 420 = .ok (.iaload, 1) := by decide +kernel
theorem dL_law_421 : decode cL_law 421 = .ok (.aload_n 0, 1) := by decide +kernel
theorem dL_law_422 : decode cL_law 422 = .ok (.iload_n 3, 1) := by decide +kernel
theorem dL_law_423 : decode cL_law 423 = .ok (.iconst 3, 1) := by decide +kernel
theorem dL_law_424 : decode cL_law 424 = .ok (.iadd, 1) := by decide +kernel
theorem dL_law_425 : decode cL_law 425 = .ok (.iaload, 1) := by decide +kernel
theorem dL_law_426 : decode cL_law 426 = .ok (.aload_n 0, 1) := by decide +kernel
theorem dL_law_427 : decode cL_law 427 = .ok (.iload_n 3, 1) := by decide +kernel
theorem dL_law_428 : decode cL_law 428 = .ok (.iconst 4, 1) := by decide +kernel
theorem dL_law_429 : decode cL_law 429 = .ok (.iadd, 1) := by decide +kernel
theorem dL_law_430 : decode cL_law 430 = .ok (.iaload, 1) := by decide +kernel
theorem dL_law_431 : decode cL_law 431 = .ok (.aload_n 0, 1) := by decide +kernel
theorem dL_law_432 : decode cL_law 432 = .ok (.iload_n 3, 1) := by decide +kernel
theorem dL_law_433 : decode cL_law 433 = .ok (.iconst 5, 1) := by decide +kernel
theorem dL_law_434 : decode cL_law 434 = .ok (.iadd, 1) := by decide +kernel
theorem dL_law_435 : decode cL_law 435 = .ok (.iaload, 1) := by decide +kernel
theorem dL_law_436 : decode cL_law 436 = .ok (.invokevirtual 41, 3) := by decide +kernel
theorem dL_law_439 : decode cL_law 439 = .ok (.aload_n 2, 1) := by decide +kernel
theorem dL_law_440 : decode cL_law 440 = .ok (.aload_n 0, 1) := by decide +kernel
theorem dL_law_441 : decode cL_law 441 = .ok (.iload_n 3, 1) := by decide +kernel
theorem dL_law_442 : decode cL_law 442 = .ok (.iconst 1, 1) := by decide +kernel
theorem dL_law_443 : decode cL_law 443 = .ok (.iadd, 1) := by decide +kernel
theorem dL_law_444 : decode cL_law 444 = .ok (.iaload, 1) := by decide +kernel
theorem dL_law_445 : decode cL_law 445 = .ok (.aload_n 0, 1) := by decide +kernel
theorem dL_law_446 : decode cL_law 446 = .ok (.iload_n 3, 1) := by decide +kernel
theorem dL_law_447 : decode cL_law 447 = .ok (.iconst 2, 1) := by decide +kernel
theorem dL_law_448 : decode cL_law 448 = .ok (.iadd, 1) := by decide +kernel
theorem dL_law_449 : decode cL_law 449 = .ok (.iaload, 1) := by decide +kernel
theorem dL_law_450 : decode cL_law 450 = .ok (.aload_n 0, 1) := by decide +kernel
theorem dL_law_451 : decode cL_law 451 = .ok (.iload_n 3, 1) := by decide +kernel
theorem dL_law_452 : decode cL_law 452 = .ok (.iconst 3, 1) := by decide +kernel
theorem dL_law_453 : decode cL_law 453 = .ok (.iadd, 1) := by decide +kernel
theorem dL_law_454 : decode cL_law 454 = .ok (.iaload, 1) := by decide +kernel
theorem dL_law_455 : decode cL_law 455 = .ok (.aload_n 0, 1) := by decide +kernel
theorem dL_law_456 : decode cL_law 456 = .ok (.iload_n 3, 1) := by decide +kernel
theorem dL_law_457 : decode cL_law 457 = .ok (.iconst 4, 1) := by decide +kernel
theorem dL_law_458 : decode cL_law 458 = .ok (.iadd, 1) := by decide +kernel
theorem dL_law_459 : decode cL_law 459 = .ok (.iaload, 1) := by decide +kernel
theorem dL_law_460 : decode cL_law 460 = .ok (.aload_n 0, 1) := by decide +kernel
theorem dL_law_461 : decode cL_law 461 = .ok (.iload_n 3, 1) := by decide +kernel
theorem dL_law_462 : decode cL_law 462 = .ok (.iconst 5, 1) := by decide +kernel
theorem dL_law_463 : decode cL_law 463 = .ok (.iadd, 1) := by decide +kernel
theorem dL_law_464 : decode cL_law 464 = .ok (.iaload, 1) := by decide +kernel
theorem dL_law_465 : decode cL_law 465 = .ok (.invokevirtual 45, 3) := by decide +kernel
theorem dL_law_468 : decode cL_law 468 = .ok (.if_icmp .eq 848, 3) := by decide +kernel
theorem dL_law_471 : decode cL_law 471 = .ok (.iconst 0, 1) := by decide +kernel
theorem dL_law_472 : decode cL_law 472 = .ok (.ireturn, 1) := by decide +kernel
theorem dL_law_473 : decode cL_law 473 = .ok (.aload_n 1, 1) := by decide +kernel
theorem dL_law_474 : decode cL_law 474 = .ok (.aload_n 0, 1) := by decide +kernel
theorem dL_law_475 : decode cL_law 475 = .ok (.iload_n 3, 1) := by decide +kernel
theorem dL_law_476 : decode cL_law 476 = .ok (.iconst 1, 1) := by decide +kernel
theorem dL_law_477 : decode cL_law 477 = .ok (.iadd, 1) := by decide +kernel
theorem dL_law_478 : decode cL_law 478 = .ok (.iaload, 1) := by decide +kernel
theorem dL_law_479 : decode cL_law 479 = .ok (.invokevirtual 46, 3) := by decide +kernel
theorem dL_law_482 : decode cL_law 482 = .ok (.aload_n 2, 1) := by decide +kernel
theorem dL_law_483 : decode cL_law 483 = .ok (.aload_n 0, 1) := by decide +kernel
theorem dL_law_484 : decode cL_law 484 = .ok (.iload_n 3, 1) := by decide +kernel
theorem dL_law_485 : decode cL_law 485 = .ok (.iconst 1, 1) := by decide +kernel
theorem dL_law_486 : decode cL_law 486 = .ok (.iadd, 1) := by decide +kernel
theorem dL_law_487 : decode cL_law 487 = .ok (.iaload, 1) := by decide +kernel
theorem dL_law_488 : decode cL_law 488 = .ok (.invokevirtual 50, 3) := by decide +kernel
theorem dL_law_491 : decode cL_law 491 = .ok (.if_icmp .eq 825, 3) := by decide +kernel
theorem dL_law_494 : decode cL_law 494 = .ok (.iconst 0, 1) := by decide +kernel
theorem dL_law_495 : decode cL_law 495 = .ok (.ireturn, 1) := by decide +kernel
theorem dL_law_496 : decode cL_law 496 = .ok (.aload_n 1, 1) := by decide +kernel
theorem dL_law_497 : decode cL_law 497 = .ok (.aload_n 0, 1) := by decide +kernel
theorem dL_law_498 : decode cL_law 498 = .ok (.iload_n 3, 1) := by decide +kernel
theorem dL_law_499 : decode cL_law 499 = .ok (.iconst 1, 1) := by decide +kernel
theorem dL_law_500 : decode cL_law 500 = .ok (.iadd, 1) := by decide +kernel
theorem dL_law_501 : decode cL_law 501 = .ok (.iaload, 1) := by decide +kernel
theorem dL_law_502 : decode cL_law 502 = .ok (.aload_n 0, 1) := by decide +kernel
theorem dL_law_503 : decode cL_law 503 = .ok (.iload_n 3, 1) := by decide +kernel
theorem dL_law_504 : decode cL_law 504 = .ok (.iconst 2, 1) := by decide +kernel
theorem dL_law_505 : decode cL_law 505 = .ok (.iadd, 1) := by decide +kernel
theorem dL_law_506 : decode cL_law 506 = .ok (.iaload, 1) := by decide +kernel
theorem dL_law_507 : decode cL_law 507 = .ok (.aload_n 0, 1) := by decide +kernel
theorem dL_law_508 : decode cL_law 508 = .ok (.iload_n 3, 1) := by decide +kernel
theorem dL_law_509 : decode cL_law 509 = .ok (.iconst 3, 1) := by decide +kernel
theorem dL_law_510 : decode cL_law 510 = .ok (.iadd, 1) := by decide +kernel
theorem dL_law_511 : decode cL_law 511 = .ok (.iaload, 1) := by decide +kernel
theorem dL_law_512 : decode cL_law 512 = .ok (.invokevirtual 51, 3) := by decide +kernel
theorem dL_law_515 : decode cL_law 515 = .ok (.aload_n 2, 1) := by decide +kernel
theorem dL_law_516 : decode cL_law 516 = .ok (.aload_n 0, 1) := by decide +kernel
theorem dL_law_517 : decode cL_law 517 = .ok (.iload_n 3, 1) := by decide +kernel
theorem dL_law_518 : decode cL_law 518 = .ok (.iconst 1, 1) := by decide +kernel
theorem dL_law_519 : decode cL_law 519 = .ok (.iadd, 1) := by decide +kernel
theorem dL_law_520 : decode cL_law 520 = .ok (.iaload, 1) := by decide +kernel
theorem dL_law_521 : decode cL_law 521 = .ok (.aload_n 0, 1) := by decide +kernel
theorem dL_law_522 : decode cL_law 522 = .ok (.iload_n 3, 1) := by decide +kernel
theorem dL_law_523 : decode cL_law 523 = .ok (.iconst 2, 1) := by decide +kernel
theorem dL_law_524 : decode cL_law 524 = .ok (.iadd, 1) := by decide +kernel
theorem dL_law_525 : decode cL_law 525 = .ok (.iaload, 1) := by decide +kernel
theorem dL_law_526 : decode cL_law 526 = .ok (.aload_n 0, 1) := by decide +kernel
theorem dL_law_527 : decode cL_law 527 = .ok (.iload_n 3, 1) := by decide +kernel
theorem dL_law_528 : decode cL_law 528 = .ok (.iconst 3, 1) := by decide +kernel
theorem dL_law_529 : decode cL_law 529 = .ok (.iadd, 1) := by decide +kernel
theorem dL_law_530 : decode cL_law 530 = .ok (.iaload, 1) := by decide +kernel
theorem dL_law_531 : decode cL_law 531 = .ok (.invokevirtual 54, 3) := by decide +kernel
theorem dL_law_534 : decode cL_law 534 = .ok (.if_icmp .eq 782, 3) := by decide +kernel
theorem dL_law_537 : decode cL_law 537 = .ok (.iconst 0, 1) := by decide +kernel
theorem dL_law_538 : decode cL_law 538 = .ok (.ireturn, 1) := by decide +kernel
theorem dL_law_539 : decode cL_law 539 = .ok (.aload_n 1, 1) := by decide +kernel
theorem dL_law_540 : decode cL_law 540 = .ok (.aload_n 0, 1) := by decide +kernel
theorem dL_law_541 : decode cL_law 541 = .ok (.iload_n 3, 1) := by decide +kernel
theorem dL_law_542 : decode cL_law 542 = .ok (.iconst 1, 1) := by decide +kernel
theorem dL_law_543 : decode cL_law 543 = .ok (.iadd, 1) := by decide +kernel
theorem dL_law_544 : decode cL_law 544 = .ok (.iaload, 1) := by decide +kernel
theorem dL_law_545 : decode cL_law 545 = .ok (.aload_n 0, 1) := by decide +kernel
theorem dL_law_546 : decode cL_law 546 = .ok (.iload_n 3, 1) := by decide +kernel
theorem dL_law_547 : decode cL_law 547 = .ok (.iconst 2, 1) := by decide +kernel
theorem dL_law_548 : decode cL_law 548 = .ok (.iadd, 1) := by decide +kernel
theorem dL_law_549 : decode cL_law 549 = .ok (.iaload, 1) := by decide +kernel
theorem dL_law_550 : decode cL_law 550 = .ok (.invokevirtual 55, 3) := by decide +kernel
theorem dL_law_553 : decode cL_law 553 = .ok (.aload_n 2, 1) := by decide +kernel
theorem dL_law_554 : decode cL_law 554 = .ok (.aload_n 0, 1) := by decide +kernel
theorem dL_law_555 : decode cL_law 555 = .ok (.iload_n 3, 1) := by decide +kernel
theorem dL_law_556 : decode cL_law 556 = .ok (.iconst 1, 1) := by decide +kernel
theorem dL_law_557 : decode cL_law 557 = .ok (.iadd, 1) := by decide +kernel
theorem dL_law_558 : decode cL_law 558 = .ok (.iaload, 1) := by decide +kernel
theorem dL_law_559 : decode cL_law 559 = .ok (.aload_n 0, 1) := by decide +kernel
theorem dL_law_560 : decode cL_law 560 = .ok (.iload_n 3, 1) := by decide +kernel
theorem dL_law_561 : decode cL_law 561 = .ok (.iconst 2, 1) := by decide +kernel
theorem dL_law_562 : decode cL_law 562 = .ok (.iadd, 1) := by decide +kernel
theorem dL_law_563 : decode cL_law 563 = .ok (.iaload, 1) := by decide +kernel
theorem dL_law_564 : decode cL_law 564 = .ok (.invokevirtual 58, 3) := by decide +kernel
theorem dL_law_567 : decode cL_law 567 = .ok (.if_icmp .eq 749, 3) := by decide +kernel
theorem dL_law_570 : decode cL_law 570 = .ok (.iconst 0, 1) := by decide +kernel
theorem dL_law_571 : decode cL_law 571 = .ok (.ireturn, 1) := by decide +kernel
theorem dL_law_572 : decode cL_law 572 = .ok (.aload_n 1, 1) := by decide +kernel
theorem dL_law_573 : decode cL_law 573 = .ok (.aload_n 0, 1) := by decide +kernel
theorem dL_law_574 : decode cL_law 574 = .ok (.iload_n 3, 1) := by decide +kernel
theorem dL_law_575 : decode cL_law 575 = .ok (.iconst 1, 1) := by decide +kernel
theorem dL_law_576 : decode cL_law 576 = .ok (.iadd, 1) := by decide +kernel
theorem dL_law_577 : decode cL_law 577 = .ok (.iaload, 1) := by decide +kernel
theorem dL_law_578 : decode cL_law 578 = .ok (.aload_n 0, 1) := by decide +kernel
theorem dL_law_579 : decode cL_law 579 = .ok (.iload_n 3, 1) := by decide +kernel
theorem dL_law_580 : decode cL_law 580 = .ok (.iconst 2, 1) := by decide +kernel
theorem dL_law_581 : decode cL_law 581 = .ok (.iadd, 1) := by decide +kernel
theorem dL_law_582 : decode cL_law 582 = .ok (.iaload, 1) := by decide +kernel
theorem dL_law_583 : decode cL_law 583 = .ok (.invokevirtual 59, 3) := by decide +kernel
theorem dL_law_586 : decode cL_law 586 = .ok (.aload_n 2, 1) := by decide +kernel
theorem dL_law_587 : decode cL_law 587 = .ok (.aload_n 0, 1) := by decide +kernel
theorem dL_law_588 : decode cL_law 588 = .ok (.iload_n 3, 1) := by decide +kernel
theorem dL_law_589 : decode cL_law 589 = .ok (.iconst 1, 1) := by decide +kernel
theorem dL_law_590 : decode cL_law 590 = .ok (.iadd, 1) := by decide +kernel
theorem dL_law_591 : decode cL_law 591 = .ok (.iaload, 1) := by decide +kernel
theorem dL_law_592 : decode cL_law 592 = .ok (.aload_n 0, 1) := by decide +kernel
theorem dL_law_593 : decode cL_law 593 = .ok (.iload_n 3, 1) := by decide +kernel
theorem dL_law_594 : decode cL_law 594 = .ok (.iconst 2, 1) := by decide +kernel
theorem dL_law_595 : decode cL_law 595 = .ok (.iadd, 1) := by decide +kernel
theorem dL_law_596 : decode cL_law 596 = .ok (.iaload, 1) := by decide +kernel
theorem dL_law_597 : decode cL_law 597 = .ok (.invokevirtual 62, 3) := by decide +kernel
theorem dL_law_600 : decode cL_law 600 = .ok (.if_icmp .eq 716, 3) := by decide +kernel
theorem dL_law_603 : decode cL_law 603 = .ok (.iconst 0, 1) := by decide +kernel
theorem dL_law_604 : decode cL_law 604 = .ok (.ireturn, 1) := by decide +kernel
theorem dL_law_605 : decode cL_law 605 = .ok (.aload_n 1, 1) := by decide +kernel
theorem dL_law_606 : decode cL_law 606 = .ok (.aload_n 0, 1) := by decide +kernel
theorem dL_law_607 : decode cL_law 607 = .ok (.iload_n 3, 1) := by decide +kernel
theorem dL_law_608 : decode cL_law 608 = .ok (.iconst 1, 1) := by decide +kernel
theorem dL_law_609 : decode cL_law 609 = .ok (.iadd, 1) := by decide +kernel
theorem dL_law_610 : decode cL_law 610 = .ok (.iaload, 1) := by decide +kernel
theorem dL_law_611 : decode cL_law 611 = .ok (.aload_n 0, 1) := by decide +kernel
theorem dL_law_612 : decode cL_law 612 = .ok (.iload_n 3, 1) := by decide +kernel
theorem dL_law_613 : decode cL_law 613 = .ok (.iconst 2, 1) := by decide +kernel
theorem dL_law_614 : decode cL_law 614 = .ok (.iadd, 1) := by decide +kernel
theorem dL_law_615 : decode cL_law 615 = .ok (.iaload, 1) := by decide +kernel
theorem dL_law_616 : decode cL_law 616 = .ok (.aload_n 0, 1) := by decide +kernel
theorem dL_law_617 : decode cL_law 617 = .ok (.iload_n 3, 1) := by decide +kernel
theorem dL_law_618 : decode cL_law 618 = .ok (.iconst 3, 1) := by decide +kernel
theorem dL_law_619 : decode cL_law 619 = .ok (.iadd, 1) := by decide +kernel
theorem dL_law_620 : decode cL_law 620 = .ok (.iaload, 1) := by decide +kernel
theorem dL_law_621 : decode cL_law 621 = .ok (.aload_n 0, 1) := by decide +kernel
theorem dL_law_622 : decode cL_law 622 = .ok (.iload_n 3, 1) := by decide +kernel
theorem dL_law_623 : decode cL_law 623 = .ok (.iconst 4, 1) := by decide +kernel
theorem dL_law_624 : decode cL_law 624 = .ok (.iadd, 1) := by decide +kernel
theorem dL_law_625 : decode cL_law 625 = .ok (.iaload, 1) := by decide +kernel
theorem dL_law_626 : decode cL_law 626 = .ok (.aload_n 0, 1) := by decide +kernel
theorem dL_law_627 : decode cL_law 627 = .ok (.iload_n 3, 1) := by decide +kernel
theorem dL_law_628 : decode cL_law 628 = .ok (.iconst 5, 1) := by decide +kernel
theorem dL_law_629 : decode cL_law 629 = .ok (.iadd, 1) := by decide +kernel
theorem dL_law_630 : decode cL_law 630 = .ok (.iaload, 1) := by decide +kernel
theorem dL_law_631 : decode cL_law 631 = .ok (.invokevirtual 63, 3) := by decide +kernel
theorem dL_law_634 : decode cL_law 634 = .ok (.aload_n 2, 1) := by decide +kernel
theorem dL_law_635 : decode cL_law 635 = .ok (.aload_n 0, 1) := by decide +kernel
theorem dL_law_636 : decode cL_law 636 = .ok (.iload_n 3, 1) := by decide +kernel
theorem dL_law_637 : decode cL_law 637 = .ok (.iconst 1, 1) := by decide +kernel
theorem dL_law_638 : decode cL_law 638 = .ok (.iadd, 1) := by decide +kernel
theorem dL_law_639 : decode cL_law 639 = .ok (.iaload, 1) := by decide +kernel
theorem dL_law_640 : decode cL_law 640 = .ok (.aload_n 0, 1) := by decide +kernel
theorem dL_law_641 : decode cL_law 641 = .ok (.iload_n 3, 1) := by decide +kernel
theorem dL_law_642 : decode cL_law 642 = .ok (.iconst 2, 1) := by decide +kernel
theorem dL_law_643 : decode cL_law 643 = .ok (.iadd, 1) := by decide +kernel
theorem dL_law_644 : decode cL_law 644 = .ok (.iaload, 1) := by decide +kernel
theorem dL_law_645 : decode cL_law 645 = .ok (.aload_n 0, 1) := by decide +kernel
theorem dL_law_646 : decode cL_law 646 = .ok (.iload_n 3, 1) := by decide +kernel
theorem dL_law_647 : decode cL_law 647 = .ok (.iconst 3, 1) := by decide +kernel
theorem dL_law_648 : decode cL_law 648 = .ok (.iadd, 1) := by decide +kernel
theorem dL_law_649 : decode cL_law 649 = .ok (.iaload, 1) := by decide +kernel
theorem dL_law_650 : decode cL_law 650 = .ok (.aload_n 0, 1) := by decide +kernel
theorem dL_law_651 : decode cL_law 651 = .ok (.iload_n 3, 1) := by decide +kernel
theorem dL_law_652 : decode cL_law 652 = .ok (.iconst 4, 1) := by decide +kernel
theorem dL_law_653 : decode cL_law 653 = .ok (.iadd, 1) := by decide +kernel
theorem dL_law_654 : decode cL_law 654 = .ok (.iaload, 1) := by decide +kernel
theorem dL_law_655 : decode cL_law 655 = .ok (.aload_n 0, 1) := by decide +kernel
theorem dL_law_656 : decode cL_law 656 = .ok (.iload_n 3, 1) := by decide +kernel
theorem dL_law_657 : decode cL_law 657 = .ok (.iconst 5, 1) := by decide +kernel
theorem dL_law_658 : decode cL_law 658 = .ok (.iadd, 1) := by decide +kernel
theorem dL_law_659 : decode cL_law 659 = .ok (.iaload, 1) := by decide +kernel
theorem dL_law_660 : decode cL_law 660 = .ok (.invokevirtual 66, 3) := by decide +kernel
theorem dL_law_663 : decode cL_law 663 = .ok (.if_icmp .eq 653, 3) := by decide +kernel
theorem dL_law_666 : decode cL_law 666 = .ok (.iconst 0, 1) := by decide +kernel
theorem dL_law_667 : decode cL_law 667 = .ok (.ireturn, 1) := by decide +kernel
theorem dL_law_668 : decode cL_law 668 = .ok (.aload_n 1, 1) := by decide +kernel
theorem dL_law_669 : decode cL_law 669 = .ok (.aload_n 0, 1) := by decide +kernel
theorem dL_law_670 : decode cL_law 670 = .ok (.iload_n 3, 1) := by decide +kernel
theorem dL_law_671 : decode cL_law 671 = .ok (.iconst 1, 1) := by decide +kernel
theorem dL_law_672 : decode cL_law 672 = .ok (.iadd, 1) := by decide +kernel
theorem dL_law_673 : decode cL_law 673 = .ok (.iaload, 1) := by decide +kernel
theorem dL_law_674 : decode cL_law 674 = .ok (.aload_n 0, 1) := by decide +kernel
theorem dL_law_675 : decode cL_law 675 = .ok (.iload_n 3, 1) := by decide +kernel
theorem dL_law_676 : decode cL_law 676 = .ok (.iconst 2, 1) := by decide +kernel
theorem dL_law_677 : decode cL_law 677 = .ok (.iadd, 1) := by decide +kernel
theorem dL_law_678 : decode cL_law 678 = .ok (.iaload, 1) := by decide +kernel
theorem dL_law_679 : decode cL_law 679 = .ok (.aload_n 0, 1) := by decide +kernel
theorem dL_law_680 : decode cL_law 680 = .ok (.iload_n 3, 1) := by decide +kernel
theorem dL_law_681 : decode cL_law 681 = .ok (.iconst 3, 1) := by decide +kernel
theorem dL_law_682 : decode cL_law 682 = .ok (.iadd, 1) := by decide +kernel
theorem dL_law_683 : decode cL_law 683 = .ok (.iaload, 1) := by decide +kernel
theorem dL_law_684 : decode cL_law 684 = .ok (.aload_n 0, 1) := by decide +kernel
theorem dL_law_685 : decode cL_law 685 = .ok (.iload_n 3, 1) := by decide +kernel
theorem dL_law_686 : decode cL_law 686 = .ok (.iconst 4, 1) := by decide +kernel
theorem dL_law_687 : decode cL_law 687 = .ok (.iadd, 1) := by decide +kernel
theorem dL_law_688 : decode cL_law 688 = .ok (.iaload, 1) := by decide +kernel
theorem dL_law_689 : decode cL_law 689 = .ok (.invokevirtual 67, 3) := by decide +kernel
theorem dL_law_692 : decode cL_law 692 = .ok (.aload_n 2, 1) := by decide +kernel
theorem dL_law_693 : decode cL_law 693 = .ok (.aload_n 0, 1) := by decide +kernel
theorem dL_law_694 : decode cL_law 694 = .ok (.iload_n 3, 1) := by decide +kernel
theorem dL_law_695 : decode cL_law 695 = .ok (.iconst 1, 1) := by decide +kernel
theorem dL_law_696 : decode cL_law 696 = .ok (.iadd, 1) := by decide +kernel
theorem dL_law_697 : decode cL_law 697 = .ok (.iaload, 1) := by decide +kernel
theorem dL_law_698 : decode cL_law 698 = .ok (.aload_n 0, 1) := by decide +kernel
theorem dL_law_699 : decode cL_law 699 = .ok (.iload_n 3, 1) := by decide +kernel
theorem dL_law_700 : decode cL_law 700 = .ok (.iconst 2, 1) := by decide +kernel
theorem dL_law_701 : decode cL_law 701 = .ok (.iadd, 1) := by decide +kernel
theorem dL_law_702 : decode cL_law 702 = .ok (.iaload, 1) := by decide +kernel
theorem dL_law_703 : decode cL_law 703 = .ok (.aload_n 0, 1) := by decide +kernel
theorem dL_law_704 : decode cL_law 704 = .ok (.iload_n 3, 1) := by decide +kernel
theorem dL_law_705 : decode cL_law 705 = .ok (.iconst 3, 1) := by decide +kernel
theorem dL_law_706 : decode cL_law 706 = .ok (.iadd, 1) := by decide +kernel
theorem dL_law_707 : decode cL_law 707 = .ok (.iaload, 1) := by decide +kernel
theorem dL_law_708 : decode cL_law 708 = .ok (.aload_n 0, 1) := by decide +kernel
theorem dL_law_709 : decode cL_law 709 = .ok (.iload_n 3, 1) := by decide +kernel
theorem dL_law_710 : decode cL_law 710 = .ok (.iconst 4, 1) := by decide +kernel
theorem dL_law_711 : decode cL_law 711 = .ok (.iadd, 1) := by decide +kernel
theorem dL_law_712 : decode cL_law 712 = .ok (.iaload, 1) := by decide +kernel
theorem dL_law_713 : decode cL_law 713 = .ok (.invokevirtual 70, 3) := by decide +kernel
theorem dL_law_716 : decode cL_law 716 = .ok (.if_icmp .eq 600, 3) := by decide +kernel
theorem dL_law_719 : decode cL_law 719 = .ok (.iconst 0, 1) := by decide +kernel
theorem dL_law_720 : decode cL_law 720 = .ok (.ireturn, 1) := by decide +kernel
theorem dL_law_721 : decode cL_law 721 = .ok (.aload_n 1, 1) := by decide +kernel
theorem dL_law_722 : decode cL_law 722 = .ok (.aload_n 0, 1) := by decide +kernel
theorem dL_law_723 : decode cL_law 723 = .ok (.iload_n 3, 1) := by decide +kernel
theorem dL_law_724 : decode cL_law 724 = .ok (.iconst 1, 1) := by decide +kernel
theorem dL_law_725 : decode cL_law 725 = .ok (.iadd, 1) := by decide +kernel
theorem dL_law_726 : decode cL_law 726 = .ok (.iaload, 1) := by decide +kernel
theorem dL_law_727 : decode cL_law 727 = .ok (.invokevirtual 71, 3) := by decide +kernel
theorem dL_law_730 : decode cL_law 730 = .ok (.aload_n 2, 1) := by decide +kernel
theorem dL_law_731 : decode cL_law 731 = .ok (.aload_n 0, 1) := by decide +kernel
theorem dL_law_732 : decode cL_law 732 = .ok (.iload_n 3, 1) := by decide +kernel
theorem dL_law_733 : decode cL_law 733 = .ok (.iconst 1, 1) := by decide +kernel
theorem dL_law_734 : decode cL_law 734 = .ok (.iadd, 1) := by decide +kernel
theorem dL_law_735 : decode cL_law 735 = .ok (.iaload, 1) := by decide +kernel
theorem dL_law_736 : decode cL_law 736 = .ok (.invokevirtual 74, 3) := by decide +kernel
theorem dL_law_739 : decode cL_law 739 = .ok (.if_icmp .eq 577, 3) := by decide +kernel
theorem dL_law_742 : decode cL_law 742 = .ok (.iconst 0, 1) := by decide +kernel
theorem dL_law_743 : decode cL_law 743 = .ok (.ireturn, 1) := by decide +kernel
theorem dL_law_744 : decode cL_law 744 = .ok (.aload_n 1, 1) := by decide +kernel
theorem dL_law_745 : decode cL_law 745 = .ok (.aload_n 0, 1) := by decide +kernel
theorem dL_law_746 : decode cL_law 746 = .ok (.iload_n 3, 1) := by decide +kernel
theorem dL_law_747 : decode cL_law 747 = .ok (.iconst 1, 1) := by decide +kernel
theorem dL_law_748 : decode cL_law 748 = .ok (.iadd, 1) := by decide +kernel
theorem dL_law_749 : decode cL_law 749 = .ok (.iaload, 1) := by decide +kernel
theorem dL_law_750 : decode cL_law 750 = .ok (.aload_n 0, 1) := by decide +kernel
theorem dL_law_751 : decode cL_law 751 = .ok (.iload_n 3, 1) := by decide +kernel
theorem dL_law_752 : decode cL_law 752 = .ok (.iconst 2, 1) := by decide +kernel
theorem dL_law_753 : decode cL_law 753 = .ok (.iadd, 1) := by decide +kernel
theorem dL_law_754 : decode cL_law 754 = .ok (.iaload, 1) := by decide +kernel
theorem dL_law_755 : decode cL_law 755 = .ok (.aload_n 0, 1) := by decide +kernel
theorem dL_law_756 : decode cL_law 756 = .ok (.iload_n 3, 1) := by decide +kernel
theorem dL_law_757 : decode cL_law 757 = .ok (.iconst 3, 1) := by decide +kernel
theorem dL_law_758 : decode cL_law 758 = .ok (.iadd, 1) := by decide +kernel
theorem dL_law_759 : decode cL_law 759 = .ok (.iaload, 1) := by decide +kernel
theorem dL_law_760 : decode cL_law 760 = .ok (.invokevirtual 75, 3) := by decide +kernel
theorem dL_law_763 : decode cL_law 763 = .ok (.aload_n 2, 1) := by decide +kernel
theorem dL_law_764 : decode cL_law 764 = .ok (.aload_n 0, 1) := by decide +kernel
theorem dL_law_765 : decode cL_law 765 = .ok (.iload_n 3, 1) := by decide +kernel
theorem dL_law_766 : decode cL_law 766 = .ok (.iconst 1, 1) := by decide +kernel
theorem dL_law_767 : decode cL_law 767 = .ok (.iadd, 1) := by decide +kernel
theorem dL_law_768 : decode cL_law 768 = .ok (.iaload, 1) := by decide +kernel
theorem dL_law_769 : decode cL_law 769 = .ok (.aload_n 0, 1) := by decide +kernel
theorem dL_law_770 : decode cL_law 770 = .ok (.iload_n 3, 1) := by decide +kernel
theorem dL_law_771 : decode cL_law 771 = .ok (.iconst 2, 1) := by decide +kernel
theorem dL_law_772 : decode cL_law 772 = .ok (.iadd, 1) := by decide +kernel
theorem dL_law_773 : decode cL_law 773 = .ok (.iaload, 1) := by decide +kernel
theorem dL_law_774 : decode cL_law 774 = .ok (.aload_n 0, 1) := by decide +kernel
theorem dL_law_775 : decode cL_law 775 = .ok (.iload_n 3, 1) := by decide +kernel
theorem dL_law_776 : decode cL_law 776 = .ok (.iconst 3, 1) := by decide +kernel
theorem dL_law_777 : decode cL_law 777 = .ok (.iadd, 1) := by decide +kernel
theorem dL_law_778 : decode cL_law 778 = .ok (.iaload, 1) := by decide +kernel
theorem dL_law_779 : decode cL_law 779 = .ok (.invokevirtual 78, 3) := by decide +kernel
theorem dL_law_782 : decode cL_law 782 = .ok (.if_icmp .eq 534, 3) := by decide +kernel
theorem dL_law_785 : decode cL_law 785 = .ok (.iconst 0, 1) := by decide +kernel
theorem dL_law_786 : decode cL_law 786 = .ok (.ireturn, 1) := by decide +kernel
theorem dL_law_787 : decode cL_law 787 = .ok (.aload_n 1, 1) := by decide +kernel
theorem dL_law_788 : decode cL_law 788 = .ok (.aload_n 0, 1) := by decide +kernel
theorem dL_law_789 : decode cL_law 789 = .ok (.iload_n 3, 1) := by decide +kernel
theorem dL_law_790 : decode cL_law 790 = .ok (.iconst 1, 1) := by decide +kernel
theorem dL_law_791 : decode cL_law 791 = .ok (.iadd, 1) := by decide +kernel
theorem dL_law_792 : decode cL_law 792 = .ok (.iaload, 1) := by decide +kernel
theorem dL_law_793 : decode cL_law 793 = .ok (.aload_n 0, 1) := by decide +kernel
theorem dL_law_794 : decode cL_law 794 = .ok (.iload_n 3, 1) := by decide +kernel
theorem dL_law_795 : decode cL_law 795 = .ok (.iconst 2, 1) := by decide +kernel
theorem dL_law_796 : decode cL_law 796 = .ok (.iadd, 1) := by decide +kernel
theorem dL_law_797 : decode cL_law 797 = .ok (.iaload, 1) := by decide +kernel
theorem dL_law_798 : decode cL_law 798 = .ok (.aload_n 0, 1) := by decide +kernel
theorem dL_law_799 : decode cL_law 799 = .ok (.iload_n 3, 1) := by decide +kernel
theorem dL_law_800 : decode cL_law 800 = .ok (.iconst 3, 1) := by decide +kernel
theorem dL_law_801 : decode cL_law 801 = .ok (.iadd, 1) := by decide +kernel
theorem dL_law_802 : decode cL_law 802 = .ok (.iaload, 1) := by decide +kernel
theorem dL_law_803 : decode cL_law 803 = .ok (.invokevirtual 79, 3) := by decide +kernel
theorem dL_law_806 : decode cL_law 806 = .ok (.aload_n 2, 1) := by decide +kernel
theorem dL_law_807 : decode cL_law 807 = .ok (.aload_n 0, 1) := by decide +kernel
theorem dL_law_808 : decode cL_law 808 = .ok (.iload_n 3, 1) := by decide +kernel
theorem dL_law_809 : decode cL_law 809 = .ok (.iconst 1, 1) := by decide +kernel
theorem dL_law_810 : decode cL_law 810 = .ok (.iadd, 1) := by decide +kernel
theorem dL_law_811 : decode cL_law 811 = .ok (.iaload, 1) := by decide +kernel
theorem dL_law_812 : decode cL_law 812 = .ok (.aload_n 0, 1) := by decide +kernel
theorem dL_law_813 : decode cL_law 813 = .ok (.iload_n 3, 1) := by decide +kernel
theorem dL_law_814 : decode cL_law 814 = .ok (.iconst 2, 1) := by decide +kernel
theorem dL_law_815 : decode cL_law 815 = .ok (.iadd, 1) := by decide +kernel
theorem dL_law_816 : decode cL_law 816 = .ok (.iaload, 1) := by decide +kernel
theorem dL_law_817 : decode cL_law 817 = .ok (.aload_n 0, 1) := by decide +kernel
theorem dL_law_818 : decode cL_law 818 = .ok (.iload_n 3, 1) := by decide +kernel
theorem dL_law_819 : decode cL_law 819 = .ok (.iconst 3, 1) := by decide +kernel
theorem dL_law_820 : decode cL_law 820 = .ok (.iadd, 1) := by decide +kernel
theorem dL_law_821 : decode cL_law 821 = .ok (.iaload, 1) := by decide +kernel
theorem dL_law_822 : decode cL_law 822 = .ok (.invokevirtual 82, 3) := by decide +kernel
theorem dL_law_825 : decode cL_law 825 = .ok (.if_icmp .eq 491, 3) := by decide +kernel
theorem dL_law_828 : decode cL_law 828 = .ok (.iconst 0, 1) := by decide +kernel
theorem dL_law_829 : decode cL_law 829 = .ok (.ireturn, 1) := by decide +kernel
theorem dL_law_830 : decode cL_law 830 = .ok (.aload_n 1, 1) := by decide +kernel
theorem dL_law_831 : decode cL_law 831 = .ok (.aload_n 0, 1) := by decide +kernel
theorem dL_law_832 : decode cL_law 832 = .ok (.iload_n 3, 1) := by decide +kernel
theorem dL_law_833 : decode cL_law 833 = .ok (.iconst 1, 1) := by decide +kernel
theorem dL_law_834 : decode cL_law 834 = .ok (.iadd, 1) := by decide +kernel
theorem dL_law_835 : decode cL_law 835 = .ok (.iaload, 1) := by decide +kernel
theorem dL_law_836 : decode cL_law 836 = .ok (.aload_n 0, 1) := by decide +kernel
theorem dL_law_837 : decode cL_law 837 = .ok (.iload_n 3, 1) := by decide +kernel
theorem dL_law_838 : decode cL_law 838 = .ok (.iconst 2, 1) := by decide +kernel
theorem dL_law_839 : decode cL_law 839 = .ok (.iadd, 1) := by decide +kernel
theorem dL_law_840 : decode cL_law 840 = .ok (.iaload, 1) := by decide +kernel
theorem dL_law_841 : decode cL_law 841 = .ok (.aload_n 0, 1) := by decide +kernel
theorem dL_law_842 : decode cL_law 842 = .ok (.iload_n 3, 1) := by decide +kernel
theorem dL_law_843 : decode cL_law 843 = .ok (.iconst 3, 1) := by decide +kernel
theorem dL_law_844 : decode cL_law 844 = .ok (.iadd, 1) := by decide +kernel
theorem dL_law_845 : decode cL_law 845 = .ok (.iaload, 1) := by decide +kernel
theorem dL_law_846 : decode cL_law 846 = .ok (.aload_n 0, 1) := by decide +kernel
theorem dL_law_847 : decode cL_law 847 = .ok (.iload_n 3, 1) := by decide +kernel
theorem dL_law_848 : decode cL_law 848 = .ok (.iconst 4, 1) := by decide +kernel
theorem dL_law_849 : decode cL_law 849 = .ok (.iadd, 1) := by decide +kernel
theorem dL_law_850 : decode cL_law 850 = .ok (.iaload, 1) := by decide +kernel
theorem dL_law_851 : decode cL_law 851 = .ok (.invokevirtual 83, 3) := by decide +kernel
theorem dL_law_854 : decode cL_law 854 = .ok (.aload_n 2, 1) := by decide +kernel
theorem dL_law_855 : decode cL_law 855 = .ok (.aload_n 0, 1) := by decide +kernel
theorem dL_law_856 : decode cL_law 856 = .ok (.iload_n 3, 1) := by decide +kernel
theorem dL_law_857 : decode cL_law 857 = .ok (.iconst 1, 1) := by decide +kernel
theorem dL_law_858 : decode cL_law 858 = .ok (.iadd, 1) := by decide +kernel
theorem dL_law_859 : decode cL_law 859 = .ok (.iaload, 1) := by decide +kernel
theorem dL_law_860 : decode cL_law 860 = .ok (.aload_n 0, 1) := by decide +kernel
theorem dL_law_861 : decode cL_law 861 = .ok (.iload_n 3, 1) := by decide +kernel
theorem dL_law_862 : decode cL_law 862 = .ok (.iconst 2, 1) := by decide +kernel
theorem dL_law_863 : decode cL_law 863 = .ok (.iadd, 1) := by decide +kernel
theorem dL_law_864 : decode cL_law 864 = .ok (.iaload, 1) := by decide +kernel
theorem dL_law_865 : decode cL_law 865 = .ok (.aload_n 0, 1) := by decide +kernel
theorem dL_law_866 : decode cL_law 866 = .ok (.iload_n 3, 1) := by decide +kernel
theorem dL_law_867 : decode cL_law 867 = .ok (.iconst 3, 1) := by decide +kernel
theorem dL_law_868 : decode cL_law 868 = .ok (.iadd, 1) := by decide +kernel
theorem dL_law_869 : decode cL_law 869 = .ok (.iaload, 1) := by decide +kernel
theorem dL_law_870 : decode cL_law 870 = .ok (.aload_n 0, 1) := by decide +kernel
theorem dL_law_871 : decode cL_law 871 = .ok (.iload_n 3, 1) := by decide +kernel
theorem dL_law_872 : decode cL_law 872 = .ok (.iconst 4, 1) := by decide +kernel
theorem dL_law_873 : decode cL_law 873 = .ok (.iadd, 1) := by decide +kernel
theorem dL_law_874 : decode cL_law 874 = .ok (.iaload, 1) := by decide +kernel
theorem dL_law_875 : decode cL_law 875 = .ok (.invokevirtual 86, 3) := by decide +kernel
theorem dL_law_878 : decode cL_law 878 = .ok (.if_icmp .eq 438, 3) := by decide +kernel
theorem dL_law_881 : decode cL_law 881 = .ok (.iconst 0, 1) := by decide +kernel
theorem dL_law_882 : decode cL_law 882 = .ok (.ireturn, 1) := by decide +kernel
theorem dL_law_883 : decode cL_law 883 = .ok (.aload_n 1, 1) := by decide +kernel
theorem dL_law_884 : decode cL_law 884 = .ok (.aload_n 0, 1) := by decide +kernel
theorem dL_law_885 : decode cL_law 885 = .ok (.iload_n 3, 1) := by decide +kernel
theorem dL_law_886 : decode cL_law 886 = .ok (.iconst 1, 1) := by decide +kernel
theorem dL_law_887 : decode cL_law 887 = .ok (.iadd, 1) := by decide +kernel
theorem dL_law_888 : decode cL_law 888 = .ok (.iaload, 1) := by decide +kernel
theorem dL_law_889 : decode cL_law 889 = .ok (.aload_n 0, 1) := by decide +kernel
theorem dL_law_890 : decode cL_law 890 = .ok (.iload_n 3, 1) := by decide +kernel
theorem dL_law_891 : decode cL_law 891 = .ok (.iconst 2, 1) := by decide +kernel
theorem dL_law_892 : decode cL_law 892 = .ok (.iadd, 1) := by decide +kernel
theorem dL_law_893 : decode cL_law 893 = .ok (.iaload, 1) := by decide +kernel
theorem dL_law_894 : decode cL_law 894 = .ok (.aload_n 0, 1) := by decide +kernel
theorem dL_law_895 : decode cL_law 895 = .ok (.iload_n 3, 1) := by decide +kernel
theorem dL_law_896 : decode cL_law 896 = .ok (.iconst 3, 1) := by decide +kernel
theorem dL_law_897 : decode cL_law 897 = .ok (.iadd, 1) := by decide +kernel
theorem dL_law_898 : decode cL_law 898 = .ok (.iaload, 1) := by decide +kernel
theorem dL_law_899 : decode cL_law 899 = .ok (.invokevirtual 87, 3) := by decide +kernel
theorem dL_law_902 : decode cL_law 902 = .ok (.aload_n 2, 1) := by decide +kernel
theorem dL_law_903 : decode cL_law 903 = .ok (.aload_n 0, 1) := by decide +kernel
theorem dL_law_904 : decode cL_law 904 = .ok (.iload_n 3, 1) := by decide +kernel
theorem dL_law_905 : decode cL_law 905 = .ok (.iconst 1, 1) := by decide +kernel
theorem dL_law_906 : decode cL_law 906 = .ok (.iadd, 1) := by decide +kernel
theorem dL_law_907 : decode cL_law 907 = .ok (.iaload, 1) := by decide +kernel
theorem dL_law_908 : decode cL_law 908 = .ok (.aload_n 0, 1) := by decide +kernel
theorem dL_law_909 : decode cL_law 909 = .ok (.iload_n 3, 1) := by decide +kernel
theorem dL_law_910 : decode cL_law 910 = .ok (.iconst 2, 1) := by decide +kernel
theorem dL_law_911 : decode cL_law 911 = .ok (.iadd, 1) := by decide +kernel
theorem dL_law_912 : decode cL_law 912 = .ok (.iaload, 1) := by decide +kernel
theorem dL_law_913 : decode cL_law 913 = .ok (.aload_n 0, 1) := by decide +kernel
theorem dL_law_914 : decode cL_law 914 = .ok (.iload_n 3, 1) := by decide +kernel
theorem dL_law_915 : decode cL_law 915 = .ok (.iconst 3, 1) := by decide +kernel
theorem dL_law_916 : decode cL_law 916 = .ok (.iadd, 1) := by decide +kernel
theorem dL_law_917 : decode cL_law 917 = .ok (.iaload, 1) := by decide +kernel
theorem dL_law_918 : decode cL_law 918 = .ok (.invokevirtual 90, 3) := by decide +kernel
theorem dL_law_921 : decode cL_law 921 = .ok (.if_icmp .eq 395, 3) := by decide +kernel
theorem dL_law_924 : decode cL_law 924 = .ok (.iconst 0, 1) := by decide +kernel
theorem dL_law_925 : decode cL_law 925 = .ok (.ireturn, 1) := by decide +kernel
theorem dL_law_926 : decode cL_law 926 = .ok (.aload_n 1, 1) := by decide +kernel
theorem dL_law_927 : decode cL_law 927 = .ok (.aload_n 0, 1) := by decide +kernel
theorem dL_law_928 : decode cL_law 928 = .ok (.iload_n 3, 1) := by decide +kernel
theorem dL_law_929 : decode cL_law 929 = .ok (.iconst 1, 1) := by decide +kernel
theorem dL_law_930 : decode cL_law 930 = .ok (.iadd, 1) := by decide +kernel
theorem dL_law_931 : decode cL_law 931 = .ok (.iaload, 1) := by decide +kernel
theorem dL_law_932 : decode cL_law 932 = .ok (.aload_n 0, 1) := by decide +kernel
theorem dL_law_933 : decode cL_law 933 = .ok (.iload_n 3, 1) := by decide +kernel
theorem dL_law_934 : decode cL_law 934 = .ok (.iconst 2, 1) := by decide +kernel
theorem dL_law_935 : decode cL_law 935 = .ok (.iadd, 1) := by decide +kernel
theorem dL_law_936 : decode cL_law 936 = .ok (.iaload, 1) := by decide +kernel
theorem dL_law_937 : decode cL_law 937 = .ok (.invokevirtual 91, 3) := by decide +kernel
theorem dL_law_940 : decode cL_law 940 = .ok (.aload_n 2, 1) := by decide +kernel
theorem dL_law_941 : decode cL_law 941 = .ok (.aload_n 0, 1) := by decide +kernel
theorem dL_law_942 : decode cL_law 942 = .ok (.iload_n 3, 1) := by decide +kernel
theorem dL_law_943 : decode cL_law 943 = .ok (.iconst 1, 1) := by decide +kernel
theorem dL_law_944 : decode cL_law 944 = .ok (.iadd, 1) := by decide +kernel
theorem dL_law_945 : decode cL_law 945 = .ok (.iaload, 1) := by decide +kernel
theorem dL_law_946 : decode cL_law 946 = .ok (.aload_n 0, 1) := by decide +kernel
theorem dL_law_947 : decode cL_law 947 = .ok (.iload_n 3, 1) := by decide +kernel
theorem dL_law_948 : decode cL_law 948 = .ok (.iconst 2, 1) := by decide +kernel
theorem dL_law_949 : decode cL_law 949 = .ok (.iadd, 1) := by decide +kernel
theorem dL_law_950 : decode cL_law 950 = .ok (.iaload, 1) := by decide +kernel
theorem dL_law_951 : decode cL_law 951 = .ok (.invokevirtual 94, 3) := by decide +kernel
theorem dL_law_954 : decode cL_law 954 = .ok (.if_icmp .eq 362, 3) := by decide +kernel
theorem dL_law_957 : decode cL_law 957 = .ok (.iconst 0, 1) := by decide +kernel
theorem dL_law_958 : decode cL_law 958 = .ok (.ireturn, 1) := by decide +kernel
theorem dL_law_959 : decode cL_law 959 = .ok (.aload_n 1, 1) := by decide +kernel
theorem dL_law_960 : decode cL_law 960 = .ok (.aload_n 0, 1) := by decide +kernel
theorem dL_law_961 : decode cL_law 961 = .ok (.iload_n 3, 1) := by decide +kernel
theorem dL_law_962 : decode cL_law 962 = .ok (.iconst 1, 1) := by decide +kernel
theorem dL_law_963 : decode cL_law 963 = .ok (.iadd, 1) := by decide +kernel
theorem dL_law_964 : decode cL_law 964 = .ok (.iaload, 1) := by decide +kernel
theorem dL_law_965 : decode cL_law 965 = .ok (.aload_n 0, 1) := by decide +kernel
theorem dL_law_966 : decode cL_law 966 = .ok (.iload_n 3, 1) := by decide +kernel
theorem dL_law_967 : decode cL_law 967 = .ok (.iconst 2, 1) := by decide +kernel
theorem dL_law_968 : decode cL_law 968 = .ok (.iadd, 1) := by decide +kernel
theorem dL_law_969 : decode cL_law 969 = .ok (.iaload, 1) := by decide +kernel
theorem dL_law_970 : decode cL_law 970 = .ok (.aload_n 0, 1) := by decide +kernel
theorem dL_law_971 : decode cL_law 971 = .ok (.iload_n 3, 1) := by decide +kernel
theorem dL_law_972 : decode cL_law 972 = .ok (.iconst 3, 1) := by decide +kernel
theorem dL_law_973 : decode cL_law 973 = .ok (.iadd, 1) := by decide +kernel
theorem dL_law_974 : decode cL_law 974 = .ok (.iaload, 1) := by decide +kernel
theorem dL_law_975 : decode cL_law 975 = .ok (.invokevirtual 95, 3) := by decide +kernel
theorem dL_law_978 : decode cL_law 978 = .ok (.aload_n 2, 1) := by decide +kernel
theorem dL_law_979 : decode cL_law 979 = .ok (.aload_n 0, 1) := by decide +kernel
theorem dL_law_980 : decode cL_law 980 = .ok (.iload_n 3, 1) := by decide +kernel
theorem dL_law_981 : decode cL_law 981 = .ok (.iconst 1, 1) := by decide +kernel
theorem dL_law_982 : decode cL_law 982 = .ok (.iadd, 1) := by decide +kernel
theorem dL_law_983 : decode cL_law 983 = .ok (.iaload, 1) := by decide +kernel
theorem dL_law_984 : decode cL_law 984 = .ok (.aload_n 0, 1) := by decide +kernel
theorem dL_law_985 : decode cL_law 985 = .ok (.iload_n 3, 1) := by decide +kernel
theorem dL_law_986 : decode cL_law 986 = .ok (.iconst 2, 1) := by decide +kernel
theorem dL_law_987 : decode cL_law 987 = .ok (.iadd, 1) := by decide +kernel
theorem dL_law_988 : decode cL_law 988 = .ok (.iaload, 1) := by decide +kernel
theorem dL_law_989 : decode cL_law 989 = .ok (.aload_n 0, 1) := by decide +kernel
theorem dL_law_990 : decode cL_law 990 = .ok (.iload_n 3, 1) := by decide +kernel
theorem dL_law_991 : decode cL_law 991 = .ok (.iconst 3, 1) := by decide +kernel
theorem dL_law_992 : decode cL_law 992 = .ok (.iadd, 1) := by decide +kernel
theorem dL_law_993 : decode cL_law 993 = .ok (.iaload, 1) := by decide +kernel
theorem dL_law_994 : decode cL_law 994 = .ok (.invokevirtual 98, 3) := by decide +kernel
theorem dL_law_997 : decode cL_law 997 = .ok (.if_icmp .eq 319, 3) := by decide +kernel
theorem dL_law_1000 : decode cL_law 1000 = .ok (.iconst 0, 1) := by decide +kernel
theorem dL_law_1001 : decode cL_law 1001 = .ok (.ireturn, 1) := by decide +kernel
theorem dL_law_1002 : decode cL_law 1002 = .ok (.aload_n 1, 1) := by decide +kernel
theorem dL_law_1003 : decode cL_law 1003 = .ok (.aload_n 0, 1) := by decide +kernel
theorem dL_law_1004 : decode cL_law 1004 = .ok (.iload_n 3, 1) := by decide +kernel
theorem dL_law_1005 : decode cL_law 1005 = .ok (.iconst 1, 1) := by decide +kernel
theorem dL_law_1006 : decode cL_law 1006 = .ok (.iadd, 1) := by decide +kernel
theorem dL_law_1007 : decode cL_law 1007 = .ok (.iaload, 1) := by decide +kernel
theorem dL_law_1008 : decode cL_law 1008 = .ok (.invokevirtual 99, 3) := by decide +kernel
theorem dL_law_1011 : decode cL_law 1011 = .ok (.aload_n 2, 1) := by decide +kernel
theorem dL_law_1012 : decode cL_law 1012 = .ok (.aload_n 0, 1) := by decide +kernel
theorem dL_law_1013 : decode cL_law 1013 = .ok (.iload_n 3, 1) := by decide +kernel
theorem dL_law_1014 : decode cL_law 1014 = .ok (.iconst 1, 1) := by decide +kernel
theorem dL_law_1015 : decode cL_law 1015 = .ok (.iadd, 1) := by decide +kernel
theorem dL_law_1016 : decode cL_law 1016 = .ok (.iaload, 1) := by decide +kernel
theorem dL_law_1017 : decode cL_law 1017 = .ok (.invokevirtual 102, 3) := by decide +kernel
theorem dL_law_1020 : decode cL_law 1020 = .ok (.if_icmp .eq 296, 3) := by decide +kernel
theorem dL_law_1023 : decode cL_law 1023 = .ok (.iconst 0, 1) := by decide +kernel
theorem dL_law_1024 : decode cL_law 1024 = .ok (.ireturn, 1) := by decide +kernel
theorem dL_law_1025 : decode cL_law 1025 = .ok (.aload_n 1, 1) := by decide +kernel
theorem dL_law_1026 : decode cL_law 1026 = .ok (.aload_n 0, 1) := by decide +kernel
theorem dL_law_1027 : decode cL_law 1027 = .ok (.iload_n 3, 1) := by decide +kernel
theorem dL_law_1028 : decode cL_law 1028 = .ok (.iconst 1, 1) := by decide +kernel
theorem dL_law_1029 : decode cL_law 1029 = .ok (.iadd, 1) := by decide +kernel
theorem dL_law_1030 : decode cL_law 1030 = .ok (.iaload, 1) := by decide +kernel
theorem dL_law_1031 : decode cL_law 1031 = .ok (.aload_n 0, 1) := by decide +kernel
theorem dL_law_1032 : decode cL_law 1032 = .ok (.iload_n 3, 1) := by decide +kernel
theorem dL_law_1033 : decode cL_law 1033 = .ok (.iconst 2, 1) := by decide +kernel
theorem dL_law_1034 : decode cL_law 1034 = .ok (.iadd, 1) := by decide +kernel
theorem dL_law_1035 : decode cL_law 1035 = .ok (.iaload, 1) := by decide +kernel
theorem dL_law_1036 : decode cL_law 1036 = .ok (.aload_n 0, 1) := by decide +kernel
theorem dL_law_1037 : decode cL_law 1037 = .ok (.iload_n 3, 1) := by decide +kernel
theorem dL_law_1038 : decode cL_law 1038 = .ok (.iconst 3, 1) := by decide +kernel
theorem dL_law_1039 : decode cL_law 1039 = .ok (.iadd, 1) := by decide +kernel
theorem dL_law_1040 : decode cL_law 1040 = .ok (.iaload, 1) := by decide +kernel
theorem dL_law_1041 : decode cL_law 1041 = .ok (.invokevirtual 103, 3) := by decide +kernel
theorem dL_law_1044 : decode cL_law 1044 = .ok (.aload_n 2, 1) := by decide +kernel
theorem dL_law_1045 : decode cL_law 1045 = .ok (.aload_n 0, 1) := by decide +kernel
theorem dL_law_1046 : decode cL_law 1046 = .ok (.iload_n 3, 1) := by decide +kernel
theorem dL_law_1047 : decode cL_law 1047 = .ok (.iconst 1, 1) := by decide +kernel
theorem dL_law_1048 : decode cL_law 1048 = .ok (.iadd, 1) := by decide +kernel
theorem dL_law_1049 : decode cL_law 1049 = .ok (.iaload, 1) := by decide +kernel
theorem dL_law_1050 : decode cL_law 1050 = .ok (.aload_n 0, 1) := by decide +kernel
theorem dL_law_1051 : decode cL_law 1051 = .ok (.iload_n 3, 1) := by decide +kernel
theorem dL_law_1052 : decode cL_law 1052 = .ok (.iconst 2, 1) := by decide +kernel
theorem dL_law_1053 : decode cL_law 1053 = .ok (.iadd, 1) := by decide +kernel
theorem dL_law_1054 : decode cL_law 1054 = .ok (.iaload, 1) := by decide +kernel
theorem dL_law_1055 : decode cL_law 1055 = .ok (.aload_n 0, 1) := by decide +kernel
theorem dL_law_1056 : decode cL_law 1056 = .ok (.iload_n 3, 1) := by decide +kernel
theorem dL_law_1057 : decode cL_law 1057 = .ok (.iconst 3, 1) := by decide +kernel
theorem dL_law_1058 : decode cL_law 1058 = .ok (.iadd, 1) := by decide +kernel
theorem dL_law_1059 : decode cL_law 1059 = .ok (.iaload, 1) := by decide +kernel
theorem dL_law_1060 : decode cL_law 1060 = .ok (.invokevirtual 106, 3) := by decide +kernel
theorem dL_law_1063 : decode cL_law 1063 = .ok (.if_icmp .eq 253, 3) := by decide +kernel
theorem dL_law_1066 : decode cL_law 1066 = .ok (.iconst 0, 1) := by decide +kernel
theorem dL_law_1067 : decode cL_law 1067 = .ok (.ireturn, 1) := by decide +kernel
theorem dL_law_1068 : decode cL_law 1068 = .ok (.aload_n 1, 1) := by decide +kernel
theorem dL_law_1069 : decode cL_law 1069 = .ok (.aload_n 0, 1) := by decide +kernel
theorem dL_law_1070 : decode cL_law 1070 = .ok (.iload_n 3, 1) := by decide +kernel
theorem dL_law_1071 : decode cL_law 1071 = .ok (.iconst 1, 1) := by decide +kernel
theorem dL_law_1072 : decode cL_law 1072 = .ok (.iadd, 1) := by decide +kernel
theorem dL_law_1073 : decode cL_law 1073 = .ok (.iaload, 1) := by decide +kernel
theorem dL_law_1074 : decode cL_law 1074 = .ok (.aload_n 0, 1) := by decide +kernel
theorem dL_law_1075 : decode cL_law 1075 = .ok (.iload_n 3, 1) := by decide +kernel
theorem dL_law_1076 : decode cL_law 1076 = .ok (.iconst 2, 1) := by decide +kernel
theorem dL_law_1077 : decode cL_law 1077 = .ok (.iadd, 1) := by decide +kernel
theorem dL_law_1078 : decode cL_law 1078 = .ok (.iaload, 1) := by decide +kernel
theorem dL_law_1079 : decode cL_law 1079 = .ok (.invokevirtual 107, 3) := by decide +kernel
theorem dL_law_1082 : decode cL_law 1082 = .ok (.aload_n 2, 1) := by decide +kernel
theorem dL_law_1083 : decode cL_law 1083 = .ok (.aload_n 0, 1) := by decide +kernel
theorem dL_law_1084 : decode cL_law 1084 = .ok (.iload_n 3, 1) := by decide +kernel
theorem dL_law_1085 : decode cL_law 1085 = .ok (.iconst 1, 1) := by decide +kernel
theorem dL_law_1086 : decode cL_law 1086 = .ok (.iadd, 1) := by decide +kernel
theorem dL_law_1087 : decode cL_law 1087 = .ok (.iaload, 1) := by decide +kernel
theorem dL_law_1088 : decode cL_law 1088 = .ok (.aload_n 0, 1) := by decide +kernel
theorem dL_law_1089 : decode cL_law 1089 = .ok (.iload_n 3, 1) := by decide +kernel
theorem dL_law_1090 : decode cL_law 1090 = .ok (.iconst 2, 1) := by decide +kernel
theorem dL_law_1091 : decode cL_law 1091 = .ok (.iadd, 1) := by decide +kernel
theorem dL_law_1092 : decode cL_law 1092 = .ok (.iaload, 1) := by decide +kernel
theorem dL_law_1093 : decode cL_law 1093 = .ok (.invokevirtual 110, 3) := by decide +kernel
theorem dL_law_1096 : decode cL_law 1096 = .ok (.if_icmp .eq 220, 3) := by decide +kernel
theorem dL_law_1099 : decode cL_law 1099 = .ok (.iconst 0, 1) := by decide +kernel
theorem dL_law_1100 : decode cL_law 1100 = .ok (.ireturn, 1) := by decide +kernel
theorem dL_law_1101 : decode cL_law 1101 = .ok (.aload_n 1, 1) := by decide +kernel
theorem dL_law_1102 : decode cL_law 1102 = .ok (.aload_n 0, 1) := by decide +kernel
theorem dL_law_1103 : decode cL_law 1103 = .ok (.iload_n 3, 1) := by decide +kernel
theorem dL_law_1104 : decode cL_law 1104 = .ok (.iconst 1, 1) := by decide +kernel
theorem dL_law_1105 : decode cL_law 1105 = .ok (.iadd, 1) := by decide +kernel
theorem dL_law_1106 : decode cL_law 1106 = .ok (.iaload, 1) := by decide +kernel
theorem dL_law_1107 : decode cL_law 1107 = .ok (.invokevirtual 111, 3) := by decide +kernel
theorem dL_law_1110 : decode cL_law 1110 = .ok (.aload_n 2, 1) := by decide +kernel
theorem dL_law_1111 : decode cL_law 1111 = .ok (.aload_n 0, 1) := by decide +kernel
theorem dL_law_1112 : decode cL_law 1112 = .ok (.iload_n 3, 1) := by decide +kernel
theorem dL_law_1113 : decode cL_law 1113 = .ok (.iconst 1, 1) := by decide +kernel
theorem dL_law_1114 : decode cL_law 1114 = .ok (.iadd, 1) := by decide +kernel
theorem dL_law_1115 : decode cL_law 1115 = .ok (.iaload, 1) := by decide +kernel
theorem dL_law_1116 : decode cL_law 1116 = .ok (.invokevirtual 114, 3) := by decide +kernel
theorem dL_law_1119 : decode cL_law 1119 = .ok (.if_icmp .eq 197, 3) := by decide +kernel
theorem dL_law_1122 : decode cL_law 1122 = .ok (.iconst 0, 1) := by decide +kernel
theorem dL_law_1123 : decode cL_law 1123 = .ok (.ireturn, 1) := by decide +kernel
theorem dL_law_1124 : decode cL_law 1124 = .ok (.aload_n 1, 1) := by decide +kernel
theorem dL_law_1125 : decode cL_law 1125 = .ok (.aload_n 0, 1) := by decide +kernel
theorem dL_law_1126 : decode cL_law 1126 = .ok (.iload_n 3, 1) := by decide +kernel
theorem dL_law_1127 : decode cL_law 1127 = .ok (.iconst 1, 1) := by decide +kernel
theorem dL_law_1128 : decode cL_law 1128 = .ok (.iadd, 1) := by decide +kernel
theorem dL_law_1129 : decode cL_law 1129 = .ok (.iaload, 1) := by decide +kernel
theorem dL_law_1130 : decode cL_law 1130 = .ok (.aload_n 0, 1) := by decide +kernel
theorem dL_law_1131 : decode cL_law 1131 = .ok (.iload_n 3, 1) := by decide +kernel
theorem dL_law_1132 : decode cL_law 1132 = .ok (.iconst 2, 1) := by decide +kernel
theorem dL_law_1133 : decode cL_law 1133 = .ok (.iadd, 1) := by decide +kernel
theorem dL_law_1134 : decode cL_law 1134 = .ok (.iaload, 1) := by decide +kernel
theorem dL_law_1135 : decode cL_law 1135 = .ok (.invokevirtual 115, 3) := by decide +kernel
theorem dL_law_1138 : decode cL_law 1138 = .ok (.aload_n 2, 1) := by decide +kernel
theorem dL_law_1139 : decode cL_law 1139 = .ok (.aload_n 0, 1) := by decide +kernel
theorem dL_law_1140 : decode cL_law 1140 = .ok (.iload_n 3, 1) := by decide +kernel
theorem dL_law_1141 : decode cL_law 1141 = .ok (.iconst 1, 1) := by decide +kernel
theorem dL_law_1142 : decode cL_law 1142 = .ok (.iadd, 1) := by decide +kernel
theorem dL_law_1143 : decode cL_law 1143 = .ok (.iaload, 1) := by decide +kernel
theorem dL_law_1144 : decode cL_law 1144 = .ok (.aload_n 0, 1) := by decide +kernel
theorem dL_law_1145 : decode cL_law 1145 = .ok (.iload_n 3, 1) := by decide +kernel
theorem dL_law_1146 : decode cL_law 1146 = .ok (.iconst 2, 1) := by decide +kernel
theorem dL_law_1147 : decode cL_law 1147 = .ok (.iadd, 1) := by decide +kernel
theorem dL_law_1148 : decode cL_law 1148 = .ok (.iaload, 1) := by decide +kernel
theorem dL_law_1149 : decode cL_law 1149 = .ok (.invokevirtual 118, 3) := by decide +kernel
theorem dL_law_1152 : decode cL_law 1152 = .ok (.if_icmp .eq 164, 3) := by decide +kernel
theorem dL_law_1155 : decode cL_law 1155 = .ok (.iconst 0, 1) := by decide +kernel
theorem dL_law_1156 : decode cL_law 1156 = .ok (.ireturn, 1) := by decide +kernel
theorem dL_law_1157 : decode cL_law 1157 = .ok (.aload_n 1, 1) := by decide +kernel
theorem dL_law_1158 : decode cL_law 1158 = .ok (.aload_n 0, 1) := by decide +kernel
theorem dL_law_1159 : decode cL_law 1159 = .ok (.iload_n 3, 1) := by decide +kernel
theorem dL_law_1160 : decode cL_law 1160 = .ok (.iconst 1, 1) := by decide +kernel
theorem dL_law_1161 : decode cL_law 1161 = .ok (.iadd, 1) := by decide +kernel
theorem dL_law_1162 : decode cL_law 1162 = .ok (.iaload, 1) := by decide +kernel
theorem dL_law_1163 : decode cL_law 1163 = .ok (.aload_n 0, 1) := by decide +kernel
theorem dL_law_1164 : decode cL_law 1164 = .ok (.iload_n 3, 1) := by decide +kernel
theorem dL_law_1165 : decode cL_law 1165 = .ok (.iconst 2, 1) := by decide +kernel
theorem dL_law_1166 : decode cL_law 1166 = .ok (.iadd, 1) := by decide +kernel
theorem dL_law_1167 : decode cL_law 1167 = .ok (.iaload, 1) := by decide +kernel
theorem dL_law_1168 : decode cL_law 1168 = .ok (.invokevirtual 119, 3) := by decide +kernel
theorem dL_law_1171 : decode cL_law 1171 = .ok (.aload_n 2, 1) := by decide +kernel
theorem dL_law_1172 : decode cL_law 1172 = .ok (.aload_n 0, 1) := by decide +kernel
theorem dL_law_1173 : decode cL_law 1173 = .ok (.iload_n 3, 1) := by decide +kernel
theorem dL_law_1174 : decode cL_law 1174 = .ok (.iconst 1, 1) := by decide +kernel
theorem dL_law_1175 : decode cL_law 1175 = .ok (.iadd, 1) := by decide +kernel
theorem dL_law_1176 : decode cL_law 1176 = .ok (.iaload, 1) := by decide +kernel
theorem dL_law_1177 : decode cL_law 1177 = .ok (.aload_n 0, 1) := by decide +kernel
theorem dL_law_1178 : decode cL_law 1178 = .ok (.iload_n 3, 1) := by decide +kernel
theorem dL_law_1179 : decode cL_law 1179 = .ok (.iconst 2, 1) := by decide +kernel
theorem dL_law_1180 : decode cL_law 1180 = .ok (.iadd, 1) := by decide +kernel
theorem dL_law_1181 : decode cL_law 1181 = .ok (.iaload, 1) := by decide +kernel
theorem dL_law_1182 : decode cL_law 1182 = .ok (.invokevirtual 122, 3) := by decide +kernel
theorem dL_law_1185 : decode cL_law 1185 = .ok (.if_icmp .eq 131, 3) := by decide +kernel
theorem dL_law_1188 : decode cL_law 1188 = .ok (.iconst 0, 1) := by decide +kernel
theorem dL_law_1189 : decode cL_law 1189 = .ok (.ireturn, 1) := by decide +kernel
theorem dL_law_1190 : decode cL_law 1190 = .ok (.aload_n 1, 1) := by decide +kernel
theorem dL_law_1191 : decode cL_law 1191 = .ok (.aload_n 0, 1) := by decide +kernel
theorem dL_law_1192 : decode cL_law 1192 = .ok (.iload_n 3, 1) := by decide +kernel
theorem dL_law_1193 : decode cL_law 1193 = .ok (.iconst 1, 1) := by decide +kernel
theorem dL_law_1194 : decode cL_law 1194 = .ok (.iadd, 1) := by decide +kernel
theorem dL_law_1195 : decode cL_law 1195 = .ok (.iaload, 1) := by decide +kernel
theorem dL_law_1196 : decode cL_law 1196 = .ok (.invokevirtual 123, 3) := by decide +kernel
theorem dL_law_1199 : decode cL_law 1199 = .ok (.aload_n 2, 1) := by decide +kernel
theorem dL_law_1200 : decode cL_law 1200 = .ok (.aload_n 0, 1) := by decide +kernel
theorem dL_law_1201 : decode cL_law 1201 = .ok (.iload_n 3, 1) := by decide +kernel
theorem dL_law_1202 : decode cL_law 1202 = .ok (.iconst 1, 1) := by decide +kernel
theorem dL_law_1203 : decode cL_law 1203 = .ok (.iadd, 1) := by decide +kernel
theorem dL_law_1204 : decode cL_law 1204 = .ok (.iaload, 1) := by decide +kernel
theorem dL_law_1205 : decode cL_law 1205 = .ok (.invokevirtual 126, 3) := by decide +kernel
theorem dL_law_1208 : decode cL_law 1208 = .ok (.if_icmp .eq 108, 3) := by decide +kernel
theorem dL_law_1211 : decode cL_law 1211 = .ok (.iconst 0, 1) := by decide +kernel
theorem dL_law_1212 : decode cL_law 1212 = .ok (.ireturn, 1) := by decide +kernel
theorem dL_law_1213 : decode cL_law 1213 = .ok (.aload_n 1, 1) := by decide +kernel
theorem dL_law_1214 : decode cL_law 1214 = .ok (.aload_n 0, 1) := by decide +kernel
theorem dL_law_1215 : decode cL_law 1215 = .ok (.iload_n 3, 1) := by decide +kernel
theorem dL_law_1216 : decode cL_law 1216 = .ok (.iconst 1, 1) := by decide +kernel
theorem dL_law_1217 : decode cL_law 1217 = .ok (.iadd, 1) := by decide +kernel
theorem dL_law_1218 : decode cL_law 1218 = .ok (.iaload, 1) := by decide +kernel
theorem dL_law_1219 : decode cL_law 1219 = .ok (.aload_n 0, 1) := by decide +kernel
theorem dL_law_1220 : decode cL_law 1220 = .ok (.iload_n 3, 1) := by decide +kernel
theorem dL_law_1221 : decode cL_law 1221 = .ok (.iconst 2, 1) := by decide +kernel
theorem dL_law_1222 : decode cL_law 1222 = .ok (.iadd, 1) := by decide +kernel
theorem dL_law_1223 : decode cL_law 1223 = .ok (.iaload, 1) := by decide +kernel
theorem dL_law_1224 : decode cL_law 1224 = .ok (.aload_n 0, 1) := by decide +kernel
theorem dL_law_1225 : decode cL_law 1225 = .ok (.iload_n 3, 1) := by decide +kernel
theorem dL_law_1226 : decode cL_law 1226 = .ok (.iconst 3, 1) := by decide +kernel
theorem dL_law_1227 : decode cL_law 1227 = .ok (.iadd, 1) := by decide +kernel
theorem dL_law_1228 : decode cL_law 1228 = .ok (.iaload, 1) := by decide +kernel
theorem dL_law_1229 : decode cL_law 1229 = .ok (.invokevirtual 127, 3) := by decide +kernel
theorem dL_law_1232 : decode cL_law 1232 = .ok (.aload_n 2, 1) := by decide +kernel
theorem dL_law_1233 : decode cL_law 1233 = .ok (.aload_n 0, 1) := by decide +kernel
theorem dL_law_1234 : decode cL_law 1234 = .ok (.iload_n 3, 1) := by decide +kernel
theorem dL_law_1235 : decode cL_law 1235 = .ok (.iconst 1, 1) := by decide +kernel
theorem dL_law_1236 : decode cL_law 1236 = .ok (.iadd, 1) := by decide +kernel
theorem dL_law_1237 : decode cL_law 1237 = .ok (.iaload, 1) := by decide +kernel
theorem dL_law_1238 : decode cL_law 1238 = .ok (.aload_n 0, 1) := by decide +kernel
theorem dL_law_1239 : decode cL_law 1239 = .ok (.iload_n 3, 1) := by decide +kernel
theorem dL_law_1240 : decode cL_law 1240 = .ok (.iconst 2, 1) := by decide +kernel
theorem dL_law_1241 : decode cL_law 1241 = .ok (.iadd, 1) := by decide +kernel
theorem dL_law_1242 : decode cL_law 1242 = .ok (.iaload, 1) := by decide +kernel
theorem dL_law_1243 : decode cL_law 1243 = .ok (.aload_n 0, 1) := by decide +kernel
theorem dL_law_1244 : decode cL_law 1244 = .ok (.iload_n 3, 1) := by decide +kernel
theorem dL_law_1245 : decode cL_law 1245 = .ok (.iconst 3, 1) := by decide +kernel
theorem dL_law_1246 : decode cL_law 1246 = .ok (.iadd, 1) := by decide +kernel
theorem dL_law_1247 : decode cL_law 1247 = .ok (.iaload, 1) := by decide +kernel
theorem dL_law_1248 : decode cL_law 1248 = .ok (.invokevirtual 130, 3) := by decide +kernel
theorem dL_law_1251 : decode cL_law 1251 = .ok (.if_icmp .eq 65, 3) := by decide +kernel
theorem dL_law_1254 : decode cL_law 1254 = .ok (.iconst 0, 1) := by decide +kernel
theorem dL_law_1255 : decode cL_law 1255 = .ok (.ireturn, 1) := by decide +kernel
theorem dL_law_1256 : decode cL_law 1256 = .ok (.aload_n 1, 1) := by decide +kernel
theorem dL_law_1257 : decode cL_law 1257 = .ok (.aload_n 0, 1) := by decide +kernel
theorem dL_law_1258 : decode cL_law 1258 = .ok (.iload_n 3, 1) := by decide +kernel
theorem dL_law_1259 : decode cL_law 1259 = .ok (.iconst 1, 1) := by decide +kernel
theorem dL_law_1260 : decode cL_law 1260 = .ok (.iadd, 1) := by decide +kernel
theorem dL_law_1261 : decode cL_law 1261 = .ok (.iaload, 1) := by decide +kernel
theorem dL_law_1262 : decode cL_law 1262 = .ok (.invokevirtual 131, 3) := by decide +kernel
theorem dL_law_1265 : decode cL_law 1265 = .ok (.aload_n 2, 1) := by decide +kernel
theorem dL_law_1266 : decode cL_law 1266 = .ok (.aload_n 0, 1) := by decide +kernel
theorem dL_law_1267 : decode cL_law 1267 = .ok (.iload_n 3, 1) := by decide +kernel
theorem dL_law_1268 : decode cL_law 1268 = .ok (.iconst 1, 1) := by decide +kernel
theorem dL_law_1269 : decode cL_law 1269 = .ok (.iadd, 1) := by decide +kernel
theorem dL_law_1270 : decode cL_law 1270 = .ok (.iaload, 1) := by decide +kernel
theorem dL_law_1271 : decode cL_law 1271 = .ok (.invokevirtual 134, 3) := by decide +kernel
theorem dL_law_1274 : decode cL_law 1274 = .ok (.if_icmp .eq 42, 3) := by decide +kernel
theorem dL_law_1277 : decode cL_law 1277 = .ok (.iconst 0, 1) := by decide +kernel
theorem dL_law_1278 : decode cL_law 1278 = .ok (.ireturn, 1) := by decide +kernel
theorem dL_law_1279 : decode cL_law 1279 = .ok (.aload_n 1, 1) := by decide +kernel
theorem dL_law_1280 : decode cL_law 1280 = .ok (.aload_n 0, 1) := by decide +kernel
theorem dL_law_1281 : decode cL_law 1281 = .ok (.iload_n 3, 1) := by decide +kernel
theorem dL_law_1282 : decode cL_law 1282 = .ok (.iconst 1, 1) := by decide +kernel
theorem dL_law_1283 : decode cL_law 1283 = .ok (.iadd, 1) := by decide +kernel
theorem dL_law_1284 : decode cL_law 1284 = .ok (.iaload, 1) := by decide +kernel
theorem dL_law_1285 : decode cL_law 1285 = .ok (.invokevirtual 135, 3) := by decide +kernel
theorem dL_law_1288 : decode cL_law 1288 = .ok (.aload_n 2, 1) := by decide +kernel
theorem dL_law_1289 : decode cL_law 1289 = .ok (.aload_n 0, 1) := by decide +kernel
theorem dL_law_1290 : decode cL_law 1290 = .ok (.iload_n 3, 1) := by decide +kernel
theorem dL_law_1291 : decode cL_law 1291 = .ok (.iconst 1, 1) := by decide +kernel
theorem dL_law_1292 : decode cL_law 1292 = .ok (.iadd, 1) := by decide +kernel
theorem dL_law_1293 : decode cL_law 1293 = .ok (.iaload, 1) := by decide +kernel
theorem dL_law_1294 : decode cL_law 1294 = .ok (.invokevirtual 138, 3) := by decide +kernel
theorem dL_law_1297 : decode cL_law 1297 = .ok (.if_icmp .eq 19, 3) := by decide +kernel
theorem dL_law_1300 : decode cL_law 1300 = .ok (.iconst 0, 1) := by decide +kernel
theorem dL_law_1301 : decode cL_law 1301 = .ok (.ireturn, 1) := by decide +kernel
theorem dL_law_1302 : decode cL_law 1302 = .ok (.aload_n 1, 1) := by decide +kernel
theorem dL_law_1303 : decode cL_law 1303 = .ok (.invokevirtual 139, 3) := by decide +kernel
theorem dL_law_1306 : decode cL_law 1306 = .ok (.aload_n 2, 1) := by decide +kernel
theorem dL_law_1307 : decode cL_law 1307 = .ok (.invokevirtual 143, 3) := by decide +kernel
theorem dL_law_1310 : decode cL_law 1310 = .ok (.lcmp, 1) := by decide +kernel
theorem dL_law_1311 : decode cL_law 1311 = .ok (.ifCond .eq 5, 3) := by decide +kernel
theorem dL_law_1314 : decode cL_law 1314 = .ok (.iconst 0, 1) := by decide +kernel
theorem dL_law_1315 : decode cL_law 1315 = .ok (.ireturn, 1) := by decide +kernel
theorem dL_law_1316 : decode cL_law 1316 = .ok (.iinc 3 6, 3) := by decide +kernel
theorem dL_law_1319 : decode cL_law 1319 = .ok (.goto (-1301), 3) := by decide +kernel
theorem dL_law_1322 : decode cL_law 1322 = .ok (.iconst 1, 1) := by decide +kernel
theorem dL_law_1323 : decode cL_law 1323 = .ok (.ireturn, 1) := by decide +kernel
end
section
theorem zmem0 {n : Nat} {w : Cond} (h : lw_tbl[n]? = some w) : w ∈ lw_tbl := List.mem_of_getElem? h
def zall : List Cond := lw_tbl.filter goodWord
theorem zmem {n : Nat} {w : Cond} (h : lw_tbl[n]? = some w) (hg : goodWord w = true) : w ∈ zall := List.mem_filter.mpr ⟨List.mem_of_getElem? h, hg⟩
theorem zall_tbl {w : Cond} (h : w ∈ zall) : w ∈ lw_tbl := (List.mem_filter.mp h).1
theorem zall_good {w : Cond} (h : w ∈ zall) : (w.onTables && w.keeps) = true ∨ ∃ ty, w = .arrayClass ty := good_of_word (List.mem_filter.mp h).2
def zcl : List vw_C := [(RX0, TX0, 5), (RX1, TX1, 6), (RX2, TX2, 4), (RX3, TX3, 7), (RX4, TX4, 8), (RX5, TX5, 31)]
def zNF : List (String × Nat × String × String × String × String) := [("WhoCalls", 66, "WhoCalls$Door", "answers", "[I", "WhoCalls"), ("WhoCalls", 180, "WhoCalls$Door", "promises", "[I", "WhoCalls"), ("WhoCalls", 135, "WhoCalls$Door", "shutDay", "I", "WhoCalls"), ("WhoCalls", 138, "WhoCalls$Door", "surprises", "I", "WhoCalls"), ("WhoCalls", 210, "WhoCalls$Door", "cost", "I", "WhoCalls"), ("WhoCalls$House", 50, "WhoCalls$Text", "size", "I", "WhoCalls"), ("WhoCalls", 103, "WhoCalls$Text", "size", "I", "WhoCalls"), ("WhoCalls", 83, "WhoCalls$House", "text", "LWhoCalls$Text;", "WhoCalls"), ("WhoCalls", 124, "WhoCalls$House", "marks", "[Z", "WhoCalls"), ("WhoCalls", 77, "WhoCalls$House", "version", "I", "WhoCalls"), ("WhoCalls", 216, "WhoCalls$House", "hours", "I", "WhoCalls"), ("WhoCalls", 168, "WhoCalls$Rule", "face", "I", "WhoCalls"), ("WhoCalls", 171, "WhoCalls$Rule", "set", "I", "WhoCalls"), ("WhoCalls", 174, "WhoCalls$Rule", "to", "I", "WhoCalls"), ("WhoCalls", 177, "WhoCalls$Rule", "d", "I", "WhoCalls")]
def zNM : List (String × Nat × MethodName × String) := [("WhoCalls", 44, yX0_init, "WhoCalls"), ("WhoCalls", 45, yX1_init, "WhoCalls"), ("WhoCalls$House", 11, yX3_init, "WhoCalls"), ("WhoCalls", 46, yX0_copyAnswers, "WhoCalls"), ("WhoCalls", 62, yX0_answerTo, "WhoCalls"), ("WhoCalls", 70, yX0_differing, "WhoCalls"), ("WhoCalls", 87, yX3_addCall, "WhoCalls"), ("WhoCalls", 92, yX3_has, "WhoCalls"), ("WhoCalls$Text", 34, yX4_isWithin, "WhoCalls"), ("WhoCalls", 95, yX3_addWrap, "WhoCalls"), ("WhoCalls", 99, yX3_addSplit, "WhoCalls"), ("WhoCalls", 106, yX3_stepsOf, "WhoCalls"), ("WhoCalls", 110, yX3_seenBy, "WhoCalls"), ("WhoCalls", 113, yX3_used, "WhoCalls"), ("WhoCalls", 128, yX1_addCount, "WhoCalls"), ("WhoCalls", 132, yX0_isShutOn, "WhoCalls"), ("WhoCalls", 144, yX1_counted, "WhoCalls"), ("WhoCalls", 147, yX1_isSilent, "WhoCalls"), ("WhoCalls", 155, yX3_someSeesOnly, "WhoCalls"), ("WhoCalls", 158, yX2_init, "WhoCalls"), ("WhoCalls", 183, yX0_isPromised, "WhoCalls"), ("WhoCalls", 186, yX0_latestPromise, "WhoCalls"), ("WhoCalls", 189, yX1_calledAround, "WhoCalls")]
set_option maxRecDepth 20000 in
theorem zNF_tbl : ∀ q ∈ zNF, Cond.fieldLinkNest q.1 q.2.1 q.2.2.1 q.2.2.2.1 q.2.2.2.2.1 q.2.2.2.2.2 ∈ lw_tbl := by
  unfold zNF
  exact List.forall_mem_cons.mpr ⟨zmem0 (n := 77) rfl, List.forall_mem_cons.mpr ⟨zmem0 (n := 79) rfl, List.forall_mem_cons.mpr ⟨zmem0 (n := 81) rfl, List.forall_mem_cons.mpr ⟨zmem0 (n := 83) rfl, List.forall_mem_cons.mpr ⟨zmem0 (n := 85) rfl, List.forall_mem_cons.mpr ⟨zmem0 (n := 116) rfl, List.forall_mem_cons.mpr ⟨zmem0 (n := 117) rfl, List.forall_mem_cons.mpr ⟨zmem0 (n := 134) rfl, List.forall_mem_cons.mpr ⟨zmem0 (n := 137) rfl, List.forall_mem_cons.mpr ⟨zmem0 (n := 140) rfl, List.forall_mem_cons.mpr ⟨zmem0 (n := 142) rfl, List.forall_mem_cons.mpr ⟨zmem0 (n := 367) rfl, List.forall_mem_cons.mpr ⟨zmem0 (n := 369) rfl, List.forall_mem_cons.mpr ⟨zmem0 (n := 371) rfl, List.forall_mem_cons.mpr ⟨zmem0 (n := 373) rfl, fun _ h => absurd h List.not_mem_nil⟩⟩⟩⟩⟩⟩⟩⟩⟩⟩⟩⟩⟩⟩⟩
set_option maxRecDepth 20000 in
theorem zNM_tbl : ∀ q ∈ zNM, Cond.methodLinkNest q.1 q.2.1 q.2.2.1 q.2.2.2 ∈ lw_tbl := by
  unfold zNM
  exact List.forall_mem_cons.mpr ⟨zmem0 (n := 69) rfl, List.forall_mem_cons.mpr ⟨zmem0 (n := 99) rfl, List.forall_mem_cons.mpr ⟨zmem0 (n := 105) rfl, List.forall_mem_cons.mpr ⟨zmem0 (n := 186) rfl, List.forall_mem_cons.mpr ⟨zmem0 (n := 211) rfl, List.forall_mem_cons.mpr ⟨zmem0 (n := 219) rfl, List.forall_mem_cons.mpr ⟨zmem0 (n := 236) rfl, List.forall_mem_cons.mpr ⟨zmem0 (n := 248) rfl, List.forall_mem_cons.mpr ⟨zmem0 (n := 252) rfl, List.forall_mem_cons.mpr ⟨zmem0 (n := 253) rfl, List.forall_mem_cons.mpr ⟨zmem0 (n := 261) rfl, List.forall_mem_cons.mpr ⟨zmem0 (n := 273) rfl, List.forall_mem_cons.mpr ⟨zmem0 (n := 284) rfl, List.forall_mem_cons.mpr ⟨zmem0 (n := 292) rfl, List.forall_mem_cons.mpr ⟨zmem0 (n := 314) rfl, List.forall_mem_cons.mpr ⟨zmem0 (n := 318) rfl, List.forall_mem_cons.mpr ⟨zmem0 (n := 329) rfl, List.forall_mem_cons.mpr ⟨zmem0 (n := 337) rfl, List.forall_mem_cons.mpr ⟨zmem0 (n := 353) rfl, List.forall_mem_cons.mpr ⟨zmem0 (n := 362) rfl, List.forall_mem_cons.mpr ⟨zmem0 (n := 415) rfl, List.forall_mem_cons.mpr ⟨zmem0 (n := 434) rfl, List.forall_mem_cons.mpr ⟨zmem0 (n := 439) rfl, fun _ h => absurd h List.not_mem_nil⟩⟩⟩⟩⟩⟩⟩⟩⟩⟩⟩⟩⟩⟩⟩⟩⟩⟩⟩⟩⟩⟩⟩
set_option maxRecDepth 20000 in
theorem zu_X0 : ∀ w ∈ u_ws RX0 TX0 5, w ∈ zall := by
  show ∀ w ∈ ([.laysFinal "WhoCalls$Door" "WhoCalls$Door" "answers" "[I", .laysFinal "WhoCalls$Door" "WhoCalls$Door" "promises" "[I", .lays "WhoCalls$Door" "WhoCalls$Door" "shutDay" "I", .lays "WhoCalls$Door" "WhoCalls$Door" "surprises" "I", .lays "WhoCalls$Door" "WhoCalls$Door" "cost" "I"] : List Cond), w ∈ zall
  exact List.forall_mem_cons.mpr ⟨zmem (n := 86) rfl rfl, List.forall_mem_cons.mpr ⟨zmem (n := 88) rfl rfl, List.forall_mem_cons.mpr ⟨zmem (n := 90) rfl rfl, List.forall_mem_cons.mpr ⟨zmem (n := 92) rfl rfl, List.forall_mem_cons.mpr ⟨zmem (n := 94) rfl rfl, fun _ h => absurd h List.not_mem_nil⟩⟩⟩⟩⟩
set_option maxRecDepth 20000 in
theorem zu_X1 : ∀ w ∈ u_ws RX1 TX1 6, w ∈ zall := by
  show ∀ w ∈ ([.laysFinal "WhoCalls$House" "WhoCalls$House" "text" "LWhoCalls$Text;", .laysFinal "WhoCalls$House" "WhoCalls$House" "counts" "[I", .laysFinal "WhoCalls$House" "WhoCalls$House" "marks" "[Z", .lays "WhoCalls$House" "WhoCalls$House" "hasCounts" "Z", .lays "WhoCalls$House" "WhoCalls$House" "version" "I", .lays "WhoCalls$House" "WhoCalls$House" "hours" "I"] : List Cond), w ∈ zall
  exact List.forall_mem_cons.mpr ⟨zmem (n := 143) rfl rfl, List.forall_mem_cons.mpr ⟨zmem (n := 145) rfl rfl, List.forall_mem_cons.mpr ⟨zmem (n := 147) rfl rfl, List.forall_mem_cons.mpr ⟨zmem (n := 149) rfl rfl, List.forall_mem_cons.mpr ⟨zmem (n := 151) rfl rfl, List.forall_mem_cons.mpr ⟨zmem (n := 153) rfl rfl, fun _ h => absurd h List.not_mem_nil⟩⟩⟩⟩⟩⟩
set_option maxRecDepth 20000 in
theorem zu_X2 : ∀ w ∈ u_ws RX2 TX2 4, w ∈ zall := by
  show ∀ w ∈ ([.laysFinal "WhoCalls$Rule" "WhoCalls$Rule" "face" "I", .laysFinal "WhoCalls$Rule" "WhoCalls$Rule" "set" "I", .laysFinal "WhoCalls$Rule" "WhoCalls$Rule" "to" "I", .laysFinal "WhoCalls$Rule" "WhoCalls$Rule" "d" "I"] : List Cond), w ∈ zall
  exact List.forall_mem_cons.mpr ⟨zmem (n := 374) rfl rfl, List.forall_mem_cons.mpr ⟨zmem (n := 376) rfl rfl, List.forall_mem_cons.mpr ⟨zmem (n := 378) rfl rfl, List.forall_mem_cons.mpr ⟨zmem (n := 380) rfl rfl, fun _ h => absurd h List.not_mem_nil⟩⟩⟩⟩
set_option maxRecDepth 20000 in
theorem zu_X3 : ∀ w ∈ u_ws RX3 TX3 7, w ∈ zall := by
  show ∀ w ∈ ([.laysFinal "WhoCalls$Text" "WhoCalls$Text" "kinds" "[I", .laysFinal "WhoCalls$Text" "WhoCalls$Text" "firsts" "[I", .laysFinal "WhoCalls$Text" "WhoCalls$Text" "seconds" "[I", .laysFinal "WhoCalls$Text" "WhoCalls$Text" "numbers" "[I", .laysFinal "WhoCalls$Text" "WhoCalls$Text" "sets" "[I", .laysFinal "WhoCalls$Text" "WhoCalls$Text" "ends" "[I", .lays "WhoCalls$Text" "WhoCalls$Text" "size" "I"] : List Cond), w ∈ zall
  exact List.forall_mem_cons.mpr ⟨zmem (n := 118) rfl rfl, List.forall_mem_cons.mpr ⟨zmem (n := 120) rfl rfl, List.forall_mem_cons.mpr ⟨zmem (n := 122) rfl rfl, List.forall_mem_cons.mpr ⟨zmem (n := 124) rfl rfl, List.forall_mem_cons.mpr ⟨zmem (n := 126) rfl rfl, List.forall_mem_cons.mpr ⟨zmem (n := 128) rfl rfl, List.forall_mem_cons.mpr ⟨zmem (n := 130) rfl rfl, fun _ h => absurd h List.not_mem_nil⟩⟩⟩⟩⟩⟩⟩
set_option maxRecDepth 20000 in
theorem zu_X4 : ∀ w ∈ u_ws RX4 TX4 8, w ∈ zall := by
  show ∀ w ∈ ([.laysFinal "WhoCalls" "WhoCalls" "doors" "[LWhoCalls$Door;", .laysFinal "WhoCalls" "WhoCalls" "houses" "[LWhoCalls$House;", .laysFinal "WhoCalls" "WhoCalls" "rules" "[LWhoCalls$Rule;", .lays "WhoCalls" "WhoCalls" "ruleCount" "I", .lays "WhoCalls" "WhoCalls" "versionCount" "I", .lays "WhoCalls" "WhoCalls" "today" "I", .lays "WhoCalls" "WhoCalls" "mostADay" "I", .lays "WhoCalls" "WhoCalls" "traced" "J"] : List Cond), w ∈ zall
  exact List.forall_mem_cons.mpr ⟨zmem (n := 165) rfl rfl, List.forall_mem_cons.mpr ⟨zmem (n := 167) rfl rfl, List.forall_mem_cons.mpr ⟨zmem (n := 169) rfl rfl, List.forall_mem_cons.mpr ⟨zmem (n := 171) rfl rfl, List.forall_mem_cons.mpr ⟨zmem (n := 173) rfl rfl, List.forall_mem_cons.mpr ⟨zmem (n := 175) rfl rfl, List.forall_mem_cons.mpr ⟨zmem (n := 177) rfl rfl, List.forall_mem_cons.mpr ⟨zmem (n := 179) rfl rfl, fun _ h => absurd h List.not_mem_nil⟩⟩⟩⟩⟩⟩⟩⟩
set_option maxRecDepth 20000 in
theorem zu_X5 : ∀ w ∈ u_ws RX5 TX5 31, w ∈ zall := by
  show ∀ w ∈ ([.lays "WhoCallsModel" "WhoCallsModel" "versions" "I", .laysFinal "WhoCallsModel" "WhoCallsModel" "answers" "[I", .laysFinal "WhoCallsModel" "WhoCallsModel" "goesBy" "[I", .laysFinal "WhoCallsModel" "WhoCallsModel" "lines" "[I", .laysFinal "WhoCallsModel" "WhoCallsModel" "kind" "[I", .laysFinal "WhoCallsModel" "WhoCallsModel" "first" "[I", .laysFinal "WhoCallsModel" "WhoCallsModel" "second" "[I", .laysFinal "WhoCallsModel" "WhoCallsModel" "by" "[I", .laysFinal "WhoCallsModel" "WhoCallsModel" "set" "[I", .laysFinal "WhoCallsModel" "WhoCallsModel" "counted" "[I", .laysFinal "WhoCallsModel" "WhoCallsModel" "isMarked" "[Z", .laysFinal "WhoCallsModel" "WhoCallsModel" "hasCounts" "[Z", .lays "WhoCallsModel" "WhoCallsModel" "most" "I", .lays "WhoCallsModel" "WhoCallsModel" "rules" "I", .laysFinal "WhoCallsModel" "WhoCallsModel" "ruleFace" "[I", .laysFinal "WhoCallsModel" "WhoCallsModel" "ruleSet" "[I", .laysFinal "WhoCallsModel" "WhoCallsModel" "ruleTo" "[I", .laysFinal "WhoCallsModel" "WhoCallsModel" "ruleBy" "[I", .lays "WhoCallsModel" "WhoCallsModel" "today" "I", .laysFinal "WhoCallsModel" "WhoCallsModel" "promised" "[I", .laysFinal "WhoCallsModel" "WhoCallsModel" "shutOn" "[I", .laysFinal "WhoCallsModel" "WhoCallsModel" "surprises" "[I", .laysFinal "WhoCallsModel" "WhoCallsModel" "keepCost" "[I", .laysFinal "WhoCallsModel" "WhoCallsModel" "hours" "[I", .lays "WhoCallsModel" "WhoCallsModel" "trace" "J", .laysFinal "WhoCallsModel" "WhoCallsModel" "pile" "[I", .laysFinal "WhoCallsModel" "WhoCallsModel" "pileSet" "[I", .laysFinal "WhoCallsModel" "WhoCallsModel" "seen" "[I", .lays "WhoCallsModel" "WhoCallsModel" "asked" "J", .lays "WhoCallsModel" "WhoCallsModel" "piled" "I", .laysFinal "WhoCallsModel" "WhoCallsModel" "lossOf" "[I"] : List Cond), w ∈ zall
  exact List.forall_mem_cons.mpr ⟨zmem (n := 524) rfl rfl, List.forall_mem_cons.mpr ⟨zmem (n := 526) rfl rfl, List.forall_mem_cons.mpr ⟨zmem (n := 528) rfl rfl, List.forall_mem_cons.mpr ⟨zmem (n := 530) rfl rfl, List.forall_mem_cons.mpr ⟨zmem (n := 532) rfl rfl, List.forall_mem_cons.mpr ⟨zmem (n := 534) rfl rfl, List.forall_mem_cons.mpr ⟨zmem (n := 536) rfl rfl, List.forall_mem_cons.mpr ⟨zmem (n := 538) rfl rfl, List.forall_mem_cons.mpr ⟨zmem (n := 540) rfl rfl, List.forall_mem_cons.mpr ⟨zmem (n := 542) rfl rfl, List.forall_mem_cons.mpr ⟨zmem (n := 544) rfl rfl, List.forall_mem_cons.mpr ⟨zmem (n := 546) rfl rfl, List.forall_mem_cons.mpr ⟨zmem (n := 548) rfl rfl, List.forall_mem_cons.mpr ⟨zmem (n := 550) rfl rfl, List.forall_mem_cons.mpr ⟨zmem (n := 552) rfl rfl, List.forall_mem_cons.mpr ⟨zmem (n := 554) rfl rfl, List.forall_mem_cons.mpr ⟨zmem (n := 556) rfl rfl, List.forall_mem_cons.mpr ⟨zmem (n := 558) rfl rfl, List.forall_mem_cons.mpr ⟨zmem (n := 560) rfl rfl, List.forall_mem_cons.mpr ⟨zmem (n := 562) rfl rfl, List.forall_mem_cons.mpr ⟨zmem (n := 564) rfl rfl, List.forall_mem_cons.mpr ⟨zmem (n := 566) rfl rfl, List.forall_mem_cons.mpr ⟨zmem (n := 568) rfl rfl, List.forall_mem_cons.mpr ⟨zmem (n := 570) rfl rfl, List.forall_mem_cons.mpr ⟨zmem (n := 572) rfl rfl, List.forall_mem_cons.mpr ⟨zmem (n := 574) rfl rfl, List.forall_mem_cons.mpr ⟨zmem (n := 576) rfl rfl, List.forall_mem_cons.mpr ⟨zmem (n := 578) rfl rfl, List.forall_mem_cons.mpr ⟨zmem (n := 580) rfl rfl, List.forall_mem_cons.mpr ⟨zmem (n := 582) rfl rfl, List.forall_mem_cons.mpr ⟨zmem (n := 584) rfl rfl, fun _ h => absurd h List.not_mem_nil⟩⟩⟩⟩⟩⟩⟩⟩⟩⟩⟩⟩⟩⟩⟩⟩⟩⟩⟩⟩⟩⟩⟩⟩⟩⟩⟩⟩⟩⟩⟩
set_option maxRecDepth 20000 in
theorem zini_X0 : Cond.initialized RX0 ∈ zall := zmem (n := 45) rfl rfl
set_option maxRecDepth 20000 in
theorem zins_X0 : Cond.instantiable RX0 5 ∈ zall := zmem (n := 68) rfl rfl
set_option maxRecDepth 20000 in
theorem zini_X1 : Cond.initialized RX1 ∈ zall := zmem (n := 47) rfl rfl
set_option maxRecDepth 20000 in
theorem zins_X1 : Cond.instantiable RX1 6 ∈ zall := zmem (n := 98) rfl rfl
set_option maxRecDepth 20000 in
theorem zini_X2 : Cond.initialized RX2 ∈ zall := zmem (n := 52) rfl rfl
set_option maxRecDepth 20000 in
theorem zins_X2 : Cond.instantiable RX2 4 ∈ zall := zmem (n := 361) rfl rfl
set_option maxRecDepth 20000 in
theorem zini_X3 : Cond.initialized RX3 ∈ zall := zmem (n := 48) rfl rfl
set_option maxRecDepth 20000 in
theorem zins_X3 : Cond.instantiable RX3 7 ∈ zall := zmem (n := 104) rfl rfl
set_option maxRecDepth 20000 in
theorem zini_X4 : Cond.initialized RX4 ∈ zall := zmem (n := 44) rfl rfl
set_option maxRecDepth 20000 in
theorem zins_X4 : Cond.instantiable RX4 8 ∈ zall := zmem (n := 55) rfl rfl
set_option maxRecDepth 20000 in
theorem zini_X5 : Cond.initialized RX5 ∈ zall := zmem (n := 49) rfl rfl
set_option maxRecDepth 20000 in
theorem zins_X5 : Cond.instantiable RX5 31 ∈ zall := zmem (n := 488) rfl rfl
set_option maxRecDepth 20000 in
theorem zini_L : Cond.initialized RL ∈ zall := zmem (n := 43) rfl rfl
set_option maxRecDepth 20000 in
theorem zini_J7 : Cond.initialized RJ7 ∈ zall := zmem (n := 46) rfl rfl
set_option maxRecDepth 20000 in
theorem zini_J10 : Cond.initialized RJ10 ∈ zall := zmem (n := 50) rfl rfl
set_option maxRecDepth 20000 in
theorem zini_J6 : Cond.initialized RJ6 ∈ zall := zmem (n := 51) rfl rfl
set_option maxRecDepth 20000 in
theorem zini_J9 : Cond.initialized RJ9 ∈ zall := zmem (n := 53) rfl rfl
def zM (y : MethodName) (b : ByteArray) (nL : Nat) (ret : Option FieldType) (n : Nat) : Prop := Cond.code y b nL ret ∈ zall ∧ y.cls ≠ "java/lang/invoke/MethodHandle" ∧ y.cls ≠ "java/lang/invoke/VarHandle" ∧ (parseMethodDescriptor y.desc).map (fun d => d.parameters.length) = some n
def zIV (y : MethodName) : Prop := Cond.instanceMethod y ∈ zall ∧ Cond.selects y.cls y y ∈ zall ∧ Cond.initialized y.cls ∈ zall
def zIS (y : MethodName) : Prop := Cond.static y ∈ zall ∧ Cond.initialized y.cls ∈ zall
def zII (y : MethodName) : Prop := Cond.instanceMethod y ∈ zall ∧ y.name = "<init>" ∧ Cond.initialized y.cls ∈ zall
set_option maxRecDepth 20000 in
theorem zm_X0_init : zM yX0_init cX0_init 1 none 0 := ⟨zmem (n := 71) rfl rfl, by decide, by decide, by decide +kernel⟩
set_option maxRecDepth 20000 in
theorem zi_X0_init : zII yX0_init := ⟨zmem (n := 70) rfl rfl, rfl, zini_X0⟩
set_option maxRecDepth 20000 in
theorem zm_X0_answerTo : zM yX0_answerTo cX0_answerTo 3 (some FieldType.int) 2 := ⟨zmem (n := 214) rfl rfl, by decide, by decide, by decide +kernel⟩
set_option maxRecDepth 20000 in
theorem zi_X0_answerTo : zIV yX0_answerTo := ⟨zmem (n := 213) rfl rfl, zmem (n := 3) rfl rfl, zini_X0⟩
set_option maxRecDepth 20000 in
theorem zm_X0_copyAnswers : zM yX0_copyAnswers cX0_copyAnswers 3 none 2 := ⟨zmem (n := 189) rfl rfl, by decide, by decide, by decide +kernel⟩
set_option maxRecDepth 20000 in
theorem zi_X0_copyAnswers : zIV yX0_copyAnswers := ⟨zmem (n := 188) rfl rfl, zmem (n := 0) rfl rfl, zini_X0⟩
set_option maxRecDepth 20000 in
theorem zm_X0_differing : zM yX0_differing cX0_differing 5 (some FieldType.int) 2 := ⟨zmem (n := 222) rfl rfl, by decide, by decide, by decide +kernel⟩
set_option maxRecDepth 20000 in
theorem zi_X0_differing : zIV yX0_differing := ⟨zmem (n := 221) rfl rfl, zmem (n := 4) rfl rfl, zini_X0⟩
set_option maxRecDepth 20000 in
theorem zm_X0_latestPromise : zM yX0_latestPromise cX0_latestPromise 6 (some FieldType.int) 0 := ⟨zmem (n := 422) rfl rfl, by decide, by decide, by decide +kernel⟩
set_option maxRecDepth 20000 in
theorem zi_X0_latestPromise : zIV yX0_latestPromise := ⟨zmem (n := 421) rfl rfl, zmem (n := 23) rfl rfl, zini_X0⟩
set_option maxRecDepth 20000 in
theorem zm_X0_isPromised : zM yX0_isPromised cX0_isPromised 2 (some FieldType.boolean) 1 := ⟨zmem (n := 418) rfl rfl, by decide, by decide, by decide +kernel⟩
set_option maxRecDepth 20000 in
theorem zi_X0_isPromised : zIV yX0_isPromised := ⟨zmem (n := 417) rfl rfl, zmem (n := 22) rfl rfl, zini_X0⟩
set_option maxRecDepth 20000 in
theorem zm_X0_isShutOn : zM yX0_isShutOn cX0_isShutOn 2 (some FieldType.boolean) 1 := ⟨zmem (n := 321) rfl rfl, by decide, by decide, by decide +kernel⟩
set_option maxRecDepth 20000 in
theorem zi_X0_isShutOn : zIV yX0_isShutOn := ⟨zmem (n := 320) rfl rfl, zmem (n := 15) rfl rfl, zini_X0⟩
set_option maxRecDepth 20000 in
theorem zm_X1_init : zM yX1_init cX1_init 1 none 0 := ⟨zmem (n := 101) rfl rfl, by decide, by decide, by decide +kernel⟩
set_option maxRecDepth 20000 in
theorem zi_X1_init : zII yX1_init := ⟨zmem (n := 100) rfl rfl, rfl, zini_X1⟩
set_option maxRecDepth 20000 in
theorem zm_X1_addCount : zM yX1_addCount cX1_addCount 5 none 4 := ⟨zmem (n := 317) rfl rfl, by decide, by decide, by decide +kernel⟩
set_option maxRecDepth 20000 in
theorem zi_X1_addCount : zIV yX1_addCount := ⟨zmem (n := 316) rfl rfl, zmem (n := 14) rfl rfl, zini_X1⟩
set_option maxRecDepth 20000 in
theorem zm_X1_counted : zM yX1_counted cX1_counted 6 (some FieldType.int) 3 := ⟨zmem (n := 332) rfl rfl, by decide, by decide, by decide +kernel⟩
set_option maxRecDepth 20000 in
theorem zi_X1_counted : zIV yX1_counted := ⟨zmem (n := 331) rfl rfl, zmem (n := 16) rfl rfl, zini_X1⟩
set_option maxRecDepth 20000 in
theorem zm_X1_calledAround : zM yX1_calledAround cX1_calledAround 3 (some FieldType.boolean) 2 := ⟨zmem (n := 442) rfl rfl, by decide, by decide, by decide +kernel⟩
set_option maxRecDepth 20000 in
theorem zi_X1_calledAround : zIV yX1_calledAround := ⟨zmem (n := 441) rfl rfl, zmem (n := 24) rfl rfl, zini_X1⟩
set_option maxRecDepth 20000 in
theorem zm_X1_isSilent : zM yX1_isSilent cX1_isSilent 1 (some FieldType.boolean) 0 := ⟨zmem (n := 340) rfl rfl, by decide, by decide, by decide +kernel⟩
set_option maxRecDepth 20000 in
theorem zi_X1_isSilent : zIV yX1_isSilent := ⟨zmem (n := 339) rfl rfl, zmem (n := 17) rfl rfl, zini_X1⟩
set_option maxRecDepth 20000 in
theorem zm_X2_init : zM yX2_init cX2_init 5 none 4 := ⟨zmem (n := 364) rfl rfl, by decide, by decide, by decide +kernel⟩
set_option maxRecDepth 20000 in
theorem zi_X2_init : zII yX2_init := ⟨zmem (n := 363) rfl rfl, rfl, zini_X2⟩
set_option maxRecDepth 20000 in
theorem zm_X3_init : zM yX3_init cX3_init 1 none 0 := ⟨zmem (n := 107) rfl rfl, by decide, by decide, by decide +kernel⟩
set_option maxRecDepth 20000 in
theorem zi_X3_init : zII yX3_init := ⟨zmem (n := 106) rfl rfl, rfl, zini_X3⟩
set_option maxRecDepth 20000 in
theorem zm_X3_has : zM yX3_has cX3_has 2 (some FieldType.boolean) 1 := ⟨zmem (n := 251) rfl rfl, by decide, by decide, by decide +kernel⟩
set_option maxRecDepth 20000 in
theorem zi_X3_has : zIV yX3_has := ⟨zmem (n := 250) rfl rfl, zmem (n := 8) rfl rfl, zini_X3⟩
set_option maxRecDepth 20000 in
theorem zm_X3_addCall : zM yX3_addCall cX3_addCall 4 (some FieldType.int) 2 := ⟨zmem (n := 239) rfl rfl, by decide, by decide, by decide +kernel⟩
set_option maxRecDepth 20000 in
theorem zi_X3_addCall : zIV yX3_addCall := ⟨zmem (n := 238) rfl rfl, zmem (n := 6) rfl rfl, zini_X3⟩
set_option maxRecDepth 20000 in
theorem zm_X3_addWrap : zM yX3_addWrap cX3_addWrap 5 (some FieldType.int) 3 := ⟨zmem (n := 256) rfl rfl, by decide, by decide, by decide +kernel⟩
set_option maxRecDepth 20000 in
theorem zi_X3_addWrap : zIV yX3_addWrap := ⟨zmem (n := 255) rfl rfl, zmem (n := 9) rfl rfl, zini_X3⟩
set_option maxRecDepth 20000 in
theorem zm_X3_addSplit : zM yX3_addSplit cX3_addSplit 6 (some FieldType.int) 4 := ⟨zmem (n := 264) rfl rfl, by decide, by decide, by decide +kernel⟩
set_option maxRecDepth 20000 in
theorem zi_X3_addSplit : zIV yX3_addSplit := ⟨zmem (n := 263) rfl rfl, zmem (n := 10) rfl rfl, zini_X3⟩
set_option maxRecDepth 20000 in
theorem zm_X3_added : zM yX3_added cX3_added 6 (some FieldType.int) 5 := ⟨zmem (n := 243) rfl rfl, by decide, by decide, by decide +kernel⟩
set_option maxRecDepth 20000 in
theorem zi_X3_added : zIV yX3_added := ⟨zmem (n := 242) rfl rfl, zmem (n := 7) rfl rfl, zini_X3⟩
set_option maxRecDepth 20000 in
theorem zm_X3_seenBy : zM yX3_seenBy cX3_seenBy 6 (some FieldType.int) 2 := ⟨zmem (n := 287) rfl rfl, by decide, by decide, by decide +kernel⟩
set_option maxRecDepth 20000 in
theorem zi_X3_seenBy : zIV yX3_seenBy := ⟨zmem (n := 286) rfl rfl, zmem (n := 12) rfl rfl, zini_X3⟩
set_option maxRecDepth 20000 in
theorem zm_X3_used : zM yX3_used cX3_used 4 (some FieldType.int) 1 := ⟨zmem (n := 295) rfl rfl, by decide, by decide, by decide +kernel⟩
set_option maxRecDepth 20000 in
theorem zi_X3_used : zIV yX3_used := ⟨zmem (n := 294) rfl rfl, zmem (n := 13) rfl rfl, zini_X3⟩
set_option maxRecDepth 20000 in
theorem zm_X3_someSeesOnly : zM yX3_someSeesOnly cX3_someSeesOnly 5 (some FieldType.boolean) 2 := ⟨zmem (n := 356) rfl rfl, by decide, by decide, by decide +kernel⟩
set_option maxRecDepth 20000 in
theorem zi_X3_someSeesOnly : zIV yX3_someSeesOnly := ⟨zmem (n := 355) rfl rfl, zmem (n := 19) rfl rfl, zini_X3⟩
set_option maxRecDepth 20000 in
theorem zm_X3_stepsOf : zM yX3_stepsOf cX3_stepsOf 2 (some FieldType.int) 1 := ⟨zmem (n := 276) rfl rfl, by decide, by decide, by decide +kernel⟩
set_option maxRecDepth 20000 in
theorem zi_X3_stepsOf : zIV yX3_stepsOf := ⟨zmem (n := 275) rfl rfl, zmem (n := 11) rfl rfl, zini_X3⟩
set_option maxRecDepth 20000 in
theorem zm_X3_steps : zM yX3_steps cX3_steps 6 (some FieldType.int) 4 := ⟨zmem (n := 279) rfl rfl, by decide, by decide, by decide +kernel⟩
set_option maxRecDepth 20000 in
theorem zi_X3_steps : zIS yX3_steps := ⟨zmem (n := 278) rfl rfl, zini_X3⟩
set_option maxRecDepth 20000 in
theorem zm_X3_turned : zM yX3_turned cX3_turned 2 (some FieldType.int) 2 := ⟨zmem (n := 283) rfl rfl, by decide, by decide, by decide +kernel⟩
set_option maxRecDepth 20000 in
theorem zi_X3_turned : zIS yX3_turned := ⟨zmem (n := 282) rfl rfl, zini_X3⟩
set_option maxRecDepth 20000 in
theorem zm_X4_init : zM yX4_init cX4_init 2 none 0 := ⟨zmem (n := 58) rfl rfl, by decide, by decide, by decide +kernel⟩
set_option maxRecDepth 20000 in
theorem zi_X4_init : zII yX4_init := ⟨zmem (n := 57) rfl rfl, rfl, zini_X4⟩
set_option maxRecDepth 20000 in
theorem zm_X4_version : zM yX4_version cX4_version 5 (some FieldType.int) 0 := ⟨zmem (n := 185) rfl rfl, by decide, by decide, by decide +kernel⟩
set_option maxRecDepth 20000 in
theorem zi_X4_version : zIV yX4_version := ⟨zmem (n := 183) rfl rfl, zmem (n := 184) rfl rfl, zini_X4⟩
set_option maxRecDepth 20000 in
theorem zm_X4_answer : zM yX4_answer cX4_answer 7 (some FieldType.int) 4 := ⟨zmem (n := 196) rfl rfl, by decide, by decide, by decide +kernel⟩
set_option maxRecDepth 20000 in
theorem zi_X4_answer : zIV yX4_answer := ⟨zmem (n := 194) rfl rfl, zmem (n := 195) rfl rfl, zini_X4⟩
set_option maxRecDepth 20000 in
theorem zm_X4_differ : zM yX4_differ cX4_differ 5 (some FieldType.int) 3 := ⟨zmem (n := 218) rfl rfl, by decide, by decide, by decide +kernel⟩
set_option maxRecDepth 20000 in
theorem zi_X4_differ : zIV yX4_differ := ⟨zmem (n := 216) rfl rfl, zmem (n := 217) rfl rfl, zini_X4⟩
set_option maxRecDepth 20000 in
theorem zm_X4_goes : zM yX4_goes cX4_goes 5 (some FieldType.int) 2 := ⟨zmem (n := 227) rfl rfl, by decide, by decide, by decide +kernel⟩
set_option maxRecDepth 20000 in
theorem zi_X4_goes : zIV yX4_goes := ⟨zmem (n := 225) rfl rfl, zmem (n := 226) rfl rfl, zini_X4⟩
set_option maxRecDepth 20000 in
theorem zm_X4_call : zM yX4_call cX4_call 5 (some FieldType.int) 3 := ⟨zmem (n := 235) rfl rfl, by decide, by decide, by decide +kernel⟩
set_option maxRecDepth 20000 in
theorem zi_X4_call : zIV yX4_call := ⟨zmem (n := 233) rfl rfl, zmem (n := 234) rfl rfl, zini_X4⟩
set_option maxRecDepth 20000 in
theorem zm_X4_wrap : zM yX4_wrap cX4_wrap 6 (some FieldType.int) 4 := ⟨zmem (n := 247) rfl rfl, by decide, by decide, by decide +kernel⟩
set_option maxRecDepth 20000 in
theorem zi_X4_wrap : zIV yX4_wrap := ⟨zmem (n := 245) rfl rfl, zmem (n := 246) rfl rfl, zini_X4⟩
set_option maxRecDepth 20000 in
theorem zm_X4_split : zM yX4_split cX4_split 7 (some FieldType.int) 5 := ⟨zmem (n := 260) rfl rfl, by decide, by decide, by decide +kernel⟩
set_option maxRecDepth 20000 in
theorem zi_X4_split : zIV yX4_split := ⟨zmem (n := 258) rfl rfl, zmem (n := 259) rfl rfl, zini_X4⟩
set_option maxRecDepth 20000 in
theorem zm_X4_clear : zM yX4_clear cX4_clear 4 (some FieldType.int) 1 := ⟨zmem (n := 268) rfl rfl, by decide, by decide, by decide +kernel⟩
set_option maxRecDepth 20000 in
theorem zi_X4_clear : zIV yX4_clear := ⟨zmem (n := 266) rfl rfl, zmem (n := 267) rfl rfl, zini_X4⟩
set_option maxRecDepth 20000 in
theorem zm_X4_sees : zM yX4_sees cX4_sees 5 (some FieldType.int) 3 := ⟨zmem (n := 272) rfl rfl, by decide, by decide, by decide +kernel⟩
set_option maxRecDepth 20000 in
theorem zi_X4_sees : zIV yX4_sees := ⟨zmem (n := 270) rfl rfl, zmem (n := 271) rfl rfl, zini_X4⟩
set_option maxRecDepth 20000 in
theorem zm_X4_uses : zM yX4_uses cX4_uses 4 (some FieldType.int) 2 := ⟨zmem (n := 291) rfl rfl, by decide, by decide, by decide +kernel⟩
set_option maxRecDepth 20000 in
theorem zi_X4_uses : zIV yX4_uses := ⟨zmem (n := 289) rfl rfl, zmem (n := 290) rfl rfl, zini_X4⟩
set_option maxRecDepth 20000 in
theorem zm_X4_shape : zM yX4_shape cX4_shape 5 (some FieldType.int) 2 := ⟨zmem (n := 300) rfl rfl, by decide, by decide, by decide +kernel⟩
set_option maxRecDepth 20000 in
theorem zi_X4_shape : zIV yX4_shape := ⟨zmem (n := 298) rfl rfl, zmem (n := 299) rfl rfl, zini_X4⟩
set_option maxRecDepth 20000 in
theorem zm_X4_count : zM yX4_count cX4_count 8 (some FieldType.int) 5 := ⟨zmem (n := 310) rfl rfl, by decide, by decide, by decide +kernel⟩
set_option maxRecDepth 20000 in
theorem zi_X4_count : zIV yX4_count := ⟨zmem (n := 308) rfl rfl, zmem (n := 309) rfl rfl, zini_X4⟩
set_option maxRecDepth 20000 in
theorem zm_X4_sum : zM yX4_sum cX4_sum 6 (some FieldType.int) 4 := ⟨zmem (n := 325) rfl rfl, by decide, by decide, by decide +kernel⟩
set_option maxRecDepth 20000 in
theorem zi_X4_sum : zIV yX4_sum := ⟨zmem (n := 323) rfl rfl, zmem (n := 324) rfl rfl, zini_X4⟩
set_option maxRecDepth 20000 in
theorem zm_X4_silent : zM yX4_silent cX4_silent 3 (some FieldType.int) 1 := ⟨zmem (n := 336) rfl rfl, by decide, by decide, by decide +kernel⟩
set_option maxRecDepth 20000 in
theorem zi_X4_silent : zIV yX4_silent := ⟨zmem (n := 334) rfl rfl, zmem (n := 335) rfl rfl, zini_X4⟩
set_option maxRecDepth 20000 in
theorem zm_X4_most : zM yX4_most cX4_most 9 (some FieldType.int) 3 := ⟨zmem (n := 344) rfl rfl, by decide, by decide, by decide +kernel⟩
set_option maxRecDepth 20000 in
theorem zi_X4_most : zIV yX4_most := ⟨zmem (n := 342) rfl rfl, zmem (n := 343) rfl rfl, zini_X4⟩
set_option maxRecDepth 20000 in
theorem zm_X4_harm : zM yX4_harm cX4_harm 7 (some FieldType.int) 3 := ⟨zmem (n := 352) rfl rfl, by decide, by decide, by decide +kernel⟩
set_option maxRecDepth 20000 in
theorem zi_X4_harm : zIV yX4_harm := ⟨zmem (n := 350) rfl rfl, zmem (n := 351) rfl rfl, zini_X4⟩
set_option maxRecDepth 20000 in
theorem zm_X4_rule : zM yX4_rule cX4_rule 5 (some FieldType.int) 4 := ⟨zmem (n := 360) rfl rfl, by decide, by decide, by decide +kernel⟩
set_option maxRecDepth 20000 in
theorem zi_X4_rule : zIV yX4_rule := ⟨zmem (n := 358) rfl rfl, zmem (n := 359) rfl rfl, zini_X4⟩
set_option maxRecDepth 20000 in
theorem zm_X4_holds : zM yX4_holds cX4_holds 5 (some FieldType.int) 3 := ⟨zmem (n := 386) rfl rfl, by decide, by decide, by decide +kernel⟩
set_option maxRecDepth 20000 in
theorem zi_X4_holds : zIV yX4_holds := ⟨zmem (n := 384) rfl rfl, zmem (n := 385) rfl rfl, zini_X4⟩
set_option maxRecDepth 20000 in
theorem zm_X4_clash : zM yX4_clash cX4_clash 6 (some FieldType.int) 2 := ⟨zmem (n := 398) rfl rfl, by decide, by decide, by decide +kernel⟩
set_option maxRecDepth 20000 in
theorem zi_X4_clash : zIV yX4_clash := ⟨zmem (n := 396) rfl rfl, zmem (n := 397) rfl rfl, zini_X4⟩
set_option maxRecDepth 20000 in
theorem zm_X4_left : zM yX4_left cX4_left 9 (some FieldType.int) 3 := ⟨zmem (n := 402) rfl rfl, by decide, by decide, by decide +kernel⟩
set_option maxRecDepth 20000 in
theorem zi_X4_left : zIV yX4_left := ⟨zmem (n := 400) rfl rfl, zmem (n := 401) rfl rfl, zini_X4⟩
set_option maxRecDepth 20000 in
theorem zm_X4_days : zM yX4_days cX4_days 2 (some FieldType.int) 1 := ⟨zmem (n := 406) rfl rfl, by decide, by decide, by decide +kernel⟩
set_option maxRecDepth 20000 in
theorem zi_X4_days : zIV yX4_days := ⟨zmem (n := 404) rfl rfl, zmem (n := 405) rfl rfl, zini_X4⟩
set_option maxRecDepth 20000 in
theorem zm_X4_promise : zM yX4_promise cX4_promise 6 (some FieldType.int) 3 := ⟨zmem (n := 410) rfl rfl, by decide, by decide, by decide +kernel⟩
set_option maxRecDepth 20000 in
theorem zi_X4_promise : zIV yX4_promise := ⟨zmem (n := 408) rfl rfl, zmem (n := 409) rfl rfl, zini_X4⟩
set_option maxRecDepth 20000 in
theorem zm_X4_shut : zM yX4_shut cX4_shut 4 (some FieldType.int) 2 := ⟨zmem (n := 414) rfl rfl, by decide, by decide, by decide +kernel⟩
set_option maxRecDepth 20000 in
theorem zi_X4_shut : zIV yX4_shut := ⟨zmem (n := 412) rfl rfl, zmem (n := 413) rfl rfl, zini_X4⟩
set_option maxRecDepth 20000 in
theorem zm_X4_open : zM yX4_open cX4_open 4 (some FieldType.int) 1 := ⟨zmem (n := 429) rfl rfl, by decide, by decide, by decide +kernel⟩
set_option maxRecDepth 20000 in
theorem zi_X4_open : zIV yX4_open := ⟨zmem (n := 427) rfl rfl, zmem (n := 428) rfl rfl, zini_X4⟩
set_option maxRecDepth 20000 in
theorem zm_X4_about : zM yX4_about cX4_about 4 (some FieldType.int) 2 := ⟨zmem (n := 433) rfl rfl, by decide, by decide, by decide +kernel⟩
set_option maxRecDepth 20000 in
theorem zi_X4_about : zIV yX4_about := ⟨zmem (n := 431) rfl rfl, zmem (n := 432) rfl rfl, zini_X4⟩
set_option maxRecDepth 20000 in
theorem zm_X4_harmed : zM yX4_harmed cX4_harmed 8 (some FieldType.int) 2 := ⟨zmem (n := 438) rfl rfl, by decide, by decide, by decide +kernel⟩
set_option maxRecDepth 20000 in
theorem zi_X4_harmed : zIV yX4_harmed := ⟨zmem (n := 436) rfl rfl, zmem (n := 437) rfl rfl, zini_X4⟩
set_option maxRecDepth 20000 in
theorem zm_X4_ready : zM yX4_ready cX4_ready 4 (some FieldType.int) 1 := ⟨zmem (n := 451) rfl rfl, by decide, by decide, by decide +kernel⟩
set_option maxRecDepth 20000 in
theorem zi_X4_ready : zIV yX4_ready := ⟨zmem (n := 449) rfl rfl, zmem (n := 450) rfl rfl, zini_X4⟩
set_option maxRecDepth 20000 in
theorem zm_X4_set : zM yX4_set cX4_set 5 (some FieldType.int) 3 := ⟨zmem (n := 456) rfl rfl, by decide, by decide, by decide +kernel⟩
set_option maxRecDepth 20000 in
theorem zi_X4_set : zIV yX4_set := ⟨zmem (n := 454) rfl rfl, zmem (n := 455) rfl rfl, zini_X4⟩
set_option maxRecDepth 20000 in
theorem zm_X4_plan : zM yX4_plan cX4_plan 6 (some FieldType.int) 1 := ⟨zmem (n := 466) rfl rfl, by decide, by decide, by decide +kernel⟩
set_option maxRecDepth 20000 in
theorem zi_X4_plan : zIV yX4_plan := ⟨zmem (n := 464) rfl rfl, zmem (n := 465) rfl rfl, zini_X4⟩
set_option maxRecDepth 20000 in
theorem zm_X4_told : zM yX4_told cX4_told 2 (some FieldType.int) 1 := ⟨zmem (n := 478) rfl rfl, by decide, by decide, by decide +kernel⟩
set_option maxRecDepth 20000 in
theorem zi_X4_told : zIV yX4_told := ⟨zmem (n := 476) rfl rfl, zmem (n := 477) rfl rfl, zini_X4⟩
set_option maxRecDepth 20000 in
theorem zm_X4_trace : zM yX4_trace cX4_trace 1 (some FieldType.long) 0 := ⟨zmem (n := 486) rfl rfl, by decide, by decide, by decide +kernel⟩
set_option maxRecDepth 20000 in
theorem zi_X4_trace : zIV yX4_trace := ⟨zmem (n := 484) rfl rfl, zmem (n := 485) rfl rfl, zini_X4⟩
set_option maxRecDepth 20000 in
theorem zm_X4_isWithin : zM yX4_isWithin cX4_isWithin 2 (some FieldType.boolean) 2 := ⟨zmem (n := 206) rfl rfl, by decide, by decide, by decide +kernel⟩
set_option maxRecDepth 20000 in
theorem zi_X4_isWithin : zIS yX4_isWithin := ⟨zmem (n := 205) rfl rfl, zini_X4⟩
set_option maxRecDepth 20000 in
theorem zm_X4_isFace : zM yX4_isFace cX4_isFace 1 (some FieldType.boolean) 1 := ⟨zmem (n := 203) rfl rfl, by decide, by decide, by decide +kernel⟩
set_option maxRecDepth 20000 in
theorem zi_X4_isFace : zIS yX4_isFace := ⟨zmem (n := 202) rfl rfl, zini_X4⟩
set_option maxRecDepth 20000 in
theorem zm_X4_isDay : zM yX4_isDay cX4_isDay 1 (some FieldType.boolean) 1 := ⟨zmem (n := 313) rfl rfl, by decide, by decide, by decide +kernel⟩
set_option maxRecDepth 20000 in
theorem zi_X4_isDay : zIS yX4_isDay := ⟨zmem (n := 312) rfl rfl, zini_X4⟩
set_option maxRecDepth 20000 in
theorem zm_X4_isSpan : zM yX4_isSpan cX4_isSpan 2 (some FieldType.boolean) 2 := ⟨zmem (n := 328) rfl rfl, by decide, by decide, by decide +kernel⟩
set_option maxRecDepth 20000 in
theorem zi_X4_isSpan : zIS yX4_isSpan := ⟨zmem (n := 327) rfl rfl, zini_X4⟩
set_option maxRecDepth 20000 in
theorem zm_X4_isVersion : zM yX4_isVersion cX4_isVersion 2 (some FieldType.boolean) 1 := ⟨zmem (n := 210) rfl rfl, by decide, by decide, by decide +kernel⟩
set_option maxRecDepth 20000 in
theorem zi_X4_isVersion : zIV yX4_isVersion := ⟨zmem (n := 209) rfl rfl, zmem (n := 2) rfl rfl, zini_X4⟩
set_option maxRecDepth 20000 in
theorem zm_X4_doorAt : zM yX4_doorAt cX4_doorAt 2 (some (FieldType.object "WhoCalls$Door")) 1 := ⟨zmem (n := 200) rfl rfl, by decide, by decide, by decide +kernel⟩
set_option maxRecDepth 20000 in
theorem zi_X4_doorAt : zIV yX4_doorAt := ⟨zmem (n := 199) rfl rfl, zmem (n := 1) rfl rfl, zini_X4⟩
set_option maxRecDepth 20000 in
theorem zm_X4_houseAt : zM yX4_houseAt cX4_houseAt 2 (some (FieldType.object "WhoCalls$House")) 1 := ⟨zmem (n := 231) rfl rfl, by decide, by decide, by decide +kernel⟩
set_option maxRecDepth 20000 in
theorem zi_X4_houseAt : zIV yX4_houseAt := ⟨zmem (n := 230) rfl rfl, zmem (n := 5) rfl rfl, zini_X4⟩
set_option maxRecDepth 20000 in
theorem zm_X4_ruleAt : zM yX4_ruleAt cX4_ruleAt 2 (some (FieldType.object "WhoCalls$Rule")) 1 := ⟨zmem (n := 390) rfl rfl, by decide, by decide, by decide +kernel⟩
set_option maxRecDepth 20000 in
theorem zi_X4_ruleAt : zIV yX4_ruleAt := ⟨zmem (n := 389) rfl rfl, zmem (n := 20) rfl rfl, zini_X4⟩
set_option maxRecDepth 20000 in
theorem zm_X4_isHeld : zM yX4_isHeld cX4_isHeld 8 (some FieldType.boolean) 3 := ⟨zmem (n := 394) rfl rfl, by decide, by decide, by decide +kernel⟩
set_option maxRecDepth 20000 in
theorem zi_X4_isHeld : zIV yX4_isHeld := ⟨zmem (n := 393) rfl rfl, zmem (n := 21) rfl rfl, zini_X4⟩
set_option maxRecDepth 20000 in
theorem zm_X4_silentHouses : zM yX4_silentHouses cX4_silentHouses 6 (some FieldType.int) 0 := ⟨zmem (n := 348) rfl rfl, by decide, by decide, by decide +kernel⟩
set_option maxRecDepth 20000 in
theorem zi_X4_silentHouses : zIV yX4_silentHouses := ⟨zmem (n := 347) rfl rfl, zmem (n := 18) rfl rfl, zini_X4⟩
set_option maxRecDepth 20000 in
theorem zm_X4_shutDoors : zM yX4_shutDoors cX4_shutDoors 6 (some FieldType.int) 0 := ⟨zmem (n := 482) rfl rfl, by decide, by decide, by decide +kernel⟩
set_option maxRecDepth 20000 in
theorem zi_X4_shutDoors : zIV yX4_shutDoors := ⟨zmem (n := 481) rfl rfl, zmem (n := 27) rfl rfl, zini_X4⟩
set_option maxRecDepth 20000 in
theorem zm_X4_becomeCost : zM yX4_becomeCost cX4_becomeCost 3 (some FieldType.int) 2 := ⟨zmem (n := 459) rfl rfl, by decide, by decide, by decide +kernel⟩
set_option maxRecDepth 20000 in
theorem zi_X4_becomeCost : zIS yX4_becomeCost := ⟨zmem (n := 458) rfl rfl, zini_X4⟩
set_option maxRecDepth 20000 in
theorem zm_X4_becomeHours : zM yX4_becomeHours cX4_becomeHours 3 (some FieldType.int) 2 := ⟨zmem (n := 462) rfl rfl, by decide, by decide, by decide +kernel⟩
set_option maxRecDepth 20000 in
theorem zi_X4_becomeHours : zIS yX4_becomeHours := ⟨zmem (n := 461) rfl rfl, zini_X4⟩
set_option maxRecDepth 20000 in
theorem zm_X4_hoursWithout : zM yX4_hoursWithout cX4_hoursWithout 7 (some FieldType.int) 1 := ⟨zmem (n := 470) rfl rfl, by decide, by decide, by decide +kernel⟩
set_option maxRecDepth 20000 in
theorem zi_X4_hoursWithout : zIV yX4_hoursWithout := ⟨zmem (n := 469) rfl rfl, zmem (n := 25) rfl rfl, zini_X4⟩
set_option maxRecDepth 20000 in
theorem zm_X4_isKept : zM yX4_isKept cX4_isKept 3 (some FieldType.boolean) 2 := ⟨zmem (n := 474) rfl rfl, by decide, by decide, by decide +kernel⟩
set_option maxRecDepth 20000 in
theorem zi_X4_isKept : zIV yX4_isKept := ⟨zmem (n := 473) rfl rfl, zmem (n := 26) rfl rfl, zini_X4⟩
set_option maxRecDepth 20000 in
theorem zm_X5_init : zM yX5_init cX5_init 1 none 0 := ⟨zmem (n := 491) rfl rfl, by decide, by decide, by decide +kernel⟩
set_option maxRecDepth 20000 in
theorem zi_X5_init : zII yX5_init := ⟨zmem (n := 490) rfl rfl, rfl, zini_X5⟩
set_option maxRecDepth 20000 in
theorem zm_X5_in : zM yX5_in cX5_in 3 (some FieldType.boolean) 3 := ⟨zmem (n := 600) rfl rfl, by decide, by decide, by decide +kernel⟩
set_option maxRecDepth 20000 in
theorem zi_X5_in : zIS yX5_in := ⟨zmem (n := 599) rfl rfl, zini_X5⟩
set_option maxRecDepth 20000 in
theorem zm_X5_isFace : zM yX5_isFace cX5_isFace 1 (some FieldType.boolean) 1 := ⟨zmem (n := 597) rfl rfl, by decide, by decide, by decide +kernel⟩
set_option maxRecDepth 20000 in
theorem zi_X5_isFace : zIS yX5_isFace := ⟨zmem (n := 596) rfl rfl, zini_X5⟩
set_option maxRecDepth 20000 in
theorem zm_X5_isHouse : zM yX5_isHouse cX5_isHouse 1 (some FieldType.boolean) 1 := ⟨zmem (n := 619) rfl rfl, by decide, by decide, by decide +kernel⟩
set_option maxRecDepth 20000 in
theorem zi_X5_isHouse : zIS yX5_isHouse := ⟨zmem (n := 618) rfl rfl, zini_X5⟩
set_option maxRecDepth 20000 in
theorem zm_X5_isVersion : zM yX5_isVersion cX5_isVersion 2 (some FieldType.boolean) 1 := ⟨zmem (n := 604) rfl rfl, by decide, by decide, by decide +kernel⟩
set_option maxRecDepth 20000 in
theorem zi_X5_isVersion : zIV yX5_isVersion := ⟨zmem (n := 603) rfl rfl, zmem (n := 28) rfl rfl, zini_X5⟩
set_option maxRecDepth 20000 in
theorem zm_X5_version : zM yX5_version cX5_version 3 (some FieldType.int) 0 := ⟨zmem (n := 590) rfl rfl, by decide, by decide, by decide +kernel⟩
set_option maxRecDepth 20000 in
theorem zi_X5_version : zIV yX5_version := ⟨zmem (n := 588) rfl rfl, zmem (n := 589) rfl rfl, zini_X5⟩
set_option maxRecDepth 20000 in
theorem zm_X5_shown : zM yX5_shown cX5_shown 1 (some FieldType.int) 1 := ⟨zmem (n := 745) rfl rfl, by decide, by decide, by decide +kernel⟩
set_option maxRecDepth 20000 in
theorem zi_X5_shown : zIS yX5_shown := ⟨zmem (n := 744) rfl rfl, zini_X5⟩
set_option maxRecDepth 20000 in
theorem zm_X5_answer : zM yX5_answer cX5_answer 7 (some FieldType.int) 4 := ⟨zmem (n := 594) rfl rfl, by decide, by decide, by decide +kernel⟩
set_option maxRecDepth 20000 in
theorem zi_X5_answer : zIV yX5_answer := ⟨zmem (n := 592) rfl rfl, zmem (n := 593) rfl rfl, zini_X5⟩
set_option maxRecDepth 20000 in
theorem zm_X5_differs : zM yX5_differs cX5_differs 6 (some FieldType.int) 3 := ⟨zmem (n := 612) rfl rfl, by decide, by decide, by decide +kernel⟩
set_option maxRecDepth 20000 in
theorem zi_X5_differs : zIV yX5_differs := ⟨zmem (n := 611) rfl rfl, zmem (n := 29) rfl rfl, zini_X5⟩
set_option maxRecDepth 20000 in
theorem zm_X5_differ : zM yX5_differ cX5_differ 4 (some FieldType.int) 3 := ⟨zmem (n := 608) rfl rfl, by decide, by decide, by decide +kernel⟩
set_option maxRecDepth 20000 in
theorem zi_X5_differ : zIV yX5_differ := ⟨zmem (n := 606) rfl rfl, zmem (n := 607) rfl rfl, zini_X5⟩
set_option maxRecDepth 20000 in
theorem zm_X5_goes : zM yX5_goes cX5_goes 4 (some FieldType.int) 2 := ⟨zmem (n := 616) rfl rfl, by decide, by decide, by decide +kernel⟩
set_option maxRecDepth 20000 in
theorem zi_X5_goes : zIV yX5_goes := ⟨zmem (n := 614) rfl rfl, zmem (n := 615) rfl rfl, zini_X5⟩
set_option maxRecDepth 20000 in
theorem zm_X5_isSet : zM yX5_isSet cX5_isSet 1 (some FieldType.boolean) 1 := ⟨zmem (n := 626) rfl rfl, by decide, by decide, by decide +kernel⟩
set_option maxRecDepth 20000 in
theorem zi_X5_isSet : zIS yX5_isSet := ⟨zmem (n := 625) rfl rfl, zini_X5⟩
set_option maxRecDepth 20000 in
theorem zm_X5_isLine : zM yX5_isLine cX5_isLine 3 (some FieldType.boolean) 2 := ⟨zmem (n := 638) rfl rfl, by decide, by decide, by decide +kernel⟩
set_option maxRecDepth 20000 in
theorem zi_X5_isLine : zIV yX5_isLine := ⟨zmem (n := 637) rfl rfl, zmem (n := 31) rfl rfl, zini_X5⟩
set_option maxRecDepth 20000 in
theorem zm_X5_comes : zM yX5_comes cX5_comes 8 (some FieldType.int) 6 := ⟨zmem (n := 630) rfl rfl, by decide, by decide, by decide +kernel⟩
set_option maxRecDepth 20000 in
theorem zi_X5_comes : zIV yX5_comes := ⟨zmem (n := 629) rfl rfl, zmem (n := 30) rfl rfl, zini_X5⟩
set_option maxRecDepth 20000 in
theorem zm_X5_call : zM yX5_call cX5_call 4 (some FieldType.int) 3 := ⟨zmem (n := 623) rfl rfl, by decide, by decide, by decide +kernel⟩
set_option maxRecDepth 20000 in
theorem zi_X5_call : zIV yX5_call := ⟨zmem (n := 621) rfl rfl, zmem (n := 622) rfl rfl, zini_X5⟩
set_option maxRecDepth 20000 in
theorem zm_X5_wrap : zM yX5_wrap cX5_wrap 5 (some FieldType.int) 4 := ⟨zmem (n := 634) rfl rfl, by decide, by decide, by decide +kernel⟩
set_option maxRecDepth 20000 in
theorem zi_X5_wrap : zIV yX5_wrap := ⟨zmem (n := 632) rfl rfl, zmem (n := 633) rfl rfl, zini_X5⟩
set_option maxRecDepth 20000 in
theorem zm_X5_split : zM yX5_split cX5_split 6 (some FieldType.int) 5 := ⟨zmem (n := 642) rfl rfl, by decide, by decide, by decide +kernel⟩
set_option maxRecDepth 20000 in
theorem zi_X5_split : zIV yX5_split := ⟨zmem (n := 640) rfl rfl, zmem (n := 641) rfl rfl, zini_X5⟩
set_option maxRecDepth 20000 in
theorem zm_X5_clear : zM yX5_clear cX5_clear 3 (some FieldType.int) 1 := ⟨zmem (n := 646) rfl rfl, by decide, by decide, by decide +kernel⟩
set_option maxRecDepth 20000 in
theorem zi_X5_clear : zIV yX5_clear := ⟨zmem (n := 644) rfl rfl, zmem (n := 645) rfl rfl, zini_X5⟩
set_option maxRecDepth 20000 in
theorem zm_X5_turned : zM yX5_turned cX5_turned 2 (some FieldType.int) 2 := ⟨zmem (n := 662) rfl rfl, by decide, by decide, by decide +kernel⟩
set_option maxRecDepth 20000 in
theorem zi_X5_turned : zIS yX5_turned := ⟨zmem (n := 661) rfl rfl, zini_X5⟩
set_option maxRecDepth 20000 in
theorem zm_X5_piles : zM yX5_piles cX5_piles 3 none 2 := ⟨zmem (n := 658) rfl rfl, by decide, by decide, by decide +kernel⟩
set_option maxRecDepth 20000 in
theorem zi_X5_piles : zIV yX5_piles := ⟨zmem (n := 657) rfl rfl, zmem (n := 33) rfl rfl, zini_X5⟩
set_option maxRecDepth 20000 in
theorem zm_X5_follow : zM yX5_follow cX5_follow 6 none 2 := ⟨zmem (n := 654) rfl rfl, by decide, by decide, by decide +kernel⟩
set_option maxRecDepth 20000 in
theorem zi_X5_follow : zIV yX5_follow := ⟨zmem (n := 653) rfl rfl, zmem (n := 32) rfl rfl, zini_X5⟩
set_option maxRecDepth 20000 in
theorem zm_X5_sees : zM yX5_sees cX5_sees 4 (some FieldType.int) 3 := ⟨zmem (n := 650) rfl rfl, by decide, by decide, by decide +kernel⟩
set_option maxRecDepth 20000 in
theorem zi_X5_sees : zIV yX5_sees := ⟨zmem (n := 648) rfl rfl, zmem (n := 649) rfl rfl, zini_X5⟩
set_option maxRecDepth 20000 in
theorem zm_X5_usesOf : zM yX5_usesOf cX5_usesOf 5 (some FieldType.int) 2 := ⟨zmem (n := 671) rfl rfl, by decide, by decide, by decide +kernel⟩
set_option maxRecDepth 20000 in
theorem zi_X5_usesOf : zIV yX5_usesOf := ⟨zmem (n := 670) rfl rfl, zmem (n := 34) rfl rfl, zini_X5⟩
set_option maxRecDepth 20000 in
theorem zm_X5_uses : zM yX5_uses cX5_uses 3 (some FieldType.int) 2 := ⟨zmem (n := 667) rfl rfl, by decide, by decide, by decide +kernel⟩
set_option maxRecDepth 20000 in
theorem zi_X5_uses : zIV yX5_uses := ⟨zmem (n := 665) rfl rfl, zmem (n := 666) rfl rfl, zini_X5⟩
set_option maxRecDepth 20000 in
theorem zm_X5_shape : zM yX5_shape cX5_shape 4 (some FieldType.int) 2 := ⟨zmem (n := 675) rfl rfl, by decide, by decide, by decide +kernel⟩
set_option maxRecDepth 20000 in
theorem zi_X5_shape : zIV yX5_shape := ⟨zmem (n := 673) rfl rfl, zmem (n := 674) rfl rfl, zini_X5⟩
set_option maxRecDepth 20000 in
theorem zm_X5_isShut : zM yX5_isShut cX5_isShut 2 (some FieldType.boolean) 1 := ⟨zmem (n := 683) rfl rfl, by decide, by decide, by decide +kernel⟩
set_option maxRecDepth 20000 in
theorem zi_X5_isShut : zIV yX5_isShut := ⟨zmem (n := 682) rfl rfl, zmem (n := 35) rfl rfl, zini_X5⟩
set_option maxRecDepth 20000 in
theorem zm_X5_count : zM yX5_count cX5_count 6 (some FieldType.int) 5 := ⟨zmem (n := 679) rfl rfl, by decide, by decide, by decide +kernel⟩
set_option maxRecDepth 20000 in
theorem zi_X5_count : zIV yX5_count := ⟨zmem (n := 677) rfl rfl, zmem (n := 678) rfl rfl, zini_X5⟩
set_option maxRecDepth 20000 in
theorem zm_X5_isSpan : zM yX5_isSpan cX5_isSpan 2 (some FieldType.boolean) 2 := ⟨zmem (n := 690) rfl rfl, by decide, by decide, by decide +kernel⟩
set_option maxRecDepth 20000 in
theorem zi_X5_isSpan : zIS yX5_isSpan := ⟨zmem (n := 689) rfl rfl, zini_X5⟩
set_option maxRecDepth 20000 in
theorem zm_X5_sumOf : zM yX5_sumOf cX5_sumOf 7 (some FieldType.int) 4 := ⟨zmem (n := 694) rfl rfl, by decide, by decide, by decide +kernel⟩
set_option maxRecDepth 20000 in
theorem zi_X5_sumOf : zIV yX5_sumOf := ⟨zmem (n := 693) rfl rfl, zmem (n := 36) rfl rfl, zini_X5⟩
set_option maxRecDepth 20000 in
theorem zm_X5_sum : zM yX5_sum cX5_sum 5 (some FieldType.int) 4 := ⟨zmem (n := 687) rfl rfl, by decide, by decide, by decide +kernel⟩
set_option maxRecDepth 20000 in
theorem zi_X5_sum : zIV yX5_sum := ⟨zmem (n := 685) rfl rfl, zmem (n := 686) rfl rfl, zini_X5⟩
set_option maxRecDepth 20000 in
theorem zm_X5_isSilent : zM yX5_isSilent cX5_isSilent 2 (some FieldType.boolean) 1 := ⟨zmem (n := 702) rfl rfl, by decide, by decide, by decide +kernel⟩
set_option maxRecDepth 20000 in
theorem zi_X5_isSilent : zIV yX5_isSilent := ⟨zmem (n := 701) rfl rfl, zmem (n := 37) rfl rfl, zini_X5⟩
set_option maxRecDepth 20000 in
theorem zm_X5_silent : zM yX5_silent cX5_silent 2 (some FieldType.int) 1 := ⟨zmem (n := 698) rfl rfl, by decide, by decide, by decide +kernel⟩
set_option maxRecDepth 20000 in
theorem zi_X5_silent : zIV yX5_silent := ⟨zmem (n := 696) rfl rfl, zmem (n := 697) rfl rfl, zini_X5⟩
set_option maxRecDepth 20000 in
theorem zm_X5_most : zM yX5_most cX5_most 6 (some FieldType.int) 3 := ⟨zmem (n := 706) rfl rfl, by decide, by decide, by decide +kernel⟩
set_option maxRecDepth 20000 in
theorem zi_X5_most : zIV yX5_most := ⟨zmem (n := 704) rfl rfl, zmem (n := 705) rfl rfl, zini_X5⟩
set_option maxRecDepth 20000 in
theorem zm_X5_harm : zM yX5_harm cX5_harm 8 (some FieldType.int) 3 := ⟨zmem (n := 710) rfl rfl, by decide, by decide, by decide +kernel⟩
set_option maxRecDepth 20000 in
theorem zi_X5_harm : zIV yX5_harm := ⟨zmem (n := 708) rfl rfl, zmem (n := 709) rfl rfl, zini_X5⟩
set_option maxRecDepth 20000 in
theorem zm_X5_rule : zM yX5_rule cX5_rule 5 (some FieldType.int) 4 := ⟨zmem (n := 714) rfl rfl, by decide, by decide, by decide +kernel⟩
set_option maxRecDepth 20000 in
theorem zi_X5_rule : zIV yX5_rule := ⟨zmem (n := 712) rfl rfl, zmem (n := 713) rfl rfl, zini_X5⟩
set_option maxRecDepth 20000 in
theorem zm_X5_isRule : zM yX5_isRule cX5_isRule 2 (some FieldType.boolean) 1 := ⟨zmem (n := 722) rfl rfl, by decide, by decide, by decide +kernel⟩
set_option maxRecDepth 20000 in
theorem zi_X5_isRule : zIV yX5_isRule := ⟨zmem (n := 721) rfl rfl, zmem (n := 38) rfl rfl, zini_X5⟩
set_option maxRecDepth 20000 in
theorem zm_X5_holdsFrom : zM yX5_holdsFrom cX5_holdsFrom 6 (some FieldType.boolean) 3 := ⟨zmem (n := 726) rfl rfl, by decide, by decide, by decide +kernel⟩
set_option maxRecDepth 20000 in
theorem zi_X5_holdsFrom : zIV yX5_holdsFrom := ⟨zmem (n := 725) rfl rfl, zmem (n := 39) rfl rfl, zini_X5⟩
set_option maxRecDepth 20000 in
theorem zm_X5_holds : zM yX5_holds cX5_holds 4 (some FieldType.int) 3 := ⟨zmem (n := 718) rfl rfl, by decide, by decide, by decide +kernel⟩
set_option maxRecDepth 20000 in
theorem zi_X5_holds : zIV yX5_holds := ⟨zmem (n := 716) rfl rfl, zmem (n := 717) rfl rfl, zini_X5⟩
set_option maxRecDepth 20000 in
theorem zm_X5_clash : zM yX5_clash cX5_clash 4 (some FieldType.int) 2 := ⟨zmem (n := 730) rfl rfl, by decide, by decide, by decide +kernel⟩
set_option maxRecDepth 20000 in
theorem zi_X5_clash : zIV yX5_clash := ⟨zmem (n := 728) rfl rfl, zmem (n := 729) rfl rfl, zini_X5⟩
set_option maxRecDepth 20000 in
theorem zm_X5_left : zM yX5_left cX5_left 6 (some FieldType.int) 3 := ⟨zmem (n := 734) rfl rfl, by decide, by decide, by decide +kernel⟩
set_option maxRecDepth 20000 in
theorem zi_X5_left : zIV yX5_left := ⟨zmem (n := 732) rfl rfl, zmem (n := 733) rfl rfl, zini_X5⟩
set_option maxRecDepth 20000 in
theorem zm_X5_days : zM yX5_days cX5_days 2 (some FieldType.int) 1 := ⟨zmem (n := 738) rfl rfl, by decide, by decide, by decide +kernel⟩
set_option maxRecDepth 20000 in
theorem zi_X5_days : zIV yX5_days := ⟨zmem (n := 736) rfl rfl, zmem (n := 737) rfl rfl, zini_X5⟩
set_option maxRecDepth 20000 in
theorem zm_X5_latest : zM yX5_latest cX5_latest 4 (some FieldType.int) 1 := ⟨zmem (n := 753) rfl rfl, by decide, by decide, by decide +kernel⟩
set_option maxRecDepth 20000 in
theorem zi_X5_latest : zIV yX5_latest := ⟨zmem (n := 752) rfl rfl, zmem (n := 40) rfl rfl, zini_X5⟩
set_option maxRecDepth 20000 in
theorem zm_X5_promise : zM yX5_promise cX5_promise 5 (some FieldType.int) 3 := ⟨zmem (n := 742) rfl rfl, by decide, by decide, by decide +kernel⟩
set_option maxRecDepth 20000 in
theorem zi_X5_promise : zIV yX5_promise := ⟨zmem (n := 740) rfl rfl, zmem (n := 741) rfl rfl, zini_X5⟩
set_option maxRecDepth 20000 in
theorem zm_X5_shut : zM yX5_shut cX5_shut 3 (some FieldType.int) 2 := ⟨zmem (n := 749) rfl rfl, by decide, by decide, by decide +kernel⟩
set_option maxRecDepth 20000 in
theorem zi_X5_shut : zIV yX5_shut := ⟨zmem (n := 747) rfl rfl, zmem (n := 748) rfl rfl, zini_X5⟩
set_option maxRecDepth 20000 in
theorem zm_X5_open : zM yX5_open cX5_open 3 (some FieldType.int) 1 := ⟨zmem (n := 757) rfl rfl, by decide, by decide, by decide +kernel⟩
set_option maxRecDepth 20000 in
theorem zi_X5_open : zIV yX5_open := ⟨zmem (n := 755) rfl rfl, zmem (n := 756) rfl rfl, zini_X5⟩
set_option maxRecDepth 20000 in
theorem zm_X5_about : zM yX5_about cX5_about 3 (some FieldType.int) 2 := ⟨zmem (n := 761) rfl rfl, by decide, by decide, by decide +kernel⟩
set_option maxRecDepth 20000 in
theorem zi_X5_about : zIV yX5_about := ⟨zmem (n := 759) rfl rfl, zmem (n := 760) rfl rfl, zini_X5⟩
set_option maxRecDepth 20000 in
theorem zm_X5_harmOn : zM yX5_harmOn cX5_harmOn 7 (some FieldType.int) 2 := ⟨zmem (n := 769) rfl rfl, by decide, by decide, by decide +kernel⟩
set_option maxRecDepth 20000 in
theorem zi_X5_harmOn : zIV yX5_harmOn := ⟨zmem (n := 768) rfl rfl, zmem (n := 41) rfl rfl, zini_X5⟩
set_option maxRecDepth 20000 in
theorem zm_X5_harmed : zM yX5_harmed cX5_harmed 3 (some FieldType.int) 2 := ⟨zmem (n := 765) rfl rfl, by decide, by decide, by decide +kernel⟩
set_option maxRecDepth 20000 in
theorem zi_X5_harmed : zIV yX5_harmed := ⟨zmem (n := 763) rfl rfl, zmem (n := 764) rfl rfl, zini_X5⟩
set_option maxRecDepth 20000 in
theorem zm_X5_ready : zM yX5_ready cX5_ready 3 (some FieldType.int) 1 := ⟨zmem (n := 773) rfl rfl, by decide, by decide, by decide +kernel⟩
set_option maxRecDepth 20000 in
theorem zi_X5_ready : zIV yX5_ready := ⟨zmem (n := 771) rfl rfl, zmem (n := 772) rfl rfl, zini_X5⟩
set_option maxRecDepth 20000 in
theorem zm_X5_set : zM yX5_set cX5_set 5 (some FieldType.int) 3 := ⟨zmem (n := 777) rfl rfl, by decide, by decide, by decide +kernel⟩
set_option maxRecDepth 20000 in
theorem zi_X5_set : zIV yX5_set := ⟨zmem (n := 775) rfl rfl, zmem (n := 776) rfl rfl, zini_X5⟩
set_option maxRecDepth 20000 in
theorem zm_X5_costOf : zM yX5_costOf cX5_costOf 4 (some FieldType.int) 1 := ⟨zmem (n := 785) rfl rfl, by decide, by decide, by decide +kernel⟩
set_option maxRecDepth 20000 in
theorem zi_X5_costOf : zIV yX5_costOf := ⟨zmem (n := 784) rfl rfl, zmem (n := 42) rfl rfl, zini_X5⟩
set_option maxRecDepth 20000 in
theorem zm_X5_plan : zM yX5_plan cX5_plan 5 (some FieldType.int) 1 := ⟨zmem (n := 781) rfl rfl, by decide, by decide, by decide +kernel⟩
set_option maxRecDepth 20000 in
theorem zi_X5_plan : zIV yX5_plan := ⟨zmem (n := 779) rfl rfl, zmem (n := 780) rfl rfl, zini_X5⟩
set_option maxRecDepth 20000 in
theorem zm_X5_told : zM yX5_told cX5_told 4 (some FieldType.int) 1 := ⟨zmem (n := 789) rfl rfl, by decide, by decide, by decide +kernel⟩
set_option maxRecDepth 20000 in
theorem zi_X5_told : zIV yX5_told := ⟨zmem (n := 787) rfl rfl, zmem (n := 788) rfl rfl, zini_X5⟩
set_option maxRecDepth 20000 in
theorem zm_X5_trace : zM yX5_trace cX5_trace 1 (some FieldType.long) 0 := ⟨zmem (n := 793) rfl rfl, by decide, by decide, by decide +kernel⟩
set_option maxRecDepth 20000 in
theorem zi_X5_trace : zIV yX5_trace := ⟨zmem (n := 791) rfl rfl, zmem (n := 792) rfl rfl, zini_X5⟩
set_option maxRecDepth 20000 in
theorem zm_J6_bitCount_0f7a4 : zM yJ6_bitCount_0f7a4 cJ6_bitCount_0f7a4 1 (some FieldType.int) 1 := ⟨zmem (n := 303) rfl rfl, by decide, by decide, by decide +kernel⟩
set_option maxRecDepth 20000 in
theorem zi_J6_bitCount_0f7a4 : zIS yJ6_bitCount_0f7a4 := ⟨zmem (n := 302) rfl rfl, zini_J6⟩
set_option maxRecDepth 20000 in
theorem zm_J9_max_7cf53 : zM yJ9_max_7cf53 cJ9_max_7cf53 2 (some FieldType.int) 2 := ⟨zmem (n := 425) rfl rfl, by decide, by decide, by decide +kernel⟩
set_option maxRecDepth 20000 in
theorem zi_J9_max_7cf53 : zIS yJ9_max_7cf53 := ⟨zmem (n := 424) rfl rfl, zini_J9⟩
set_option maxRecDepth 20000 in
theorem zm_J9_min_7cf53 : zM yJ9_min_7cf53 cJ9_min_7cf53 2 (some FieldType.int) 2 := ⟨zmem (n := 446) rfl rfl, by decide, by decide, by decide +kernel⟩
set_option maxRecDepth 20000 in
theorem zi_J9_min_7cf53 : zIS yJ9_min_7cf53 := ⟨zmem (n := 445) rfl rfl, zini_J9⟩
set_option maxRecDepth 20000 in
theorem zm_J7_fill_53178 : zM yJ7_fill_53178 cJ7_fill_53178 4 none 2 := ⟨zmem (n := 75) rfl rfl, by decide, by decide, by decide +kernel⟩
set_option maxRecDepth 20000 in
theorem zi_J7_fill_53178 : zIS yJ7_fill_53178 := ⟨zmem (n := 74) rfl rfl, zini_J7⟩
set_option maxRecDepth 20000 in
theorem zcc_L_7 : Cond.classLink RL 7 "WhoCalls" ∈ zall := zmem (n := 54) rfl rfl
set_option maxRecDepth 20000 in
theorem zk_L_9 : Cond.methodLink RL 9 yX4_init ∈ zall := zmem (n := 56) rfl rfl
set_option maxRecDepth 20000 in
theorem zcc_X4_9 : Cond.classLink RX4 9 "WhoCalls$Door" ∈ zall := zmem (n := 62) rfl rfl
set_option maxRecDepth 20000 in
theorem zcc_X4_15 : Cond.classLink RX4 15 "WhoCalls$House" ∈ zall := zmem (n := 64) rfl rfl
set_option maxRecDepth 20000 in
theorem zcc_X4_21 : Cond.classLink RX4 21 "WhoCalls$Rule" ∈ zall := zmem (n := 66) rfl rfl
set_option maxRecDepth 20000 in
theorem zk_X0_28 : Cond.methodLink RX0 28 yJ7_fill_53178 ∈ zall := zmem (n := 73) rfl rfl
set_option maxRecDepth 20000 in
theorem zf_X0_9 : Cond.fieldLink RX0 9 "WhoCalls$Door" "answers" "[I" ∈ zall := zmem (n := 76) rfl rfl
set_option maxRecDepth 20000 in
theorem zf_X0_15 : Cond.fieldLink RX0 15 "WhoCalls$Door" "promises" "[I" ∈ zall := zmem (n := 78) rfl rfl
set_option maxRecDepth 20000 in
theorem zf_X0_18 : Cond.fieldLink RX0 18 "WhoCalls$Door" "shutDay" "I" ∈ zall := zmem (n := 80) rfl rfl
set_option maxRecDepth 20000 in
theorem zf_X0_22 : Cond.fieldLink RX0 22 "WhoCalls$Door" "surprises" "I" ∈ zall := zmem (n := 82) rfl rfl
set_option maxRecDepth 20000 in
theorem zf_X0_25 : Cond.fieldLink RX0 25 "WhoCalls$Door" "cost" "I" ∈ zall := zmem (n := 84) rfl rfl
set_option maxRecDepth 20000 in
theorem zcc_X1_9 : Cond.classLink RX1 9 "WhoCalls$Text" ∈ zall := zmem (n := 103) rfl rfl
set_option maxRecDepth 20000 in
theorem zf_X3_9 : Cond.fieldLink RX3 9 "WhoCalls$Text" "kinds" "[I" ∈ zall := zmem (n := 109) rfl rfl
set_option maxRecDepth 20000 in
theorem zf_X3_15 : Cond.fieldLink RX3 15 "WhoCalls$Text" "firsts" "[I" ∈ zall := zmem (n := 110) rfl rfl
set_option maxRecDepth 20000 in
theorem zf_X3_18 : Cond.fieldLink RX3 18 "WhoCalls$Text" "seconds" "[I" ∈ zall := zmem (n := 111) rfl rfl
set_option maxRecDepth 20000 in
theorem zf_X3_21 : Cond.fieldLink RX3 21 "WhoCalls$Text" "numbers" "[I" ∈ zall := zmem (n := 112) rfl rfl
set_option maxRecDepth 20000 in
theorem zf_X3_24 : Cond.fieldLink RX3 24 "WhoCalls$Text" "sets" "[I" ∈ zall := zmem (n := 113) rfl rfl
set_option maxRecDepth 20000 in
theorem zf_X3_27 : Cond.fieldLink RX3 27 "WhoCalls$Text" "ends" "[I" ∈ zall := zmem (n := 114) rfl rfl
set_option maxRecDepth 20000 in
theorem zf_X3_30 : Cond.fieldLink RX3 30 "WhoCalls$Text" "size" "I" ∈ zall := zmem (n := 115) rfl rfl
set_option maxRecDepth 20000 in
theorem zf_X1_12 : Cond.fieldLink RX1 12 "WhoCalls$House" "text" "LWhoCalls$Text;" ∈ zall := zmem (n := 133) rfl rfl
set_option maxRecDepth 20000 in
theorem zf_X1_18 : Cond.fieldLink RX1 18 "WhoCalls$House" "counts" "[I" ∈ zall := zmem (n := 135) rfl rfl
set_option maxRecDepth 20000 in
theorem zf_X1_22 : Cond.fieldLink RX1 22 "WhoCalls$House" "marks" "[Z" ∈ zall := zmem (n := 136) rfl rfl
set_option maxRecDepth 20000 in
theorem zf_X1_26 : Cond.fieldLink RX1 26 "WhoCalls$House" "hasCounts" "Z" ∈ zall := zmem (n := 138) rfl rfl
set_option maxRecDepth 20000 in
theorem zf_X1_30 : Cond.fieldLink RX1 30 "WhoCalls$House" "version" "I" ∈ zall := zmem (n := 139) rfl rfl
set_option maxRecDepth 20000 in
theorem zf_X1_34 : Cond.fieldLink RX1 34 "WhoCalls$House" "hours" "I" ∈ zall := zmem (n := 141) rfl rfl
set_option maxRecDepth 20000 in
theorem zf_X4_11 : Cond.fieldLink RX4 11 "WhoCalls" "doors" "[LWhoCalls$Door;" ∈ zall := zmem (n := 157) rfl rfl
set_option maxRecDepth 20000 in
theorem zf_X4_17 : Cond.fieldLink RX4 17 "WhoCalls" "houses" "[LWhoCalls$House;" ∈ zall := zmem (n := 158) rfl rfl
set_option maxRecDepth 20000 in
theorem zf_X4_23 : Cond.fieldLink RX4 23 "WhoCalls" "rules" "[LWhoCalls$Rule;" ∈ zall := zmem (n := 159) rfl rfl
set_option maxRecDepth 20000 in
theorem zf_X4_27 : Cond.fieldLink RX4 27 "WhoCalls" "ruleCount" "I" ∈ zall := zmem (n := 160) rfl rfl
set_option maxRecDepth 20000 in
theorem zf_X4_31 : Cond.fieldLink RX4 31 "WhoCalls" "versionCount" "I" ∈ zall := zmem (n := 161) rfl rfl
set_option maxRecDepth 20000 in
theorem zf_X4_34 : Cond.fieldLink RX4 34 "WhoCalls" "today" "I" ∈ zall := zmem (n := 162) rfl rfl
set_option maxRecDepth 20000 in
theorem zf_X4_37 : Cond.fieldLink RX4 37 "WhoCalls" "mostADay" "I" ∈ zall := zmem (n := 163) rfl rfl
set_option maxRecDepth 20000 in
theorem zf_X4_40 : Cond.fieldLink RX4 40 "WhoCalls" "traced" "J" ∈ zall := zmem (n := 164) rfl rfl
set_option maxRecDepth 20000 in
theorem zk_L_13 : Cond.methodLink RL 13 yX4_version ∈ zall := zmem (n := 182) rfl rfl
set_option maxRecDepth 20000 in
theorem zk_L_18 : Cond.methodLink RL 18 yX4_answer ∈ zall := zmem (n := 193) rfl rfl
set_option maxRecDepth 20000 in
theorem zk_X4_50 : Cond.methodLink RX4 50 yX4_doorAt ∈ zall := zmem (n := 197) rfl rfl
set_option maxRecDepth 20000 in
theorem zk_X4_80 : Cond.methodLink RX4 80 yX4_isFace ∈ zall := zmem (n := 201) rfl rfl
set_option maxRecDepth 20000 in
theorem zk_X4_58 : Cond.methodLink RX4 58 yX4_isWithin ∈ zall := zmem (n := 204) rfl rfl
set_option maxRecDepth 20000 in
theorem zk_X4_54 : Cond.methodLink RX4 54 yX4_isVersion ∈ zall := zmem (n := 207) rfl rfl
set_option maxRecDepth 20000 in
theorem zk_L_23 : Cond.methodLink RL 23 yX4_differ ∈ zall := zmem (n := 215) rfl rfl
set_option maxRecDepth 20000 in
theorem zk_X0_40 : Cond.methodLink RX0 40 yX0_answerTo ∈ zall := zmem (n := 223) rfl rfl
set_option maxRecDepth 20000 in
theorem zk_L_28 : Cond.methodLink RL 28 yX4_goes ∈ zall := zmem (n := 224) rfl rfl
set_option maxRecDepth 20000 in
theorem zk_X4_73 : Cond.methodLink RX4 73 yX4_houseAt ∈ zall := zmem (n := 228) rfl rfl
set_option maxRecDepth 20000 in
theorem zk_L_33 : Cond.methodLink RL 33 yX4_call ∈ zall := zmem (n := 232) rfl rfl
set_option maxRecDepth 20000 in
theorem zk_X3_38 : Cond.methodLink RX3 38 yX3_added ∈ zall := zmem (n := 240) rfl rfl
set_option maxRecDepth 20000 in
theorem zk_L_37 : Cond.methodLink RL 37 yX4_wrap ∈ zall := zmem (n := 244) rfl rfl
set_option maxRecDepth 20000 in
theorem zk_L_41 : Cond.methodLink RL 41 yX4_split ∈ zall := zmem (n := 257) rfl rfl
set_option maxRecDepth 20000 in
theorem zk_L_46 : Cond.methodLink RL 46 yX4_clear ∈ zall := zmem (n := 265) rfl rfl
set_option maxRecDepth 20000 in
theorem zk_L_51 : Cond.methodLink RL 51 yX4_sees ∈ zall := zmem (n := 269) rfl rfl
set_option maxRecDepth 20000 in
theorem zk_X3_46 : Cond.methodLink RX3 46 yX3_steps ∈ zall := zmem (n := 277) rfl rfl
set_option maxRecDepth 20000 in
theorem zk_X3_50 : Cond.methodLink RX3 50 yX3_has ∈ zall := zmem (n := 280) rfl rfl
set_option maxRecDepth 20000 in
theorem zk_X3_54 : Cond.methodLink RX3 54 yX3_turned ∈ zall := zmem (n := 281) rfl rfl
set_option maxRecDepth 20000 in
theorem zk_L_55 : Cond.methodLink RL 55 yX4_uses ∈ zall := zmem (n := 288) rfl rfl
set_option maxRecDepth 20000 in
theorem zk_X3_42 : Cond.methodLink RX3 42 yX3_seenBy ∈ zall := zmem (n := 296) rfl rfl
set_option maxRecDepth 20000 in
theorem zk_L_59 : Cond.methodLink RL 59 yX4_shape ∈ zall := zmem (n := 297) rfl rfl
set_option maxRecDepth 20000 in
theorem zk_X4_116 : Cond.methodLink RX4 116 yJ6_bitCount_0f7a4 ∈ zall := zmem (n := 301) rfl rfl
set_option maxRecDepth 20000 in
theorem zcn_J6_265 : Cond.constant RJ6 265 (1431655765 : Int32) ∈ zall := zmem (n := 304) rfl rfl
set_option maxRecDepth 20000 in
theorem zcn_J6_266 : Cond.constant RJ6 266 (858993459 : Int32) ∈ zall := zmem (n := 305) rfl rfl
set_option maxRecDepth 20000 in
theorem zcn_J6_267 : Cond.constant RJ6 267 (252645135 : Int32) ∈ zall := zmem (n := 306) rfl rfl
set_option maxRecDepth 20000 in
theorem zk_L_63 : Cond.methodLink RL 63 yX4_count ∈ zall := zmem (n := 307) rfl rfl
set_option maxRecDepth 20000 in
theorem zk_X4_121 : Cond.methodLink RX4 121 yX4_isDay ∈ zall := zmem (n := 311) rfl rfl
set_option maxRecDepth 20000 in
theorem zk_L_67 : Cond.methodLink RL 67 yX4_sum ∈ zall := zmem (n := 322) rfl rfl
set_option maxRecDepth 20000 in
theorem zk_X4_141 : Cond.methodLink RX4 141 yX4_isSpan ∈ zall := zmem (n := 326) rfl rfl
set_option maxRecDepth 20000 in
theorem zk_L_71 : Cond.methodLink RL 71 yX4_silent ∈ zall := zmem (n := 333) rfl rfl
set_option maxRecDepth 20000 in
theorem zk_L_75 : Cond.methodLink RL 75 yX4_most ∈ zall := zmem (n := 341) rfl rfl
set_option maxRecDepth 20000 in
theorem zk_X4_151 : Cond.methodLink RX4 151 yX4_silentHouses ∈ zall := zmem (n := 345) rfl rfl
set_option maxRecDepth 20000 in
theorem zk_L_79 : Cond.methodLink RL 79 yX4_harm ∈ zall := zmem (n := 349) rfl rfl
set_option maxRecDepth 20000 in
theorem zk_L_83 : Cond.methodLink RL 83 yX4_rule ∈ zall := zmem (n := 357) rfl rfl
set_option maxRecDepth 20000 in
theorem zf_X2_7 : Cond.fieldLink RX2 7 "WhoCalls$Rule" "face" "I" ∈ zall := zmem (n := 366) rfl rfl
set_option maxRecDepth 20000 in
theorem zf_X2_13 : Cond.fieldLink RX2 13 "WhoCalls$Rule" "set" "I" ∈ zall := zmem (n := 368) rfl rfl
set_option maxRecDepth 20000 in
theorem zf_X2_16 : Cond.fieldLink RX2 16 "WhoCalls$Rule" "to" "I" ∈ zall := zmem (n := 370) rfl rfl
set_option maxRecDepth 20000 in
theorem zf_X2_19 : Cond.fieldLink RX2 19 "WhoCalls$Rule" "d" "I" ∈ zall := zmem (n := 372) rfl rfl
set_option maxRecDepth 20000 in
theorem zk_L_87 : Cond.methodLink RL 87 yX4_holds ∈ zall := zmem (n := 383) rfl rfl
set_option maxRecDepth 20000 in
theorem zk_X4_160 : Cond.methodLink RX4 160 yX4_ruleAt ∈ zall := zmem (n := 387) rfl rfl
set_option maxRecDepth 20000 in
theorem zk_X4_164 : Cond.methodLink RX4 164 yX4_isHeld ∈ zall := zmem (n := 391) rfl rfl
set_option maxRecDepth 20000 in
theorem zk_L_91 : Cond.methodLink RL 91 yX4_clash ∈ zall := zmem (n := 395) rfl rfl
set_option maxRecDepth 20000 in
theorem zk_L_95 : Cond.methodLink RL 95 yX4_left ∈ zall := zmem (n := 399) rfl rfl
set_option maxRecDepth 20000 in
theorem zk_L_99 : Cond.methodLink RL 99 yX4_days ∈ zall := zmem (n := 403) rfl rfl
set_option maxRecDepth 20000 in
theorem zk_L_103 : Cond.methodLink RL 103 yX4_promise ∈ zall := zmem (n := 407) rfl rfl
set_option maxRecDepth 20000 in
theorem zk_L_107 : Cond.methodLink RL 107 yX4_shut ∈ zall := zmem (n := 411) rfl rfl
set_option maxRecDepth 20000 in
theorem zk_X0_49 : Cond.methodLink RX0 49 yX0_latestPromise ∈ zall := zmem (n := 419) rfl rfl
set_option maxRecDepth 20000 in
theorem zk_X0_44 : Cond.methodLink RX0 44 yJ9_max_7cf53 ∈ zall := zmem (n := 423) rfl rfl
set_option maxRecDepth 20000 in
theorem zk_L_111 : Cond.methodLink RL 111 yX4_open ∈ zall := zmem (n := 426) rfl rfl
set_option maxRecDepth 20000 in
theorem zk_L_115 : Cond.methodLink RL 115 yX4_about ∈ zall := zmem (n := 430) rfl rfl
set_option maxRecDepth 20000 in
theorem zk_L_119 : Cond.methodLink RL 119 yX4_harmed ∈ zall := zmem (n := 435) rfl rfl
set_option maxRecDepth 20000 in
theorem zk_X1_37 : Cond.methodLink RX1 37 yJ9_max_7cf53 ∈ zall := zmem (n := 443) rfl rfl
set_option maxRecDepth 20000 in
theorem zk_X1_43 : Cond.methodLink RX1 43 yJ9_min_7cf53 ∈ zall := zmem (n := 444) rfl rfl
set_option maxRecDepth 20000 in
theorem zk_X1_46 : Cond.methodLink RX1 46 yX1_counted ∈ zall := zmem (n := 447) rfl rfl
set_option maxRecDepth 20000 in
theorem zk_L_123 : Cond.methodLink RL 123 yX4_ready ∈ zall := zmem (n := 448) rfl rfl
set_option maxRecDepth 20000 in
theorem zk_X4_192 : Cond.methodLink RX4 192 yX4_harmed ∈ zall := zmem (n := 452) rfl rfl
set_option maxRecDepth 20000 in
theorem zk_L_127 : Cond.methodLink RL 127 yX4_set ∈ zall := zmem (n := 453) rfl rfl
set_option maxRecDepth 20000 in
theorem zk_X4_195 : Cond.methodLink RX4 195 yX4_becomeCost ∈ zall := zmem (n := 457) rfl rfl
set_option maxRecDepth 20000 in
theorem zk_X4_199 : Cond.methodLink RX4 199 yX4_becomeHours ∈ zall := zmem (n := 460) rfl rfl
set_option maxRecDepth 20000 in
theorem zk_L_131 : Cond.methodLink RL 131 yX4_plan ∈ zall := zmem (n := 463) rfl rfl
set_option maxRecDepth 20000 in
theorem zk_X4_203 : Cond.methodLink RX4 203 yX4_hoursWithout ∈ zall := zmem (n := 467) rfl rfl
set_option maxRecDepth 20000 in
theorem zk_X4_206 : Cond.methodLink RX4 206 yX4_isKept ∈ zall := zmem (n := 471) rfl rfl
set_option maxRecDepth 20000 in
theorem zk_L_135 : Cond.methodLink RL 135 yX4_told ∈ zall := zmem (n := 475) rfl rfl
set_option maxRecDepth 20000 in
theorem zk_X4_213 : Cond.methodLink RX4 213 yX4_shutDoors ∈ zall := zmem (n := 479) rfl rfl
set_option maxRecDepth 20000 in
theorem zk_L_139 : Cond.methodLink RL 139 yX4_trace ∈ zall := zmem (n := 483) rfl rfl
set_option maxRecDepth 20000 in
theorem zcc_L_10 : Cond.classLink RL 10 "WhoCallsModel" ∈ zall := zmem (n := 487) rfl rfl
set_option maxRecDepth 20000 in
theorem zk_L_12 : Cond.methodLink RL 12 yX5_init ∈ zall := zmem (n := 489) rfl rfl
set_option maxRecDepth 20000 in
theorem zf_X5_7 : Cond.fieldLink RX5 7 "WhoCallsModel" "versions" "I" ∈ zall := zmem (n := 493) rfl rfl
set_option maxRecDepth 20000 in
theorem zf_X5_13 : Cond.fieldLink RX5 13 "WhoCallsModel" "answers" "[I" ∈ zall := zmem (n := 494) rfl rfl
set_option maxRecDepth 20000 in
theorem zf_X5_17 : Cond.fieldLink RX5 17 "WhoCallsModel" "goesBy" "[I" ∈ zall := zmem (n := 495) rfl rfl
set_option maxRecDepth 20000 in
theorem zf_X5_20 : Cond.fieldLink RX5 20 "WhoCallsModel" "lines" "[I" ∈ zall := zmem (n := 496) rfl rfl
set_option maxRecDepth 20000 in
theorem zf_X5_23 : Cond.fieldLink RX5 23 "WhoCallsModel" "kind" "[I" ∈ zall := zmem (n := 497) rfl rfl
set_option maxRecDepth 20000 in
theorem zf_X5_26 : Cond.fieldLink RX5 26 "WhoCallsModel" "first" "[I" ∈ zall := zmem (n := 498) rfl rfl
set_option maxRecDepth 20000 in
theorem zf_X5_29 : Cond.fieldLink RX5 29 "WhoCallsModel" "second" "[I" ∈ zall := zmem (n := 499) rfl rfl
set_option maxRecDepth 20000 in
theorem zf_X5_32 : Cond.fieldLink RX5 32 "WhoCallsModel" "by" "[I" ∈ zall := zmem (n := 500) rfl rfl
set_option maxRecDepth 20000 in
theorem zf_X5_35 : Cond.fieldLink RX5 35 "WhoCallsModel" "set" "[I" ∈ zall := zmem (n := 501) rfl rfl
set_option maxRecDepth 20000 in
theorem zf_X5_38 : Cond.fieldLink RX5 38 "WhoCallsModel" "counted" "[I" ∈ zall := zmem (n := 502) rfl rfl
set_option maxRecDepth 20000 in
theorem zf_X5_41 : Cond.fieldLink RX5 41 "WhoCallsModel" "isMarked" "[Z" ∈ zall := zmem (n := 503) rfl rfl
set_option maxRecDepth 20000 in
theorem zf_X5_45 : Cond.fieldLink RX5 45 "WhoCallsModel" "hasCounts" "[Z" ∈ zall := zmem (n := 504) rfl rfl
set_option maxRecDepth 20000 in
theorem zf_X5_48 : Cond.fieldLink RX5 48 "WhoCallsModel" "most" "I" ∈ zall := zmem (n := 505) rfl rfl
set_option maxRecDepth 20000 in
theorem zf_X5_163 : Cond.fieldLink RX5 163 "WhoCallsModel" "rules" "I" ∈ zall := zmem (n := 506) rfl rfl
set_option maxRecDepth 20000 in
theorem zf_X5_51 : Cond.fieldLink RX5 51 "WhoCallsModel" "ruleFace" "[I" ∈ zall := zmem (n := 507) rfl rfl
set_option maxRecDepth 20000 in
theorem zf_X5_54 : Cond.fieldLink RX5 54 "WhoCallsModel" "ruleSet" "[I" ∈ zall := zmem (n := 508) rfl rfl
set_option maxRecDepth 20000 in
theorem zf_X5_57 : Cond.fieldLink RX5 57 "WhoCallsModel" "ruleTo" "[I" ∈ zall := zmem (n := 509) rfl rfl
set_option maxRecDepth 20000 in
theorem zf_X5_60 : Cond.fieldLink RX5 60 "WhoCallsModel" "ruleBy" "[I" ∈ zall := zmem (n := 510) rfl rfl
set_option maxRecDepth 20000 in
theorem zf_X5_90 : Cond.fieldLink RX5 90 "WhoCallsModel" "today" "I" ∈ zall := zmem (n := 511) rfl rfl
set_option maxRecDepth 20000 in
theorem zf_X5_63 : Cond.fieldLink RX5 63 "WhoCallsModel" "promised" "[I" ∈ zall := zmem (n := 512) rfl rfl
set_option maxRecDepth 20000 in
theorem zf_X5_66 : Cond.fieldLink RX5 66 "WhoCallsModel" "shutOn" "[I" ∈ zall := zmem (n := 513) rfl rfl
set_option maxRecDepth 20000 in
theorem zf_X5_69 : Cond.fieldLink RX5 69 "WhoCallsModel" "surprises" "[I" ∈ zall := zmem (n := 514) rfl rfl
set_option maxRecDepth 20000 in
theorem zf_X5_72 : Cond.fieldLink RX5 72 "WhoCallsModel" "keepCost" "[I" ∈ zall := zmem (n := 515) rfl rfl
set_option maxRecDepth 20000 in
theorem zf_X5_75 : Cond.fieldLink RX5 75 "WhoCallsModel" "hours" "[I" ∈ zall := zmem (n := 516) rfl rfl
set_option maxRecDepth 20000 in
theorem zf_X5_144 : Cond.fieldLink RX5 144 "WhoCallsModel" "trace" "J" ∈ zall := zmem (n := 517) rfl rfl
set_option maxRecDepth 20000 in
theorem zf_X5_78 : Cond.fieldLink RX5 78 "WhoCallsModel" "pile" "[I" ∈ zall := zmem (n := 518) rfl rfl
set_option maxRecDepth 20000 in
theorem zf_X5_81 : Cond.fieldLink RX5 81 "WhoCallsModel" "pileSet" "[I" ∈ zall := zmem (n := 519) rfl rfl
set_option maxRecDepth 20000 in
theorem zf_X5_84 : Cond.fieldLink RX5 84 "WhoCallsModel" "seen" "[I" ∈ zall := zmem (n := 520) rfl rfl
set_option maxRecDepth 20000 in
theorem zf_X5_125 : Cond.fieldLink RX5 125 "WhoCallsModel" "asked" "J" ∈ zall := zmem (n := 521) rfl rfl
set_option maxRecDepth 20000 in
theorem zf_X5_122 : Cond.fieldLink RX5 122 "WhoCallsModel" "piled" "I" ∈ zall := zmem (n := 522) rfl rfl
set_option maxRecDepth 20000 in
theorem zf_X5_87 : Cond.fieldLink RX5 87 "WhoCallsModel" "lossOf" "[I" ∈ zall := zmem (n := 523) rfl rfl
set_option maxRecDepth 20000 in
theorem zk_L_17 : Cond.methodLink RL 17 yX5_version ∈ zall := zmem (n := 587) rfl rfl
set_option maxRecDepth 20000 in
theorem zk_L_22 : Cond.methodLink RL 22 yX5_answer ∈ zall := zmem (n := 591) rfl rfl
set_option maxRecDepth 20000 in
theorem zk_X5_97 : Cond.methodLink RX5 97 yX5_isFace ∈ zall := zmem (n := 595) rfl rfl
set_option maxRecDepth 20000 in
theorem zk_X5_93 : Cond.methodLink RX5 93 yX5_in ∈ zall := zmem (n := 598) rfl rfl
set_option maxRecDepth 20000 in
theorem zk_X5_101 : Cond.methodLink RX5 101 yX5_isVersion ∈ zall := zmem (n := 601) rfl rfl
set_option maxRecDepth 20000 in
theorem zk_L_27 : Cond.methodLink RL 27 yX5_differ ∈ zall := zmem (n := 605) rfl rfl
set_option maxRecDepth 20000 in
theorem zk_X5_104 : Cond.methodLink RX5 104 yX5_differs ∈ zall := zmem (n := 609) rfl rfl
set_option maxRecDepth 20000 in
theorem zk_L_32 : Cond.methodLink RL 32 yX5_goes ∈ zall := zmem (n := 613) rfl rfl
set_option maxRecDepth 20000 in
theorem zk_X5_108 : Cond.methodLink RX5 108 yX5_isHouse ∈ zall := zmem (n := 617) rfl rfl
set_option maxRecDepth 20000 in
theorem zk_L_36 : Cond.methodLink RL 36 yX5_call ∈ zall := zmem (n := 620) rfl rfl
set_option maxRecDepth 20000 in
theorem zk_X5_111 : Cond.methodLink RX5 111 yX5_isSet ∈ zall := zmem (n := 624) rfl rfl
set_option maxRecDepth 20000 in
theorem zk_X5_114 : Cond.methodLink RX5 114 yX5_comes ∈ zall := zmem (n := 627) rfl rfl
set_option maxRecDepth 20000 in
theorem zk_L_40 : Cond.methodLink RL 40 yX5_wrap ∈ zall := zmem (n := 631) rfl rfl
set_option maxRecDepth 20000 in
theorem zk_X5_118 : Cond.methodLink RX5 118 yX5_isLine ∈ zall := zmem (n := 635) rfl rfl
set_option maxRecDepth 20000 in
theorem zk_L_45 : Cond.methodLink RL 45 yX5_split ∈ zall := zmem (n := 639) rfl rfl
set_option maxRecDepth 20000 in
theorem zk_L_50 : Cond.methodLink RL 50 yX5_clear ∈ zall := zmem (n := 643) rfl rfl
set_option maxRecDepth 20000 in
theorem zk_L_54 : Cond.methodLink RL 54 yX5_sees ∈ zall := zmem (n := 647) rfl rfl
set_option maxRecDepth 20000 in
theorem zk_X5_141 : Cond.methodLink RX5 141 yX5_follow ∈ zall := zmem (n := 651) rfl rfl
set_option maxRecDepth 20000 in
theorem zk_X5_129 : Cond.methodLink RX5 129 yX5_piles ∈ zall := zmem (n := 655) rfl rfl
set_option maxRecDepth 20000 in
theorem zcn_X5_133 : Cond.constantLong RX5 133 (10 : Int64) ∈ zall := zmem (n := 659) rfl rfl
set_option maxRecDepth 20000 in
theorem zk_X5_135 : Cond.methodLink RX5 135 yX5_turned ∈ zall := zmem (n := 660) rfl rfl
set_option maxRecDepth 20000 in
theorem zcn_X5_139 : Cond.constantLong RX5 139 (100 : Int64) ∈ zall := zmem (n := 663) rfl rfl
set_option maxRecDepth 20000 in
theorem zk_L_58 : Cond.methodLink RL 58 yX5_uses ∈ zall := zmem (n := 664) rfl rfl
set_option maxRecDepth 20000 in
theorem zk_X5_147 : Cond.methodLink RX5 147 yX5_usesOf ∈ zall := zmem (n := 668) rfl rfl
set_option maxRecDepth 20000 in
theorem zk_L_62 : Cond.methodLink RL 62 yX5_shape ∈ zall := zmem (n := 672) rfl rfl
set_option maxRecDepth 20000 in
theorem zk_L_66 : Cond.methodLink RL 66 yX5_count ∈ zall := zmem (n := 676) rfl rfl
set_option maxRecDepth 20000 in
theorem zk_X5_150 : Cond.methodLink RX5 150 yX5_isShut ∈ zall := zmem (n := 680) rfl rfl
set_option maxRecDepth 20000 in
theorem zk_L_70 : Cond.methodLink RL 70 yX5_sum ∈ zall := zmem (n := 684) rfl rfl
set_option maxRecDepth 20000 in
theorem zk_X5_153 : Cond.methodLink RX5 153 yX5_isSpan ∈ zall := zmem (n := 688) rfl rfl
set_option maxRecDepth 20000 in
theorem zk_X5_156 : Cond.methodLink RX5 156 yX5_sumOf ∈ zall := zmem (n := 691) rfl rfl
set_option maxRecDepth 20000 in
theorem zk_L_74 : Cond.methodLink RL 74 yX5_silent ∈ zall := zmem (n := 695) rfl rfl
set_option maxRecDepth 20000 in
theorem zk_X5_160 : Cond.methodLink RX5 160 yX5_isSilent ∈ zall := zmem (n := 699) rfl rfl
set_option maxRecDepth 20000 in
theorem zk_L_78 : Cond.methodLink RL 78 yX5_most ∈ zall := zmem (n := 703) rfl rfl
set_option maxRecDepth 20000 in
theorem zk_L_82 : Cond.methodLink RL 82 yX5_harm ∈ zall := zmem (n := 707) rfl rfl
set_option maxRecDepth 20000 in
theorem zk_L_86 : Cond.methodLink RL 86 yX5_rule ∈ zall := zmem (n := 711) rfl rfl
set_option maxRecDepth 20000 in
theorem zk_L_90 : Cond.methodLink RL 90 yX5_holds ∈ zall := zmem (n := 715) rfl rfl
set_option maxRecDepth 20000 in
theorem zk_X5_166 : Cond.methodLink RX5 166 yX5_isRule ∈ zall := zmem (n := 719) rfl rfl
set_option maxRecDepth 20000 in
theorem zk_X5_169 : Cond.methodLink RX5 169 yX5_holdsFrom ∈ zall := zmem (n := 723) rfl rfl
set_option maxRecDepth 20000 in
theorem zk_L_94 : Cond.methodLink RL 94 yX5_clash ∈ zall := zmem (n := 727) rfl rfl
set_option maxRecDepth 20000 in
theorem zk_L_98 : Cond.methodLink RL 98 yX5_left ∈ zall := zmem (n := 731) rfl rfl
set_option maxRecDepth 20000 in
theorem zk_L_102 : Cond.methodLink RL 102 yX5_days ∈ zall := zmem (n := 735) rfl rfl
set_option maxRecDepth 20000 in
theorem zk_L_106 : Cond.methodLink RL 106 yX5_promise ∈ zall := zmem (n := 739) rfl rfl
set_option maxRecDepth 20000 in
theorem zk_X5_172 : Cond.methodLink RX5 172 yX5_shown ∈ zall := zmem (n := 743) rfl rfl
set_option maxRecDepth 20000 in
theorem zk_L_110 : Cond.methodLink RL 110 yX5_shut ∈ zall := zmem (n := 746) rfl rfl
set_option maxRecDepth 20000 in
theorem zk_X5_176 : Cond.methodLink RX5 176 yX5_latest ∈ zall := zmem (n := 750) rfl rfl
set_option maxRecDepth 20000 in
theorem zk_L_114 : Cond.methodLink RL 114 yX5_open ∈ zall := zmem (n := 754) rfl rfl
set_option maxRecDepth 20000 in
theorem zk_L_118 : Cond.methodLink RL 118 yX5_about ∈ zall := zmem (n := 758) rfl rfl
set_option maxRecDepth 20000 in
theorem zk_L_122 : Cond.methodLink RL 122 yX5_harmed ∈ zall := zmem (n := 762) rfl rfl
set_option maxRecDepth 20000 in
theorem zk_X5_179 : Cond.methodLink RX5 179 yX5_harmOn ∈ zall := zmem (n := 766) rfl rfl
set_option maxRecDepth 20000 in
theorem zk_L_126 : Cond.methodLink RL 126 yX5_ready ∈ zall := zmem (n := 770) rfl rfl
set_option maxRecDepth 20000 in
theorem zk_L_130 : Cond.methodLink RL 130 yX5_set ∈ zall := zmem (n := 774) rfl rfl
set_option maxRecDepth 20000 in
theorem zk_L_134 : Cond.methodLink RL 134 yX5_plan ∈ zall := zmem (n := 778) rfl rfl
set_option maxRecDepth 20000 in
theorem zk_X5_182 : Cond.methodLink RX5 182 yX5_costOf ∈ zall := zmem (n := 782) rfl rfl
set_option maxRecDepth 20000 in
theorem zk_L_138 : Cond.methodLink RL 138 yX5_told ∈ zall := zmem (n := 786) rfl rfl
set_option maxRecDepth 20000 in
theorem zk_L_143 : Cond.methodLink RL 143 yX5_trace ∈ zall := zmem (n := 790) rfl rfl
set_option maxRecDepth 20000 in
theorem zfn_X4_66 : ("WhoCalls", 66, "WhoCalls$Door", "answers", "[I", "WhoCalls") ∈ zNF := List.mem_of_getElem? (i := 0) rfl
set_option maxRecDepth 20000 in
theorem zfn_X4_180 : ("WhoCalls", 180, "WhoCalls$Door", "promises", "[I", "WhoCalls") ∈ zNF := List.mem_of_getElem? (i := 1) rfl
set_option maxRecDepth 20000 in
theorem zfn_X4_135 : ("WhoCalls", 135, "WhoCalls$Door", "shutDay", "I", "WhoCalls") ∈ zNF := List.mem_of_getElem? (i := 2) rfl
set_option maxRecDepth 20000 in
theorem zfn_X4_138 : ("WhoCalls", 138, "WhoCalls$Door", "surprises", "I", "WhoCalls") ∈ zNF := List.mem_of_getElem? (i := 3) rfl
set_option maxRecDepth 20000 in
theorem zfn_X4_210 : ("WhoCalls", 210, "WhoCalls$Door", "cost", "I", "WhoCalls") ∈ zNF := List.mem_of_getElem? (i := 4) rfl
set_option maxRecDepth 20000 in
theorem zfn_X1_50 : ("WhoCalls$House", 50, "WhoCalls$Text", "size", "I", "WhoCalls") ∈ zNF := List.mem_of_getElem? (i := 5) rfl
set_option maxRecDepth 20000 in
theorem zfn_X4_103 : ("WhoCalls", 103, "WhoCalls$Text", "size", "I", "WhoCalls") ∈ zNF := List.mem_of_getElem? (i := 6) rfl
set_option maxRecDepth 20000 in
theorem zfn_X4_83 : ("WhoCalls", 83, "WhoCalls$House", "text", "LWhoCalls$Text;", "WhoCalls") ∈ zNF := List.mem_of_getElem? (i := 7) rfl
set_option maxRecDepth 20000 in
theorem zfn_X4_124 : ("WhoCalls", 124, "WhoCalls$House", "marks", "[Z", "WhoCalls") ∈ zNF := List.mem_of_getElem? (i := 8) rfl
set_option maxRecDepth 20000 in
theorem zfn_X4_77 : ("WhoCalls", 77, "WhoCalls$House", "version", "I", "WhoCalls") ∈ zNF := List.mem_of_getElem? (i := 9) rfl
set_option maxRecDepth 20000 in
theorem zfn_X4_216 : ("WhoCalls", 216, "WhoCalls$House", "hours", "I", "WhoCalls") ∈ zNF := List.mem_of_getElem? (i := 10) rfl
set_option maxRecDepth 20000 in
theorem zfn_X4_168 : ("WhoCalls", 168, "WhoCalls$Rule", "face", "I", "WhoCalls") ∈ zNF := List.mem_of_getElem? (i := 11) rfl
set_option maxRecDepth 20000 in
theorem zfn_X4_171 : ("WhoCalls", 171, "WhoCalls$Rule", "set", "I", "WhoCalls") ∈ zNF := List.mem_of_getElem? (i := 12) rfl
set_option maxRecDepth 20000 in
theorem zfn_X4_174 : ("WhoCalls", 174, "WhoCalls$Rule", "to", "I", "WhoCalls") ∈ zNF := List.mem_of_getElem? (i := 13) rfl
set_option maxRecDepth 20000 in
theorem zfn_X4_177 : ("WhoCalls", 177, "WhoCalls$Rule", "d", "I", "WhoCalls") ∈ zNF := List.mem_of_getElem? (i := 14) rfl
set_option maxRecDepth 20000 in
theorem zkn_X4_44 : ("WhoCalls", 44, yX0_init, "WhoCalls") ∈ zNM := List.mem_of_getElem? (i := 0) rfl
set_option maxRecDepth 20000 in
theorem zkn_X4_45 : ("WhoCalls", 45, yX1_init, "WhoCalls") ∈ zNM := List.mem_of_getElem? (i := 1) rfl
set_option maxRecDepth 20000 in
theorem zkn_X1_11 : ("WhoCalls$House", 11, yX3_init, "WhoCalls") ∈ zNM := List.mem_of_getElem? (i := 2) rfl
set_option maxRecDepth 20000 in
theorem zkn_X4_46 : ("WhoCalls", 46, yX0_copyAnswers, "WhoCalls") ∈ zNM := List.mem_of_getElem? (i := 3) rfl
set_option maxRecDepth 20000 in
theorem zkn_X4_62 : ("WhoCalls", 62, yX0_answerTo, "WhoCalls") ∈ zNM := List.mem_of_getElem? (i := 4) rfl
set_option maxRecDepth 20000 in
theorem zkn_X4_70 : ("WhoCalls", 70, yX0_differing, "WhoCalls") ∈ zNM := List.mem_of_getElem? (i := 5) rfl
set_option maxRecDepth 20000 in
theorem zkn_X4_87 : ("WhoCalls", 87, yX3_addCall, "WhoCalls") ∈ zNM := List.mem_of_getElem? (i := 6) rfl
set_option maxRecDepth 20000 in
theorem zkn_X4_92 : ("WhoCalls", 92, yX3_has, "WhoCalls") ∈ zNM := List.mem_of_getElem? (i := 7) rfl
set_option maxRecDepth 20000 in
theorem zkn_X3_34 : ("WhoCalls$Text", 34, yX4_isWithin, "WhoCalls") ∈ zNM := List.mem_of_getElem? (i := 8) rfl
set_option maxRecDepth 20000 in
theorem zkn_X4_95 : ("WhoCalls", 95, yX3_addWrap, "WhoCalls") ∈ zNM := List.mem_of_getElem? (i := 9) rfl
set_option maxRecDepth 20000 in
theorem zkn_X4_99 : ("WhoCalls", 99, yX3_addSplit, "WhoCalls") ∈ zNM := List.mem_of_getElem? (i := 10) rfl
set_option maxRecDepth 20000 in
theorem zkn_X4_106 : ("WhoCalls", 106, yX3_stepsOf, "WhoCalls") ∈ zNM := List.mem_of_getElem? (i := 11) rfl
set_option maxRecDepth 20000 in
theorem zkn_X4_110 : ("WhoCalls", 110, yX3_seenBy, "WhoCalls") ∈ zNM := List.mem_of_getElem? (i := 12) rfl
set_option maxRecDepth 20000 in
theorem zkn_X4_113 : ("WhoCalls", 113, yX3_used, "WhoCalls") ∈ zNM := List.mem_of_getElem? (i := 13) rfl
set_option maxRecDepth 20000 in
theorem zkn_X4_128 : ("WhoCalls", 128, yX1_addCount, "WhoCalls") ∈ zNM := List.mem_of_getElem? (i := 14) rfl
set_option maxRecDepth 20000 in
theorem zkn_X4_132 : ("WhoCalls", 132, yX0_isShutOn, "WhoCalls") ∈ zNM := List.mem_of_getElem? (i := 15) rfl
set_option maxRecDepth 20000 in
theorem zkn_X4_144 : ("WhoCalls", 144, yX1_counted, "WhoCalls") ∈ zNM := List.mem_of_getElem? (i := 16) rfl
set_option maxRecDepth 20000 in
theorem zkn_X4_147 : ("WhoCalls", 147, yX1_isSilent, "WhoCalls") ∈ zNM := List.mem_of_getElem? (i := 17) rfl
set_option maxRecDepth 20000 in
theorem zkn_X4_155 : ("WhoCalls", 155, yX3_someSeesOnly, "WhoCalls") ∈ zNM := List.mem_of_getElem? (i := 18) rfl
set_option maxRecDepth 20000 in
theorem zkn_X4_158 : ("WhoCalls", 158, yX2_init, "WhoCalls") ∈ zNM := List.mem_of_getElem? (i := 19) rfl
set_option maxRecDepth 20000 in
theorem zkn_X4_183 : ("WhoCalls", 183, yX0_isPromised, "WhoCalls") ∈ zNM := List.mem_of_getElem? (i := 20) rfl
set_option maxRecDepth 20000 in
theorem zkn_X4_186 : ("WhoCalls", 186, yX0_latestPromise, "WhoCalls") ∈ zNM := List.mem_of_getElem? (i := 21) rfl
set_option maxRecDepth 20000 in
theorem zkn_X4_189 : ("WhoCalls", 189, yX1_calledAround, "WhoCalls") ∈ zNM := List.mem_of_getElem? (i := 22) rfl
end
section
/-! one world for the class and the reference: cells by kind and number; G: ints, longs, counters, addresses -/
abbrev zX : Type := va_G × (Nat → ClassId)
abbrev zG : Type := (Nat → Nat → Nat → Int32) × (Nat → Int64) × (Nat → Nat) × (Nat → Nat → Nat)
def zg (G : zG) : Nat → Nat → Nat → Int32 := G.1
def zt (G : zG) : Nat → Int64 := G.2.1
def zn (G : zG) : Nat → Nat := G.2.2.1
def za (G : zG) : Nat → Nat → Nat := G.2.2.2
def zuA (G : zG) (k i : Nat) (f : Nat → Int32) : zG := (fun k' i' => if k' = k ∧ i' = i then f else G.1 k' i', G.2)
def zu (G : zG) (k i j : Nat) (v : Int32) : zG := zuA G k i (upd (zg G k i) j v)
def zuT (G : zG) (j : Nat) (v : Int64) : zG := (G.1, (fun j' => if j' = j then v else G.2.1 j'), G.2.2)
def zuN (G : zG) (j v : Nat) : zG := (G.1, G.2.1, (fun j' => if j' = j then v else G.2.2.1 j'), G.2.2.2)
def zuD (G : zG) (k i q : Nat) : zG := (G.1, G.2.1, G.2.2.1, fun k' i' => if k' = k ∧ i' = i then q else G.2.2.2 k' i')
def z_cu (I : Nat → ClassId) (a : Nat → Nat → Nat) (n : Nat → Nat) (t : Nat → Int64) (k i : Nat) (f : Nat → Int32) : va_E := match k with
  | 0 => .inr (4, [.ref (a 1 0), .ref (a 2 0), .ref (a 3 0), .int (f 3), .int (f 4), .int (f 5), .int (f 6), .long (t 0)])
  | 1 => .inl (I 2, 8, .inr (.inr (.inr (.inr (fun j => if j < 8 then some (a 4 j) else none)))))
  | 2 => .inl (I 3, 6, .inr (.inr (.inr (.inr (fun j => if j < 6 then some (a 7 j) else none)))))
  | 3 => .inl (I 4, 12, .inr (.inr (.inr (.inr (fun j => if j < n 1 then some (a 17 j) else none)))))
  | 4 => .inr (0, [.ref (a 5 i), .ref (a 6 i), .int (f 2), .int (f 3), .int (f 4)])
  | 5 => .inl (I 0, 40, .inl f)
  | 6 => .inl (I 0, 6, .inl f)
  | 7 => .inr (1, [.ref (a 10 i), .ref (a 8 i), .ref (a 9 i), .int (f 3), .int (f 4), .int (f 5)])
  | 8 => .inl (I 0, 320, .inl f)
  | 9 => .inl (I 1, 100, .inl f)
  | 10 => .inr (3, [.ref (a 11 i), .ref (a 12 i), .ref (a 13 i), .ref (a 14 i), .ref (a 15 i), .ref (a 16 i), .int (f 6)])
  | 11 => .inl (I 0, 12, .inl f)
  | 12 => .inl (I 0, 12, .inl f)
  | 13 => .inl (I 0, 12, .inl f)
  | 14 => .inl (I 0, 12, .inl f)
  | 15 => .inl (I 0, 12, .inl f)
  | 16 => .inl (I 0, 96, .inl f)
  | 17 => .inr (2, [.int (f 0), .int (f 1), .int (f 2), .int (f 3)])
  | 20 => .inr (5, [.int (f 0), .ref (a 21 0), .ref (a 22 0), .ref (a 23 0), .ref (a 24 0), .ref (a 25 0), .ref (a 26 0), .ref (a 27 0), .ref (a 28 0), .ref (a 29 0), .ref (a 30 0), .ref (a 31 0), .int (f 12), .int (f 13), .ref (a 34 0), .ref (a 35 0), .ref (a 36 0), .ref (a 37 0), .int (f 18), .ref (a 39 0), .ref (a 40 0), .ref (a 41 0), .ref (a 42 0), .ref (a 43 0), .long (t 1), .ref (a 45 0), .ref (a 46 0), .ref (a 47 0), .long (t 2), .int (f 29), .ref (a 50 0)])
  | 21 => .inl (I 0, 320, .inl f)
  | 22 => .inl (I 0, 6, .inl f)
  | 23 => .inl (I 0, 6, .inl f)
  | 24 => .inl (I 0, 72, .inl f)
  | 25 => .inl (I 0, 72, .inl f)
  | 26 => .inl (I 0, 72, .inl f)
  | 27 => .inl (I 0, 72, .inl f)
  | 28 => .inl (I 0, 72, .inl f)
  | 29 => .inl (I 0, 1920, .inl f)
  | 30 => .inl (I 1, 600, .inl f)
  | 31 => .inl (I 1, 6, .inl f)
  | 34 => .inl (I 0, 12, .inl f)
  | 35 => .inl (I 0, 12, .inl f)
  | 36 => .inl (I 0, 12, .inl f)
  | 37 => .inl (I 0, 12, .inl f)
  | 39 => .inl (I 0, 48, .inl f)
  | 40 => .inl (I 0, 8, .inl f)
  | 41 => .inl (I 0, 8, .inl f)
  | 42 => .inl (I 0, 8, .inl f)
  | 43 => .inl (I 0, 6, .inl f)
  | 45 => .inl (I 0, 64, .inl f)
  | 46 => .inl (I 0, 64, .inl f)
  | 47 => .inl (I 0, 8, .inl f)
  | 50 => .inl (I 0, 8, .inl f)
  | _ => .inl (I 0, 0, .inl f)
def z_ct (X : zX) (G : zG) (k i : Nat) : va_E := z_cu X.2 (za G) (zn G) (zt G) k i (zg G k i)
def zix0 : List (Nat × Nat) := [(0, 0), (1, 0), (2, 0), (3, 0)] ++ ((List.range 8).flatMap (fun i => [(4, i), (5, i), (6, i)]) ++ ((List.range 6).flatMap (fun i => [(7, i), (8, i), (9, i), (10, i), (11, i), (12, i), (13, i), (14, i), (15, i), (16, i)]) ++ [(20, 0), (21, 0), (22, 0), (23, 0), (24, 0), (25, 0), (26, 0), (27, 0), (28, 0), (29, 0), (30, 0), (31, 0), (34, 0), (35, 0), (36, 0), (37, 0), (39, 0), (40, 0), (41, 0), (42, 0), (43, 0), (45, 0), (46, 0), (47, 0), (50, 0)]))
def zix (G : zG) : List (Nat × Nat) := zix0 ++ (List.range (zn G 0)).map (fun r => (17, r))
def z_ls (X : zX) (G : zG) : va_W := (zix G).map (fun q => (za G q.1 q.2, z_ct X G q.1 q.2))
def z_tys (X : zX) : List (ClassId × FieldType) := [(X.2 0, .int), (X.2 1, .boolean), (X.2 2, .object RX0), (X.2 3, .object RX1), (X.2 4, .object RX2)]
theorem zix_in {G : zG} {q : Nat × Nat} (h : q ∈ zix0) : q ∈ zix G := List.mem_append_left _ h
theorem zm0 {G : zG} : (0, 0) ∈ zix G := zix_in (by decide)
theorem zm1 {G : zG} : (1, 0) ∈ zix G := zix_in (by decide)
theorem zm2 {G : zG} : (2, 0) ∈ zix G := zix_in (by decide)
theorem zm3 {G : zG} : (3, 0) ∈ zix G := zix_in (by decide)
theorem zmx4 : ∀ i, i < 8 → (4, i) ∈ zix0 := by decide
theorem zm4 {G : zG} {i : Nat} (h : i < 8) : (4, i) ∈ zix G := zix_in (zmx4 i h)
theorem zmx5 : ∀ i, i < 8 → (5, i) ∈ zix0 := by decide
theorem zm5 {G : zG} {i : Nat} (h : i < 8) : (5, i) ∈ zix G := zix_in (zmx5 i h)
theorem zmx6 : ∀ i, i < 8 → (6, i) ∈ zix0 := by decide
theorem zm6 {G : zG} {i : Nat} (h : i < 8) : (6, i) ∈ zix G := zix_in (zmx6 i h)
theorem zmx7 : ∀ i, i < 6 → (7, i) ∈ zix0 := by decide
theorem zm7 {G : zG} {i : Nat} (h : i < 6) : (7, i) ∈ zix G := zix_in (zmx7 i h)
theorem zmx8 : ∀ i, i < 6 → (8, i) ∈ zix0 := by decide
theorem zm8 {G : zG} {i : Nat} (h : i < 6) : (8, i) ∈ zix G := zix_in (zmx8 i h)
theorem zmx9 : ∀ i, i < 6 → (9, i) ∈ zix0 := by decide
theorem zm9 {G : zG} {i : Nat} (h : i < 6) : (9, i) ∈ zix G := zix_in (zmx9 i h)
theorem zmx10 : ∀ i, i < 6 → (10, i) ∈ zix0 := by decide
theorem zm10 {G : zG} {i : Nat} (h : i < 6) : (10, i) ∈ zix G := zix_in (zmx10 i h)
theorem zmx11 : ∀ i, i < 6 → (11, i) ∈ zix0 := by decide
theorem zm11 {G : zG} {i : Nat} (h : i < 6) : (11, i) ∈ zix G := zix_in (zmx11 i h)
theorem zmx12 : ∀ i, i < 6 → (12, i) ∈ zix0 := by decide
theorem zm12 {G : zG} {i : Nat} (h : i < 6) : (12, i) ∈ zix G := zix_in (zmx12 i h)
theorem zmx13 : ∀ i, i < 6 → (13, i) ∈ zix0 := by decide
theorem zm13 {G : zG} {i : Nat} (h : i < 6) : (13, i) ∈ zix G := zix_in (zmx13 i h)
theorem zmx14 : ∀ i, i < 6 → (14, i) ∈ zix0 := by decide
theorem zm14 {G : zG} {i : Nat} (h : i < 6) : (14, i) ∈ zix G := zix_in (zmx14 i h)
theorem zmx15 : ∀ i, i < 6 → (15, i) ∈ zix0 := by decide
theorem zm15 {G : zG} {i : Nat} (h : i < 6) : (15, i) ∈ zix G := zix_in (zmx15 i h)
theorem zmx16 : ∀ i, i < 6 → (16, i) ∈ zix0 := by decide
theorem zm16 {G : zG} {i : Nat} (h : i < 6) : (16, i) ∈ zix G := zix_in (zmx16 i h)
theorem zm17 {G : zG} {i : Nat} (h : i < zn G 0) : (17, i) ∈ zix G := List.mem_append_right _ (List.mem_map.mpr ⟨i, List.mem_range.mpr h, rfl⟩)
theorem zm20 {G : zG} : (20, 0) ∈ zix G := zix_in (by decide)
theorem zm21 {G : zG} : (21, 0) ∈ zix G := zix_in (by decide)
theorem zm22 {G : zG} : (22, 0) ∈ zix G := zix_in (by decide)
theorem zm23 {G : zG} : (23, 0) ∈ zix G := zix_in (by decide)
theorem zm24 {G : zG} : (24, 0) ∈ zix G := zix_in (by decide)
theorem zm25 {G : zG} : (25, 0) ∈ zix G := zix_in (by decide)
theorem zm26 {G : zG} : (26, 0) ∈ zix G := zix_in (by decide)
theorem zm27 {G : zG} : (27, 0) ∈ zix G := zix_in (by decide)
theorem zm28 {G : zG} : (28, 0) ∈ zix G := zix_in (by decide)
theorem zm29 {G : zG} : (29, 0) ∈ zix G := zix_in (by decide)
theorem zm30 {G : zG} : (30, 0) ∈ zix G := zix_in (by decide)
theorem zm31 {G : zG} : (31, 0) ∈ zix G := zix_in (by decide)
theorem zm34 {G : zG} : (34, 0) ∈ zix G := zix_in (by decide)
theorem zm35 {G : zG} : (35, 0) ∈ zix G := zix_in (by decide)
theorem zm36 {G : zG} : (36, 0) ∈ zix G := zix_in (by decide)
theorem zm37 {G : zG} : (37, 0) ∈ zix G := zix_in (by decide)
theorem zm39 {G : zG} : (39, 0) ∈ zix G := zix_in (by decide)
theorem zm40 {G : zG} : (40, 0) ∈ zix G := zix_in (by decide)
theorem zm41 {G : zG} : (41, 0) ∈ zix G := zix_in (by decide)
theorem zm42 {G : zG} : (42, 0) ∈ zix G := zix_in (by decide)
theorem zm43 {G : zG} : (43, 0) ∈ zix G := zix_in (by decide)
theorem zm45 {G : zG} : (45, 0) ∈ zix G := zix_in (by decide)
theorem zm46 {G : zG} : (46, 0) ∈ zix G := zix_in (by decide)
theorem zm47 {G : zG} : (47, 0) ∈ zix G := zix_in (by decide)
theorem zm50 {G : zG} : (50, 0) ∈ zix G := zix_in (by decide)
theorem zg_zuA (G : zG) (k i : Nat) (f : Nat → Int32) (k' i' : Nat) : zg (zuA G k i f) k' i' = if k' = k ∧ i' = i then f else zg G k' i' := rfl
theorem zg_zu (G : zG) (k i j : Nat) (v : Int32) (k' i' j' : Nat) : zg (zu G k i j v) k' i' j' = if k' = k ∧ i' = i ∧ j' = j then v else zg G k' i' j' := by
  unfold zu
  rw [zg_zuA]
  by_cases h : k' = k ∧ i' = i
  · obtain ⟨rfl, rfl⟩ := h
    by_cases hj : j' = j
    · subst hj
      simp [upd]
    · simp [upd, hj]
  · rw [if_neg h, if_neg (fun q => h ⟨q.1, q.2.1⟩)]
theorem zt_zu (G : zG) (k i j : Nat) (v : Int32) : zt (zu G k i j v) = zt G := rfl
theorem zn_zu (G : zG) (k i j : Nat) (v : Int32) : zn (zu G k i j v) = zn G := rfl
theorem za_zu (G : zG) (k i j : Nat) (v : Int32) : za (zu G k i j v) = za G := rfl
theorem zg_zuT (G : zG) (j : Nat) (v : Int64) : zg (zuT G j v) = zg G := rfl
theorem zt_zuT (G : zG) (j : Nat) (v : Int64) (j' : Nat) : zt (zuT G j v) j' = if j' = j then v else zt G j' := rfl
theorem zn_zuT (G : zG) (j : Nat) (v : Int64) : zn (zuT G j v) = zn G := rfl
theorem za_zuT (G : zG) (j : Nat) (v : Int64) : za (zuT G j v) = za G := rfl
theorem z_ct_uA (X : zX) (G : zG) (k i : Nat) (f : Nat → Int32) (k' i' : Nat) (h : ¬ (k' = k ∧ i' = i)) : z_ct X (zuA G k i f) k' i' = z_ct X G k' i' := by
  show z_cu X.2 (za G) (zn G) (zt G) k' i' (zg (zuA G k i f) k' i') = _
  rw [zg_zuA, if_neg h]
  rfl
theorem z_ct_uS (X : zX) (G : zG) (k i : Nat) (f : Nat → Int32) : z_ct X (zuA G k i f) k i = z_cu X.2 (za G) (zn G) (zt G) k i f := by
  show z_cu X.2 (za G) (zn G) (zt G) k i (zg (zuA G k i f) k i) = _
  rw [zg_zuA, if_pos ⟨rfl, rfl⟩]
theorem z_cuT0 (I : Nat → ClassId) (a : Nat → Nat → Nat) (n : Nat → Nat) (t t' : Nat → Int64) (k i : Nat) (f : Nat → Int32) (hk : k ≠ 0) (h1 : t' 1 = t 1) (h2 : t' 2 = t 2) : z_cu I a n t' k i f = z_cu I a n t k i f := by
  unfold z_cu
  split <;> first | rfl | (exact absurd rfl hk) | rw [h1, h2]
theorem z_cuT20 (I : Nat → ClassId) (a : Nat → Nat → Nat) (n : Nat → Nat) (t t' : Nat → Int64) (k i : Nat) (f : Nat → Int32) (hk : k ≠ 20) (h0 : t' 0 = t 0) : z_cu I a n t' k i f = z_cu I a n t k i f := by
  unfold z_cu
  split <;> first | rfl | (exact absurd rfl hk) | rw [h0]
theorem z_pl {X : zX} {G : zG} {k i : Nat} (hm : (k, i) ∈ zix G) : ∃ q0 : Nat, (zix G)[q0]? = some (k, i) ∧ (z_ls X G)[q0]? = some (za G k i, z_ct X G k i) := by
  obtain ⟨q0, hq⟩ := List.getElem?_of_mem hm
  exact ⟨q0, hq, by simp [z_ls, hq]⟩
theorem z_set {A : Nat → Prop} {X : zX} {G G' : zG} {k i q0 : Nat} {e' : va_E} (hD : va_D A (z_ls X G)) (hq : (zix G)[q0]? = some (k, i)) (hx : zix G' = zix G) (ha : za G' = za G) (he : z_ct X G' k i = e') (ho : ∀ k' i', (k', i') ∈ zix G → ¬ (k' = k ∧ i' = i) → z_ct X G' k' i' = z_ct X G k' i') : (z_ls X G).set q0 (za G k i, e') = z_ls X G' := by
  apply List.ext_getElem?
  intro n
  have hlen : q0 < (zix G).length := (List.getElem?_eq_some_iff.mp hq).1
  by_cases hn : n = q0
  · subst hn
    rw [List.getElem?_set_self (by simpa [z_ls] using hlen)]
    simp [z_ls, hx, ha, hq, he]
  · rw [List.getElem?_set_ne (Ne.symm hn)]
    simp only [z_ls, hx, List.getElem?_map]
    cases h : (zix G)[n]? with
    | none => rfl
    | some x =>
      have hne : ¬ (x.1 = k ∧ x.2 = i) := by
        rintro ⟨h1, h2⟩
        exact hn (hD.1 n q0 (za G x.1 x.2, z_ct X G x.1 x.2) (za G k i, z_ct X G k i) (by simp [z_ls, h]) (by simp [z_ls, hq]) (by rw [h1, h2]))
      simp only [Option.map_some, ha, ho x.1 x.2 (List.mem_of_getElem? h) hne]
/-! locals by place: what is known of each -/
def zpr : Nat → List (Option Value) → List (Nat × Value)
  | _, [] => []
  | n, none :: t => zpr (n + 1) t
  | n, some v :: t => (n, v) :: zpr (n + 1) t
theorem zpr_mem : ∀ (lv : List (Option Value)) (n : Nat) (q : Nat × Value), q ∈ zpr n lv ↔ ∃ d, q.1 = n + d ∧ lv[d]? = some (some q.2)
  | [], n, q => by simp [zpr]
  | none :: t, n, q => by
    rw [show zpr n (none :: t) = zpr (n + 1) t from rfl, zpr_mem t (n + 1) q]
    constructor
    · rintro ⟨d, h1, h2⟩
      exact ⟨d + 1, by omega, by simpa using h2⟩
    · rintro ⟨d, h1, h2⟩
      cases d with
      | zero => simp at h2
      | succ d => exact ⟨d, by omega, by simpa using h2⟩
  | some v :: t, n, q => by
    rw [show zpr n (some v :: t) = (n, v) :: zpr (n + 1) t from rfl, List.mem_cons, zpr_mem t (n + 1) q]
    constructor
    · rintro (rfl | ⟨d, h1, h2⟩)
      · exact ⟨0, rfl, rfl⟩
      · exact ⟨d + 1, by omega, by simpa using h2⟩
    · rintro ⟨d, h1, h2⟩
      cases d with
      | zero =>
        left
        simp at h2
        exact Prod.ext (by simpa using h1) h2.symm
      | succ d => exact Or.inr ⟨d, by omega, by simpa using h2⟩
def zlv (ls : Array Slot) (nL : Nat) (lv : List (Option Value)) : Prop := ls.size = nL ∧ lv_wf ls ∧ ∀ (i : Nat) (v : Value), lv[i]? = some (some v) → ls[i]? = some (.val v) ∧ v.category = 1
theorem zlv.has {ls : Array Slot} {nL : Nat} {lv : List (Option Value)} (h : zlv ls nL lv) : lv_has ls nL (zpr 0 lv) := ⟨h.1, h.2.1, fun q hq => by
  obtain ⟨d, h1, h2⟩ := (zpr_mem lv 0 q).mp hq
  rw [h1, Nat.zero_add]
  exact (h.2.2 d q.2 h2).1⟩
theorem zlv.put {ls ls' : Array Slot} {nL i : Nat} {v : Value} {lv : List (Option Value)} (h : zlv ls nL lv) (hc : v.category = 1) (h' : lv_has ls' nL ((i, v) :: (zpr 0 lv).filter (fun q => !(q.1 == i) && !(q.1 + 1 == i && q.2.category == 2)))) : zlv ls' nL (lv.set i (some v)) := by
  refine ⟨h'.1, h'.2.1, fun j w hj => ?_⟩
  by_cases hji : j = i
  · subst hji
    have hl : j < lv.length := by
      have := (List.getElem?_eq_some_iff.mp hj).1
      simpa using this
    rw [List.getElem?_set_self hl] at hj
    cases hj
    exact ⟨h'.2.2 (j, v) List.mem_cons_self, hc⟩
  · rw [List.getElem?_set_ne (Ne.symm hji)] at hj
    obtain ⟨h1, h2⟩ := h.2.2 j w hj
    refine ⟨h'.2.2 (j, w) (List.mem_cons_of_mem _ (List.mem_filter.mpr ⟨(zpr_mem lv 0 (j, w)).mpr ⟨j, (Nat.zero_add j).symm, hj⟩, ?_⟩)), h2⟩
    simp [hji, h2]
theorem zlv.drop {ls : Array Slot} {nL i : Nat} {lv : List (Option Value)} (h : zlv ls nL lv) : zlv ls nL (lv.set i none) := by
  refine ⟨h.1, h.2.1, fun j w hj => ?_⟩
  by_cases hji : j = i
  · subst hji
    have hl : j < lv.length := by
      have := (List.getElem?_eq_some_iff.mp hj).1
      simpa using this
    rw [List.getElem?_set_self hl] at hj
    cases hj
  · rw [List.getElem?_set_ne (Ne.symm hji)] at hj
    exact h.2.2 j w hj
theorem lg_sl1 : ∀ vs : List Value, (∀ v ∈ vs, v.category = 1) → lg_sl vs = vs.map Slot.val
  | [], _ => rfl
  | v :: vs, h => by
    have h1 := h v List.mem_cons_self
    have h2 := lg_sl1 vs (fun x hx => h x (List.mem_cons_of_mem _ hx))
    unfold lg_sl at h2 ⊢
    rw [List.flatMap_cons, h2, if_neg (by omega)]
    rfl
theorem zlv_entry (vs : List Value) (n : Nat) (hn : vs.length ≤ n) (hc : ∀ v ∈ vs, v.category = 1) : zlv ((lg_sl vs ++ List.replicate (n - (lg_sl vs).length) Slot.unset).toArray) n (vs.map some ++ List.replicate (n - vs.length) none) := by
  have h0 := lv_entry vs (n := n) (by rw [lg_sl1 vs hc, List.length_map]; exact hn)
  refine ⟨h0.1, h0.2.1, fun i v hi => ?_⟩
  have hl : i < vs.length := by
    apply Nat.lt_of_not_le
    intro hle
    rw [List.getElem?_append_right (by simpa using hle)] at hi
    obtain ⟨h1, h2⟩ := List.getElem?_eq_some_iff.mp hi
    simp at h2
  rw [List.getElem?_append_left (by simpa using hl), List.getElem?_map] at hi
  have hv : vs[i]? = some v := by
    cases hx : vs[i]? with
    | none => rw [hx] at hi; cases hi
    | some x => rw [hx] at hi; cases hi; rfl
  refine ⟨?_, hc v (List.mem_of_getElem? hv)⟩
  rw [lg_sl1 vs hc, List.getElem?_toArray, List.getElem?_append_left (by simpa using hl), List.getElem?_map, hv]
  rfl
/-! what stays for a whole method: tables -/
def zS (X : zX) (U : State) : Prop := va_K X.1 zcl (z_tys X) U ∧ (∀ q ∈ zNF, va_Nw (.fieldLinkNest q.1 q.2.1 q.2.2.1 q.2.2.2.1 q.2.2.2.2.1 q.2.2.2.2.2) U) ∧ ∀ q ∈ zNM, va_Nw (.methodLinkNest q.1 q.2.1 q.2.2.1 q.2.2.2) U
theorem zS.warm {X : zX} {s U : State} (hW : s.WarmedH U.vm) (h : zS X s) : zS X U := ⟨va_K.moved hW.alike h.1, fun q hq => va_Nw.warmF hW (h.2.1 q hq), fun q hq => va_Nw.warmM hW (h.2.2 q hq)⟩
theorem zS.same {X : zX} {u U : State} (e : u.vm = U.vm) (h : zS X u) : zS X U := ⟨va_K.moved (by rw [e]; exact Vm.Alike.refl _) h.1, fun q hq => va_Nw.same rfl e (h.2.1 q hq), fun q hq => va_Nw.same rfl e (h.2.2 q hq)⟩
/-! contracts -/
def zRm (lev bud : Nat) : Room := { frames := lev, cells := bud, slots := 4 * bud, locals := 4000 + 40 * lev }
def zPre (X : zX) (as : List Value) (G : zG) (sz : Nat) : Array Value → State → Prop := fun v U => v = as.toArray ∧ U.heap.size = sz ∧ va_P X.1 zcl (z_ls X G) U.heap ∧ va_D (fun _ => True) (z_ls X G) ∧ zS X U
def zQc (X : zX) (P : Option Value → zG → Prop) (A : Nat → Prop) : Array Value → State → Outcome → State → Prop := fun _ st oc t => (∃ (v : Option Value) (G' : zG), oc = .returned v ∧ P v G' ∧ va_P X.1 zcl (z_ls X G') t.heap ∧ va_D A (z_ls X G')) ∧ va_F A st t
def zC (l : Launch) (y : MethodName) (b : ByteArray) (nL : Nat) (ret : Option FieldType) (lev bud : Nat) (X : zX) (as : List Value) (G : zG) (P : Option Value → zG → Prop) : Prop :=
  ∀ sz : Nat, Met l y (.code y b nL ret :: zall) (zRm lev bud) (zPre X as G sz) (zQc X P (va_A (z_ls X G) sz)) bud (4 * bud) (va_A (z_ls X G) sz)
def Zj (p : Program) (l : Launch) (e : Env) (R : Room) (s : State) (m : MethodId) (args : Array Value) (below : List Frame) (meth : Method) (c : Code) (cells slots : Nat) (Q : State → Prop) (A : Nat → Prop) (H0 : Heap) (nL : Nat) (X : zX) (G : zG) (pc : Nat) (lv : List (Option Value)) (st : List Value) : Prop :=
  ∀ (H : Heap) (locs : List Loc) (ls : Array Slot), va_P X.1 zcl (z_ls X G) H → va_D A (z_ls X G) → va_S A H0 H locs → zlv ls nL lv → W p l e R s m args below meth c H locs cells slots Q (F0 m pc ls st)
abbrev zZ : Type := Nat → zG → Nat → List (Option Value) → List Value → Prop
def zCtx (l : Launch) (X : zX) (cc : ByteArray) (own : String) (nL lev bud : Nat) (Z : zZ) : Prop :=
  ∃ (p : Program) (e : Env) (R : Room) (s : State) (m : MethodId) (args : Array Value) (below : List Frame) (meth : Method) (c : Code) (c0 s0 : Nat) (Q : State → Prop) (A : Nat → Prop) (H0 : Heap),
    Z = (fun n G pc lv st => Zj p l e R s m args below meth c (c0 + n) (s0 + 4 * n) Q A H0 nL X G pc lv st) ∧ p.tables.exec = Jvm.exec ∧ c.code = cc ∧ c.maxLocals = nL ∧ s.vm.findClass own = some m.cls ∧ (∀ w ∈ zall, w.before args s = true) ∧ zS X s ∧ (∀ q : Nat, H0.size ≤ q → A q) ∧ lev ≤ R.frames ∧ 4000 + 40 * lev ≤ R.locals ∧ c0 + bud ≤ R.cells ∧ s0 + 4 * bud ≤ R.slots
def zEnd (cc : ByteArray) (ret : Option FieldType) (bud : Nat) (P : Option Value → zG → Prop) (Z : zZ) : Prop :=
  (∀ (w : Nat) (G : zG) (pc : Nat) (lv : List (Option Value)) (v : Int32) (ty : FieldType), w ≤ bud → ret = some ty → narrow ty (.int v) = .int v → decode cc pc = .ok (.ireturn, 1) → P (some (.int v)) G → Z w G pc lv [.int v]) ∧
  (∀ (w : Nat) (G : zG) (pc : Nat) (lv : List (Option Value)) (v : Value) (nm : String), w ≤ bud → ret = some (.object nm) → (v = .null ∨ ∃ a, v = .ref a) → decode cc pc = .ok (.areturn, 1) → P (some v) G → Z w G pc lv [v]) ∧
  (∀ (w : Nat) (G : zG) (pc : Nat) (lv : List (Option Value)), w ≤ bud → ret = none → decode cc pc = .ok (.return_, 1) → P none G → Z w G pc lv []) ∧
  (∀ (w : Nat) (G : zG) (pc : Nat) (lv : List (Option Value)) (v : Int64), w ≤ bud → ret = some .long → decode cc pc = .ok (.lreturn, 1) → P (some (.long v)) G → Z w G pc lv [.long v])
set_option maxHeartbeats 1000000 in
theorem zC_of {l : Launch} {y : MethodName} {cc : ByteArray} {nL : Nat} {ret : Option FieldType} {lev bud : Nat} {X : zX} {as : List Value} {G : zG} {P : Option Value → zG → Prop} (hy : plainName y.cls = true) (hc : ∀ v ∈ as, v.category = 1) (hn : as.length ≤ nL)
    (body : ∀ Z : zZ, zCtx l X cc y.cls nL lev bud Z → zEnd cc ret bud P Z → Z 0 G 0 (as.map some ++ List.replicate (nL - as.length) none) []) : zC l y cc nL ret lev bud X as G P := by
  intro sz
  refine Met.ofW (cc := cc) (maxL := nL) (ret := ret) hy rfl ?_
  intro p e s m args below meth c s₁ B hml hv
  obtain ⟨rfl, hsz, hP, hD, hSt⟩ := hv
  subst hsz
  have hts := atoms_spec (ws := Cond.code y cc nL ret :: zall) B.pre
  have hown : s.vm.findClass y.cls = some m.cls := findClass_of_methodNamed B.named
  have hlocks := B.notSynchronized
  have hx := B.exec
  have hb := B.bytes
  have hr := B.returns
  rw [lg_entry_eq]
  have key := body (fun n G' pc lv st => Zj p l e (zRm lev bud) s m as.toArray below meth c (0 + n) (0 + 4 * n) (MQ below (zQc X P (va_A (z_ls X G) s.heap.size)) as.toArray s bud (4 * bud) (va_A (z_ls X G) s.heap.size)) (va_A (z_ls X G) s.heap.size) s.heap nL X G' pc lv st)
    ⟨p, e, zRm lev bud, s, m, as.toArray, below, meth, c, 0, 0, _, va_A (z_ls X G) s.heap.size, s.heap, rfl, hx, hb, hml, hown, fun w hw => hts w (List.mem_cons_of_mem _ hw), hSt, fun q h => Or.inr h, Nat.le_refl _, Nat.le_refl _, by simp [zRm], by simp [zRm]⟩
    ⟨fun w G' pc lv v ty hw h1 h2 hd hp H locs ls hP' hD' hS' hl => W.widen (k := bud) (n := 4 * bud) (by omega) (by omega) (W.zret hx hb (hr.trans h1) h2 (fun t ht hW => ⟨⟨_, G', rfl, hp, by rw [ht]; exact hP', hD'⟩, hS'.F ht⟩) hS'.2.2 hd),
     fun w G' pc lv v nm hw h1 h2 hd hp H locs ls hP' hD' hS' hl => W.widen (k := bud) (n := 4 * bud) (by omega) (by omega) (W.aret hx hb (hr.trans h1) (Or.inl ⟨nm, rfl⟩) h2 (fun t ht hW => ⟨⟨_, G', rfl, hp, by rw [ht]; exact hP', hD'⟩, hS'.F ht⟩) hS'.2.2 hd),
     fun w G' pc lv hw h1 hd hp H locs ls hP' hD' hS' hl => W.widen (k := bud) (n := 4 * bud) (by omega) (by omega) (W.vret hx hb (hr.trans h1) (fun t ht hW => ⟨⟨_, G', rfl, hp, by rw [ht]; exact hP', hD'⟩, hS'.F ht⟩) hS'.2.2 hd),
     fun w G' pc lv v hw h1 hd hp H locs ls hP' hD' hS' hl => W.widen (k := bud) (n := 4 * bud) (by omega) (by omega) (W.lret hx hb (hr.trans h1) (fun t ht hW => ⟨⟨_, G', rfl, hp, by rw [ht]; exact hP', hD'⟩, hS'.F ht⟩) hS'.2.2 hd)⟩
  exact key s.heap [] _ hP hD.self va_S.rf (zlv_entry as nL hn hc)
/-! behind a call -/
theorem zj_after {p : Program} {l : Launch} {e : Env} {R : Room} {s : State} {m : MethodId} {args : Array Value} {below : List Frame} {meth : Method} {c : Code} {H : Heap} {locs : List Loc} {cells slots mc ms : Nat} {Q : State → Prop} {pc : Nat} {ls : Array Slot} {rest st0 : List Value} {a : Array Value} {A0 A1 : Nat → Prop} {H0 : Heap} {free : Addr → Prop} {X : zX} {P : Option Value → zG → Prop}
    (hr : va_Run p l e R s m args below meth c H locs cells slots mc ms (F0 m pc ls st0) rest (zQc X P A1 a) free) (hS : va_S A0 H0 H locs) (hA : ∀ q, A1 q → A0 q) (hf : ∀ q, free q → A0 q)
    (kk : ∀ (v : Option Value) (G' : zG) (H1 : Heap) (locs1 : List Loc), P v G' → va_P X.1 zcl (z_ls X G') H1 → va_D A0 (z_ls X G') → va_S A0 H0 H1 locs1 → W p l e R s m args below meth c H1 locs1 (cells + mc) (slots + ms) Q (F0 m (pc + 3) ls (v.toList ++ rest))) : W p l e R s m args below meth c H locs cells slots Q (F0 m pc ls st0) := by
  intro T hT Xx
  obtain ⟨v, st₀, t, T', L, h0, X', hL, e1, e2, ⟨⟨v', G', hv, hp, hb, hd⟩, hz, hk⟩, st⟩ := hr T hT Xx
  cases hv
  rw [h0] at hz hk
  obtain ⟨t2, a1, b1⟩ := kk v G' T'.heap (locs ++ L) hp (by rw [e1]; exact hb) (hd.weaken (fun k q _ h => hA q.1 h))
    ⟨Nat.le_trans hS.1 (by rw [e1]; exact hz), fun q h1 h2 => by rw [e1, hk q (Nat.lt_of_lt_of_le h1 hS.1) (fun z => h2 (hA q z))]; exact hS.2.1 q h1 h2, fun q hq => by
      rcases List.mem_append.mp hq with h | h
      · exact hS.2.2 q h
      · exact hf _ (hL q h)⟩ T' rfl X'
  exact ⟨t2, st t2 a1, b1⟩
def zO (X : zX) (G : zG) (a : Nat) (C : String) : Prop := ∃ (k i ci : Nat) (fs : List Value) (q : vw_C), (k, i) ∈ zix G ∧ a = za G k i ∧ z_ct X G k i = .inr (ci, fs) ∧ zcl[ci]? = some q ∧ q.1 = C
section ZR
variable {l : Launch} {X : zX} {cc : ByteArray} {own : String} {nL lev bud : Nat} {Z : zZ} {w : Nat} {G : zG} {pc : Nat} {lv : List (Option Value)} {st : List Value}
theorem z_iconst (hC : zCtx l X cc own nL lev bud Z) {n : Int} {v : Int32} (hd : decode cc pc = .ok (.iconst n, 1)) (hv : Int32.ofInt n = v) (k : Z w G (pc + 1) lv (.int v :: st)) : Z w G pc lv st := by
  obtain ⟨p, e, R, s, m, args, below, meth, c, c0, s0, Q, A, H0, rfl, hx, hb, hml, hown, hts, hSt, hA, hl1, hl2, hl3, hl4⟩ := hC
  exact fun H locs ls hP hD hS hl => lv_iconst hx hb hd hv (k H locs ls hP hD hS hl)
theorem z_bipush (hC : zCtx l X cc own nL lev bud Z) {n : Int} {v : Int32} (hd : decode cc pc = .ok (.bipush n, 2)) (hv : (Int8.ofInt n).toInt32 = v) (k : Z w G (pc + 2) lv (.int v :: st)) : Z w G pc lv st := by
  obtain ⟨p, e, R, s, m, args, below, meth, c, c0, s0, Q, A, H0, rfl, hx, hb, hml, hown, hts, hSt, hA, hl1, hl2, hl3, hl4⟩ := hC
  exact fun H locs ls hP hD hS hl => lv_bipush hx hb hd hv (k H locs ls hP hD hS hl)
theorem z_sipush (hC : zCtx l X cc own nL lev bud Z) {n : Int} {v : Int32} (hd : decode cc pc = .ok (.sipush n, 3)) (hv : (Int16.ofInt n).toInt32 = v) (k : Z w G (pc + 3) lv (.int v :: st)) : Z w G pc lv st := by
  obtain ⟨p, e, R, s, m, args, below, meth, c, c0, s0, Q, A, H0, rfl, hx, hb, hml, hown, hts, hSt, hA, hl1, hl2, hl3, hl4⟩ := hC
  exact fun H locs ls hP hD hS hl => lv_sipush hx hb hd hv (k H locs ls hP hD hS hl)
theorem z_lconst (hC : zCtx l X cc own nL lev bud Z) {n : Fin 2} {v : Int64} (hd : decode cc pc = .ok (.lconst n, 1)) (hv : Int64.ofNat (n : Nat) = v) (k : Z w G (pc + 1) lv (.long v :: st)) : Z w G pc lv st := by
  obtain ⟨p, e, R, s, m, args, below, meth, c, c0, s0, Q, A, H0, rfl, hx, hb, hml, hown, hts, hSt, hA, hl1, hl2, hl3, hl4⟩ := hC
  exact fun H locs ls hP hD hS hl => lv_lconst hx hb hd hv (k H locs ls hP hD hS hl)
theorem z_null (hC : zCtx l X cc own nL lev bud Z) (hd : decode cc pc = .ok (.aconst_null, 1)) (k : Z w G (pc + 1) lv (.null :: st)) : Z w G pc lv st := by
  obtain ⟨p, e, R, s, m, args, below, meth, c, c0, s0, Q, A, H0, rfl, hx, hb, hml, hown, hts, hSt, hA, hl1, hl2, hl3, hl4⟩ := hC
  exact fun H locs ls hP hD hS hl => lv_null hx hb hd (k H locs ls hP hD hS hl)
theorem z_ilN (hC : zCtx l X cc own nL lev bud Z) {j : Fin 4} {i : Nat} {x : Int32} (hd : decode cc pc = .ok (.iload_n j, 1)) (hi : (j : Nat) = i) (h : lv[i]? = some (some (.int x))) (k : Z w G (pc + 1) lv (.int x :: st)) : Z w G pc lv st := by
  obtain ⟨p, e, R, s, m, args, below, meth, c, c0, s0, Q, A, H0, rfl, hx, hb, hml, hown, hts, hSt, hA, hl1, hl2, hl3, hl4⟩ := hC
  exact fun H locs ls hP hD hS hl => lv_iload_n hx hb hd hi (hl.2.2 i _ h).1 (k H locs ls hP hD hS hl)
theorem z_ilW (hC : zCtx l X cc own nL lev bud Z) {i : Nat} {x : Int32} (hd : decode cc pc = .ok (.iload i, 2)) (h : lv[i]? = some (some (.int x))) (k : Z w G (pc + 2) lv (.int x :: st)) : Z w G pc lv st := by
  obtain ⟨p, e, R, s, m, args, below, meth, c, c0, s0, Q, A, H0, rfl, hx, hb, hml, hown, hts, hSt, hA, hl1, hl2, hl3, hl4⟩ := hC
  exact fun H locs ls hP hD hS hl => lv_iload hx hb hd (hl.2.2 i _ h).1 (k H locs ls hP hD hS hl)
theorem z_alN (hC : zCtx l X cc own nL lev bud Z) {j : Fin 4} {i : Nat} {x : Nat} (hd : decode cc pc = .ok (.aload_n j, 1)) (hi : (j : Nat) = i) (h : lv[i]? = some (some (.ref x))) (k : Z w G (pc + 1) lv (.ref x :: st)) : Z w G pc lv st := by
  obtain ⟨p, e, R, s, m, args, below, meth, c, c0, s0, Q, A, H0, rfl, hx, hb, hml, hown, hts, hSt, hA, hl1, hl2, hl3, hl4⟩ := hC
  exact fun H locs ls hP hD hS hl => lv_aload_n hx hb hd hi (hl.2.2 i _ h).1 (k H locs ls hP hD hS hl)
theorem z_alW (hC : zCtx l X cc own nL lev bud Z) {i : Nat} {x : Nat} (hd : decode cc pc = .ok (.aload i, 2)) (h : lv[i]? = some (some (.ref x))) (k : Z w G (pc + 2) lv (.ref x :: st)) : Z w G pc lv st := by
  obtain ⟨p, e, R, s, m, args, below, meth, c, c0, s0, Q, A, H0, rfl, hx, hb, hml, hown, hts, hSt, hA, hl1, hl2, hl3, hl4⟩ := hC
  exact fun H locs ls hP hD hS hl => lv_aload hx hb hd (hl.2.2 i _ h).1 (k H locs ls hP hD hS hl)
theorem z_nlN (hC : zCtx l X cc own nL lev bud Z) {j : Fin 4} {i : Nat} (hd : decode cc pc = .ok (.aload_n j, 1)) (hi : (j : Nat) = i) (h : lv[i]? = some (some .null)) (k : Z w G (pc + 1) lv (.null :: st)) : Z w G pc lv st := by
  obtain ⟨p, e, R, s, m, args, below, meth, c, c0, s0, Q, A, H0, rfl, hx, hb, hml, hown, hts, hSt, hA, hl1, hl2, hl3, hl4⟩ := hC
  exact fun H locs ls hP hD hS hl => lv_aload_nN hx hb hd hi (hl.2.2 i _ h).1 (k H locs ls hP hD hS hl)
theorem z_nlW (hC : zCtx l X cc own nL lev bud Z) {i : Nat} (hd : decode cc pc = .ok (.aload i, 2)) (h : lv[i]? = some (some .null)) (k : Z w G (pc + 2) lv (.null :: st)) : Z w G pc lv st := by
  obtain ⟨p, e, R, s, m, args, below, meth, c, c0, s0, Q, A, H0, rfl, hx, hb, hml, hown, hts, hSt, hA, hl1, hl2, hl3, hl4⟩ := hC
  exact fun H locs ls hP hD hS hl => lv_aloadN hx hb hd (hl.2.2 i _ h).1 (k H locs ls hP hD hS hl)
theorem z_isN (hC : zCtx l X cc own nL lev bud Z) {j : Fin 4} {i : Nat} {x : Int32} (hd : decode cc pc = .ok (.istore_n j, 1)) (hi : (j : Nat) = i) (hn : i < nL) (k : Z w G (pc + 1) (lv.set i (some (.int x))) st) : Z w G pc lv (.int x :: st) := by
  obtain ⟨p, e, R, s, m, args, below, meth, c, c0, s0, Q, A, H0, rfl, hx, hb, hml, hown, hts, hSt, hA, hl1, hl2, hl3, hl4⟩ := hC
  exact fun H locs ls hP hD hS hl => lv_istore_n hx hb hd hi hl.has hn rfl (fun ls2 h2 => k H locs ls2 hP hD hS (hl.put rfl h2))
theorem z_isW (hC : zCtx l X cc own nL lev bud Z) {i : Nat} {x : Int32} (hd : decode cc pc = .ok (.istore i, 2)) (hn : i < nL) (k : Z w G (pc + 2) (lv.set i (some (.int x))) st) : Z w G pc lv (.int x :: st) := by
  obtain ⟨p, e, R, s, m, args, below, meth, c, c0, s0, Q, A, H0, rfl, hx, hb, hml, hown, hts, hSt, hA, hl1, hl2, hl3, hl4⟩ := hC
  exact fun H locs ls hP hD hS hl => lv_istore hx hb hd hl.has hn rfl (fun ls2 h2 => k H locs ls2 hP hD hS (hl.put rfl h2))
theorem z_asN (hC : zCtx l X cc own nL lev bud Z) {j : Fin 4} {i : Nat} {x : Nat} (hd : decode cc pc = .ok (.astore_n j, 1)) (hi : (j : Nat) = i) (hn : i < nL) (k : Z w G (pc + 1) (lv.set i (some (.ref x))) st) : Z w G pc lv (.ref x :: st) := by
  obtain ⟨p, e, R, s, m, args, below, meth, c, c0, s0, Q, A, H0, rfl, hx, hb, hml, hown, hts, hSt, hA, hl1, hl2, hl3, hl4⟩ := hC
  exact fun H locs ls hP hD hS hl => lv_astore_n hx hb hd hi hl.has hn rfl (fun ls2 h2 => k H locs ls2 hP hD hS (hl.put rfl h2))
theorem z_asW (hC : zCtx l X cc own nL lev bud Z) {i : Nat} {x : Nat} (hd : decode cc pc = .ok (.astore i, 2)) (hn : i < nL) (k : Z w G (pc + 2) (lv.set i (some (.ref x))) st) : Z w G pc lv (.ref x :: st) := by
  obtain ⟨p, e, R, s, m, args, below, meth, c, c0, s0, Q, A, H0, rfl, hx, hb, hml, hown, hts, hSt, hA, hl1, hl2, hl3, hl4⟩ := hC
  exact fun H locs ls hP hD hS hl => lv_astore hx hb hd hl.has hn rfl (fun ls2 h2 => k H locs ls2 hP hD hS (hl.put rfl h2))
theorem z_nsN (hC : zCtx l X cc own nL lev bud Z) {j : Fin 4} {i : Nat} (hd : decode cc pc = .ok (.astore_n j, 1)) (hi : (j : Nat) = i) (hn : i < nL) (k : Z w G (pc + 1) (lv.set i (some (.null))) st) : Z w G pc lv (.null :: st) := by
  obtain ⟨p, e, R, s, m, args, below, meth, c, c0, s0, Q, A, H0, rfl, hx, hb, hml, hown, hts, hSt, hA, hl1, hl2, hl3, hl4⟩ := hC
  exact fun H locs ls hP hD hS hl => lv_astore_nN hx hb hd hi hl.has hn rfl (fun ls2 h2 => k H locs ls2 hP hD hS (hl.put rfl h2))
theorem z_nsW (hC : zCtx l X cc own nL lev bud Z) {i : Nat} (hd : decode cc pc = .ok (.astore i, 2)) (hn : i < nL) (k : Z w G (pc + 2) (lv.set i (some (.null))) st) : Z w G pc lv (.null :: st) := by
  obtain ⟨p, e, R, s, m, args, below, meth, c, c0, s0, Q, A, H0, rfl, hx, hb, hml, hown, hts, hSt, hA, hl1, hl2, hl3, hl4⟩ := hC
  exact fun H locs ls hP hD hS hl => lv_astoreN hx hb hd hl.has hn rfl (fun ls2 h2 => k H locs ls2 hP hD hS (hl.put rfl h2))
theorem z_iinc (hC : zCtx l X cc own nL lev bud Z) {i : Nat} {n : Int} {x v : Int32} (hd : decode cc pc = .ok (.iinc i n, 3)) (h : lv[i]? = some (some (.int x))) (hv : x + Int32.ofInt n = v) (hn : i < nL) (k : Z w G (pc + 3) (lv.set i (some (.int v))) st) : Z w G pc lv st := by
  obtain ⟨p, e, R, s, m, args, below, meth, c, c0, s0, Q, A, H0, rfl, hx, hb, hml, hown, hts, hSt, hA, hl1, hl2, hl3, hl4⟩ := hC
  intro H locs ls hP hD hS hl
  obtain ⟨k0, hk0⟩ := List.getElem?_of_mem ((zpr_mem lv 0 (i, .int x)).mpr ⟨i, (Nat.zero_add i).symm, h⟩)
  exact lv_iinc hx hb hd hl.has hk0 hv hn rfl (fun ls2 h2 => k H locs ls2 hP hD hS (hl.put rfl h2))
theorem z_drop (hC : zCtx l X cc own nL lev bud Z) (i : Nat) (k : Z w G pc (lv.set i none) st) : Z w G pc lv st := by
  obtain ⟨p, e, R, s, m, args, below, meth, c, c0, s0, Q, A, H0, rfl, hx, hb, hml, hown, hts, hSt, hA, hl1, hl2, hl3, hl4⟩ := hC
  exact fun H locs ls hP hD hS hl => k H locs ls hP hD hS hl.drop
theorem z_il0 (hC : zCtx l X cc own nL lev bud Z) {x : Int32} {t : List (Option Value)} (hd : decode cc pc = .ok (.iload_n 0, 1)) (k : Z w G (pc + 1) (some (.int x) :: t) (.int x :: st)) : Z w G pc (some (.int x) :: t) st := z_ilN hC hd rfl rfl k
theorem z_al0 (hC : zCtx l X cc own nL lev bud Z) {x : Nat} {t : List (Option Value)} (hd : decode cc pc = .ok (.aload_n 0, 1)) (k : Z w G (pc + 1) (some (.ref x) :: t) (.ref x :: st)) : Z w G pc (some (.ref x) :: t) st := z_alN hC hd rfl rfl k
theorem z_nl0 (hC : zCtx l X cc own nL lev bud Z) {t : List (Option Value)} (hd : decode cc pc = .ok (.aload_n 0, 1)) (k : Z w G (pc + 1) (some .null :: t) (.null :: st)) : Z w G pc (some .null :: t) st := z_nlN hC hd rfl rfl k
theorem z_is0 (hC : zCtx l X cc own nL lev bud Z) {x : Int32} {o : Option Value} {t : List (Option Value)} (hd : decode cc pc = .ok (.istore_n 0, 1)) (hn : 0 < nL) (k : Z w G (pc + 1) (some (.int x) :: t) st) : Z w G pc (o :: t) (.int x :: st) := z_isN hC hd rfl hn k
theorem z_as0 (hC : zCtx l X cc own nL lev bud Z) {x : Nat} {o : Option Value} {t : List (Option Value)} (hd : decode cc pc = .ok (.astore_n 0, 1)) (hn : 0 < nL) (k : Z w G (pc + 1) (some (.ref x) :: t) st) : Z w G pc (o :: t) (.ref x :: st) := z_asN hC hd rfl hn k
theorem z_ns0 (hC : zCtx l X cc own nL lev bud Z) {o : Option Value} {t : List (Option Value)} (hd : decode cc pc = .ok (.astore_n 0, 1)) (hn : 0 < nL) (k : Z w G (pc + 1) (some (.null) :: t) st) : Z w G pc (o :: t) (.null :: st) := z_nsN hC hd rfl hn k
theorem z_dr0 (hC : zCtx l X cc own nL lev bud Z) {o : Option Value} {t : List (Option Value)} (k : Z w G pc (none :: t) st) : Z w G pc (o :: t) st := z_drop hC 0 k
theorem z_inc0 (hC : zCtx l X cc own nL lev bud Z) {n : Nat} {t : List (Option Value)} (hd : decode cc pc = .ok (.iinc 0 1, 3)) (hn : 0 < nL) (k : Z w G (pc + 3) (some (.int (nI (n + 1))) :: t) st) : Z w G pc (some (.int (nI n)) :: t) st := z_iinc hC hd rfl (nI_succ n).symm hn k
theorem z_il1 (hC : zCtx l X cc own nL lev bud Z) {a0 : Option Value} {x : Int32} {t : List (Option Value)} (hd : decode cc pc = .ok (.iload_n 1, 1)) (k : Z w G (pc + 1) (a0 :: some (.int x) :: t) (.int x :: st)) : Z w G pc (a0 :: some (.int x) :: t) st := z_ilN hC hd rfl rfl k
theorem z_al1 (hC : zCtx l X cc own nL lev bud Z) {a0 : Option Value} {x : Nat} {t : List (Option Value)} (hd : decode cc pc = .ok (.aload_n 1, 1)) (k : Z w G (pc + 1) (a0 :: some (.ref x) :: t) (.ref x :: st)) : Z w G pc (a0 :: some (.ref x) :: t) st := z_alN hC hd rfl rfl k
theorem z_nl1 (hC : zCtx l X cc own nL lev bud Z) {a0 : Option Value} {t : List (Option Value)} (hd : decode cc pc = .ok (.aload_n 1, 1)) (k : Z w G (pc + 1) (a0 :: some .null :: t) (.null :: st)) : Z w G pc (a0 :: some .null :: t) st := z_nlN hC hd rfl rfl k
theorem z_is1 (hC : zCtx l X cc own nL lev bud Z) {a0 : Option Value} {x : Int32} {o : Option Value} {t : List (Option Value)} (hd : decode cc pc = .ok (.istore_n 1, 1)) (hn : 1 < nL) (k : Z w G (pc + 1) (a0 :: some (.int x) :: t) st) : Z w G pc (a0 :: o :: t) (.int x :: st) := z_isN hC hd rfl hn k
theorem z_as1 (hC : zCtx l X cc own nL lev bud Z) {a0 : Option Value} {x : Nat} {o : Option Value} {t : List (Option Value)} (hd : decode cc pc = .ok (.astore_n 1, 1)) (hn : 1 < nL) (k : Z w G (pc + 1) (a0 :: some (.ref x) :: t) st) : Z w G pc (a0 :: o :: t) (.ref x :: st) := z_asN hC hd rfl hn k
theorem z_ns1 (hC : zCtx l X cc own nL lev bud Z) {a0 : Option Value} {o : Option Value} {t : List (Option Value)} (hd : decode cc pc = .ok (.astore_n 1, 1)) (hn : 1 < nL) (k : Z w G (pc + 1) (a0 :: some (.null) :: t) st) : Z w G pc (a0 :: o :: t) (.null :: st) := z_nsN hC hd rfl hn k
theorem z_dr1 (hC : zCtx l X cc own nL lev bud Z) {a0 : Option Value} {o : Option Value} {t : List (Option Value)} (k : Z w G pc (a0 :: none :: t) st) : Z w G pc (a0 :: o :: t) st := z_drop hC 1 k
theorem z_inc1 (hC : zCtx l X cc own nL lev bud Z) {a0 : Option Value} {n : Nat} {t : List (Option Value)} (hd : decode cc pc = .ok (.iinc 1 1, 3)) (hn : 1 < nL) (k : Z w G (pc + 3) (a0 :: some (.int (nI (n + 1))) :: t) st) : Z w G pc (a0 :: some (.int (nI n)) :: t) st := z_iinc hC hd rfl (nI_succ n).symm hn k
theorem z_il2 (hC : zCtx l X cc own nL lev bud Z) {a0 : Option Value} {a1 : Option Value} {x : Int32} {t : List (Option Value)} (hd : decode cc pc = .ok (.iload_n 2, 1)) (k : Z w G (pc + 1) (a0 :: a1 :: some (.int x) :: t) (.int x :: st)) : Z w G pc (a0 :: a1 :: some (.int x) :: t) st := z_ilN hC hd rfl rfl k
theorem z_al2 (hC : zCtx l X cc own nL lev bud Z) {a0 : Option Value} {a1 : Option Value} {x : Nat} {t : List (Option Value)} (hd : decode cc pc = .ok (.aload_n 2, 1)) (k : Z w G (pc + 1) (a0 :: a1 :: some (.ref x) :: t) (.ref x :: st)) : Z w G pc (a0 :: a1 :: some (.ref x) :: t) st := z_alN hC hd rfl rfl k
theorem z_nl2 (hC : zCtx l X cc own nL lev bud Z) {a0 : Option Value} {a1 : Option Value} {t : List (Option Value)} (hd : decode cc pc = .ok (.aload_n 2, 1)) (k : Z w G (pc + 1) (a0 :: a1 :: some .null :: t) (.null :: st)) : Z w G pc (a0 :: a1 :: some .null :: t) st := z_nlN hC hd rfl rfl k
theorem z_is2 (hC : zCtx l X cc own nL lev bud Z) {a0 : Option Value} {a1 : Option Value} {x : Int32} {o : Option Value} {t : List (Option Value)} (hd : decode cc pc = .ok (.istore_n 2, 1)) (hn : 2 < nL) (k : Z w G (pc + 1) (a0 :: a1 :: some (.int x) :: t) st) : Z w G pc (a0 :: a1 :: o :: t) (.int x :: st) := z_isN hC hd rfl hn k
theorem z_as2 (hC : zCtx l X cc own nL lev bud Z) {a0 : Option Value} {a1 : Option Value} {x : Nat} {o : Option Value} {t : List (Option Value)} (hd : decode cc pc = .ok (.astore_n 2, 1)) (hn : 2 < nL) (k : Z w G (pc + 1) (a0 :: a1 :: some (.ref x) :: t) st) : Z w G pc (a0 :: a1 :: o :: t) (.ref x :: st) := z_asN hC hd rfl hn k
theorem z_ns2 (hC : zCtx l X cc own nL lev bud Z) {a0 : Option Value} {a1 : Option Value} {o : Option Value} {t : List (Option Value)} (hd : decode cc pc = .ok (.astore_n 2, 1)) (hn : 2 < nL) (k : Z w G (pc + 1) (a0 :: a1 :: some (.null) :: t) st) : Z w G pc (a0 :: a1 :: o :: t) (.null :: st) := z_nsN hC hd rfl hn k
theorem z_dr2 (hC : zCtx l X cc own nL lev bud Z) {a0 : Option Value} {a1 : Option Value} {o : Option Value} {t : List (Option Value)} (k : Z w G pc (a0 :: a1 :: none :: t) st) : Z w G pc (a0 :: a1 :: o :: t) st := z_drop hC 2 k
theorem z_inc2 (hC : zCtx l X cc own nL lev bud Z) {a0 : Option Value} {a1 : Option Value} {n : Nat} {t : List (Option Value)} (hd : decode cc pc = .ok (.iinc 2 1, 3)) (hn : 2 < nL) (k : Z w G (pc + 3) (a0 :: a1 :: some (.int (nI (n + 1))) :: t) st) : Z w G pc (a0 :: a1 :: some (.int (nI n)) :: t) st := z_iinc hC hd rfl (nI_succ n).symm hn k
theorem z_il3 (hC : zCtx l X cc own nL lev bud Z) {a0 : Option Value} {a1 : Option Value} {a2 : Option Value} {x : Int32} {t : List (Option Value)} (hd : decode cc pc = .ok (.iload_n 3, 1)) (k : Z w G (pc + 1) (a0 :: a1 :: a2 :: some (.int x) :: t) (.int x :: st)) : Z w G pc (a0 :: a1 :: a2 :: some (.int x) :: t) st := z_ilN hC hd rfl rfl k
theorem z_al3 (hC : zCtx l X cc own nL lev bud Z) {a0 : Option Value} {a1 : Option Value} {a2 : Option Value} {x : Nat} {t : List (Option Value)} (hd : decode cc pc = .ok (.aload_n 3, 1)) (k : Z w G (pc + 1) (a0 :: a1 :: a2 :: some (.ref x) :: t) (.ref x :: st)) : Z w G pc (a0 :: a1 :: a2 :: some (.ref x) :: t) st := z_alN hC hd rfl rfl k
theorem z_nl3 (hC : zCtx l X cc own nL lev bud Z) {a0 : Option Value} {a1 : Option Value} {a2 : Option Value} {t : List (Option Value)} (hd : decode cc pc = .ok (.aload_n 3, 1)) (k : Z w G (pc + 1) (a0 :: a1 :: a2 :: some .null :: t) (.null :: st)) : Z w G pc (a0 :: a1 :: a2 :: some .null :: t) st := z_nlN hC hd rfl rfl k
theorem z_is3 (hC : zCtx l X cc own nL lev bud Z) {a0 : Option Value} {a1 : Option Value} {a2 : Option Value} {x : Int32} {o : Option Value} {t : List (Option Value)} (hd : decode cc pc = .ok (.istore_n 3, 1)) (hn : 3 < nL) (k : Z w G (pc + 1) (a0 :: a1 :: a2 :: some (.int x) :: t) st) : Z w G pc (a0 :: a1 :: a2 :: o :: t) (.int x :: st) := z_isN hC hd rfl hn k
theorem z_as3 (hC : zCtx l X cc own nL lev bud Z) {a0 : Option Value} {a1 : Option Value} {a2 : Option Value} {x : Nat} {o : Option Value} {t : List (Option Value)} (hd : decode cc pc = .ok (.astore_n 3, 1)) (hn : 3 < nL) (k : Z w G (pc + 1) (a0 :: a1 :: a2 :: some (.ref x) :: t) st) : Z w G pc (a0 :: a1 :: a2 :: o :: t) (.ref x :: st) := z_asN hC hd rfl hn k
theorem z_ns3 (hC : zCtx l X cc own nL lev bud Z) {a0 : Option Value} {a1 : Option Value} {a2 : Option Value} {o : Option Value} {t : List (Option Value)} (hd : decode cc pc = .ok (.astore_n 3, 1)) (hn : 3 < nL) (k : Z w G (pc + 1) (a0 :: a1 :: a2 :: some (.null) :: t) st) : Z w G pc (a0 :: a1 :: a2 :: o :: t) (.null :: st) := z_nsN hC hd rfl hn k
theorem z_dr3 (hC : zCtx l X cc own nL lev bud Z) {a0 : Option Value} {a1 : Option Value} {a2 : Option Value} {o : Option Value} {t : List (Option Value)} (k : Z w G pc (a0 :: a1 :: a2 :: none :: t) st) : Z w G pc (a0 :: a1 :: a2 :: o :: t) st := z_drop hC 3 k
theorem z_inc3 (hC : zCtx l X cc own nL lev bud Z) {a0 : Option Value} {a1 : Option Value} {a2 : Option Value} {n : Nat} {t : List (Option Value)} (hd : decode cc pc = .ok (.iinc 3 1, 3)) (hn : 3 < nL) (k : Z w G (pc + 3) (a0 :: a1 :: a2 :: some (.int (nI (n + 1))) :: t) st) : Z w G pc (a0 :: a1 :: a2 :: some (.int (nI n)) :: t) st := z_iinc hC hd rfl (nI_succ n).symm hn k
theorem z_il4 (hC : zCtx l X cc own nL lev bud Z) {a0 : Option Value} {a1 : Option Value} {a2 : Option Value} {a3 : Option Value} {x : Int32} {t : List (Option Value)} (hd : decode cc pc = .ok (.iload 4, 2)) (k : Z w G (pc + 2) (a0 :: a1 :: a2 :: a3 :: some (.int x) :: t) (.int x :: st)) : Z w G pc (a0 :: a1 :: a2 :: a3 :: some (.int x) :: t) st := z_ilW hC hd rfl k
theorem z_al4 (hC : zCtx l X cc own nL lev bud Z) {a0 : Option Value} {a1 : Option Value} {a2 : Option Value} {a3 : Option Value} {x : Nat} {t : List (Option Value)} (hd : decode cc pc = .ok (.aload 4, 2)) (k : Z w G (pc + 2) (a0 :: a1 :: a2 :: a3 :: some (.ref x) :: t) (.ref x :: st)) : Z w G pc (a0 :: a1 :: a2 :: a3 :: some (.ref x) :: t) st := z_alW hC hd rfl k
theorem z_nl4 (hC : zCtx l X cc own nL lev bud Z) {a0 : Option Value} {a1 : Option Value} {a2 : Option Value} {a3 : Option Value} {t : List (Option Value)} (hd : decode cc pc = .ok (.aload 4, 2)) (k : Z w G (pc + 2) (a0 :: a1 :: a2 :: a3 :: some .null :: t) (.null :: st)) : Z w G pc (a0 :: a1 :: a2 :: a3 :: some .null :: t) st := z_nlW hC hd rfl k
theorem z_is4 (hC : zCtx l X cc own nL lev bud Z) {a0 : Option Value} {a1 : Option Value} {a2 : Option Value} {a3 : Option Value} {x : Int32} {o : Option Value} {t : List (Option Value)} (hd : decode cc pc = .ok (.istore 4, 2)) (hn : 4 < nL) (k : Z w G (pc + 2) (a0 :: a1 :: a2 :: a3 :: some (.int x) :: t) st) : Z w G pc (a0 :: a1 :: a2 :: a3 :: o :: t) (.int x :: st) := z_isW hC hd hn k
theorem z_as4 (hC : zCtx l X cc own nL lev bud Z) {a0 : Option Value} {a1 : Option Value} {a2 : Option Value} {a3 : Option Value} {x : Nat} {o : Option Value} {t : List (Option Value)} (hd : decode cc pc = .ok (.astore 4, 2)) (hn : 4 < nL) (k : Z w G (pc + 2) (a0 :: a1 :: a2 :: a3 :: some (.ref x) :: t) st) : Z w G pc (a0 :: a1 :: a2 :: a3 :: o :: t) (.ref x :: st) := z_asW hC hd hn k
theorem z_ns4 (hC : zCtx l X cc own nL lev bud Z) {a0 : Option Value} {a1 : Option Value} {a2 : Option Value} {a3 : Option Value} {o : Option Value} {t : List (Option Value)} (hd : decode cc pc = .ok (.astore 4, 2)) (hn : 4 < nL) (k : Z w G (pc + 2) (a0 :: a1 :: a2 :: a3 :: some (.null) :: t) st) : Z w G pc (a0 :: a1 :: a2 :: a3 :: o :: t) (.null :: st) := z_nsW hC hd hn k
theorem z_dr4 (hC : zCtx l X cc own nL lev bud Z) {a0 : Option Value} {a1 : Option Value} {a2 : Option Value} {a3 : Option Value} {o : Option Value} {t : List (Option Value)} (k : Z w G pc (a0 :: a1 :: a2 :: a3 :: none :: t) st) : Z w G pc (a0 :: a1 :: a2 :: a3 :: o :: t) st := z_drop hC 4 k
theorem z_inc4 (hC : zCtx l X cc own nL lev bud Z) {a0 : Option Value} {a1 : Option Value} {a2 : Option Value} {a3 : Option Value} {n : Nat} {t : List (Option Value)} (hd : decode cc pc = .ok (.iinc 4 1, 3)) (hn : 4 < nL) (k : Z w G (pc + 3) (a0 :: a1 :: a2 :: a3 :: some (.int (nI (n + 1))) :: t) st) : Z w G pc (a0 :: a1 :: a2 :: a3 :: some (.int (nI n)) :: t) st := z_iinc hC hd rfl (nI_succ n).symm hn k
theorem z_il5 (hC : zCtx l X cc own nL lev bud Z) {a0 : Option Value} {a1 : Option Value} {a2 : Option Value} {a3 : Option Value} {a4 : Option Value} {x : Int32} {t : List (Option Value)} (hd : decode cc pc = .ok (.iload 5, 2)) (k : Z w G (pc + 2) (a0 :: a1 :: a2 :: a3 :: a4 :: some (.int x) :: t) (.int x :: st)) : Z w G pc (a0 :: a1 :: a2 :: a3 :: a4 :: some (.int x) :: t) st := z_ilW hC hd rfl k
theorem z_al5 (hC : zCtx l X cc own nL lev bud Z) {a0 : Option Value} {a1 : Option Value} {a2 : Option Value} {a3 : Option Value} {a4 : Option Value} {x : Nat} {t : List (Option Value)} (hd : decode cc pc = .ok (.aload 5, 2)) (k : Z w G (pc + 2) (a0 :: a1 :: a2 :: a3 :: a4 :: some (.ref x) :: t) (.ref x :: st)) : Z w G pc (a0 :: a1 :: a2 :: a3 :: a4 :: some (.ref x) :: t) st := z_alW hC hd rfl k
theorem z_nl5 (hC : zCtx l X cc own nL lev bud Z) {a0 : Option Value} {a1 : Option Value} {a2 : Option Value} {a3 : Option Value} {a4 : Option Value} {t : List (Option Value)} (hd : decode cc pc = .ok (.aload 5, 2)) (k : Z w G (pc + 2) (a0 :: a1 :: a2 :: a3 :: a4 :: some .null :: t) (.null :: st)) : Z w G pc (a0 :: a1 :: a2 :: a3 :: a4 :: some .null :: t) st := z_nlW hC hd rfl k
theorem z_is5 (hC : zCtx l X cc own nL lev bud Z) {a0 : Option Value} {a1 : Option Value} {a2 : Option Value} {a3 : Option Value} {a4 : Option Value} {x : Int32} {o : Option Value} {t : List (Option Value)} (hd : decode cc pc = .ok (.istore 5, 2)) (hn : 5 < nL) (k : Z w G (pc + 2) (a0 :: a1 :: a2 :: a3 :: a4 :: some (.int x) :: t) st) : Z w G pc (a0 :: a1 :: a2 :: a3 :: a4 :: o :: t) (.int x :: st) := z_isW hC hd hn k
theorem z_as5 (hC : zCtx l X cc own nL lev bud Z) {a0 : Option Value} {a1 : Option Value} {a2 : Option Value} {a3 : Option Value} {a4 : Option Value} {x : Nat} {o : Option Value} {t : List (Option Value)} (hd : decode cc pc = .ok (.astore 5, 2)) (hn : 5 < nL) (k : Z w G (pc + 2) (a0 :: a1 :: a2 :: a3 :: a4 :: some (.ref x) :: t) st) : Z w G pc (a0 :: a1 :: a2 :: a3 :: a4 :: o :: t) (.ref x :: st) := z_asW hC hd hn k
theorem z_ns5 (hC : zCtx l X cc own nL lev bud Z) {a0 : Option Value} {a1 : Option Value} {a2 : Option Value} {a3 : Option Value} {a4 : Option Value} {o : Option Value} {t : List (Option Value)} (hd : decode cc pc = .ok (.astore 5, 2)) (hn : 5 < nL) (k : Z w G (pc + 2) (a0 :: a1 :: a2 :: a3 :: a4 :: some (.null) :: t) st) : Z w G pc (a0 :: a1 :: a2 :: a3 :: a4 :: o :: t) (.null :: st) := z_nsW hC hd hn k
theorem z_dr5 (hC : zCtx l X cc own nL lev bud Z) {a0 : Option Value} {a1 : Option Value} {a2 : Option Value} {a3 : Option Value} {a4 : Option Value} {o : Option Value} {t : List (Option Value)} (k : Z w G pc (a0 :: a1 :: a2 :: a3 :: a4 :: none :: t) st) : Z w G pc (a0 :: a1 :: a2 :: a3 :: a4 :: o :: t) st := z_drop hC 5 k
theorem z_inc5 (hC : zCtx l X cc own nL lev bud Z) {a0 : Option Value} {a1 : Option Value} {a2 : Option Value} {a3 : Option Value} {a4 : Option Value} {n : Nat} {t : List (Option Value)} (hd : decode cc pc = .ok (.iinc 5 1, 3)) (hn : 5 < nL) (k : Z w G (pc + 3) (a0 :: a1 :: a2 :: a3 :: a4 :: some (.int (nI (n + 1))) :: t) st) : Z w G pc (a0 :: a1 :: a2 :: a3 :: a4 :: some (.int (nI n)) :: t) st := z_iinc hC hd rfl (nI_succ n).symm hn k
theorem z_il6 (hC : zCtx l X cc own nL lev bud Z) {a0 : Option Value} {a1 : Option Value} {a2 : Option Value} {a3 : Option Value} {a4 : Option Value} {a5 : Option Value} {x : Int32} {t : List (Option Value)} (hd : decode cc pc = .ok (.iload 6, 2)) (k : Z w G (pc + 2) (a0 :: a1 :: a2 :: a3 :: a4 :: a5 :: some (.int x) :: t) (.int x :: st)) : Z w G pc (a0 :: a1 :: a2 :: a3 :: a4 :: a5 :: some (.int x) :: t) st := z_ilW hC hd rfl k
theorem z_al6 (hC : zCtx l X cc own nL lev bud Z) {a0 : Option Value} {a1 : Option Value} {a2 : Option Value} {a3 : Option Value} {a4 : Option Value} {a5 : Option Value} {x : Nat} {t : List (Option Value)} (hd : decode cc pc = .ok (.aload 6, 2)) (k : Z w G (pc + 2) (a0 :: a1 :: a2 :: a3 :: a4 :: a5 :: some (.ref x) :: t) (.ref x :: st)) : Z w G pc (a0 :: a1 :: a2 :: a3 :: a4 :: a5 :: some (.ref x) :: t) st := z_alW hC hd rfl k
theorem z_nl6 (hC : zCtx l X cc own nL lev bud Z) {a0 : Option Value} {a1 : Option Value} {a2 : Option Value} {a3 : Option Value} {a4 : Option Value} {a5 : Option Value} {t : List (Option Value)} (hd : decode cc pc = .ok (.aload 6, 2)) (k : Z w G (pc + 2) (a0 :: a1 :: a2 :: a3 :: a4 :: a5 :: some .null :: t) (.null :: st)) : Z w G pc (a0 :: a1 :: a2 :: a3 :: a4 :: a5 :: some .null :: t) st := z_nlW hC hd rfl k
theorem z_is6 (hC : zCtx l X cc own nL lev bud Z) {a0 : Option Value} {a1 : Option Value} {a2 : Option Value} {a3 : Option Value} {a4 : Option Value} {a5 : Option Value} {x : Int32} {o : Option Value} {t : List (Option Value)} (hd : decode cc pc = .ok (.istore 6, 2)) (hn : 6 < nL) (k : Z w G (pc + 2) (a0 :: a1 :: a2 :: a3 :: a4 :: a5 :: some (.int x) :: t) st) : Z w G pc (a0 :: a1 :: a2 :: a3 :: a4 :: a5 :: o :: t) (.int x :: st) := z_isW hC hd hn k
theorem z_as6 (hC : zCtx l X cc own nL lev bud Z) {a0 : Option Value} {a1 : Option Value} {a2 : Option Value} {a3 : Option Value} {a4 : Option Value} {a5 : Option Value} {x : Nat} {o : Option Value} {t : List (Option Value)} (hd : decode cc pc = .ok (.astore 6, 2)) (hn : 6 < nL) (k : Z w G (pc + 2) (a0 :: a1 :: a2 :: a3 :: a4 :: a5 :: some (.ref x) :: t) st) : Z w G pc (a0 :: a1 :: a2 :: a3 :: a4 :: a5 :: o :: t) (.ref x :: st) := z_asW hC hd hn k
theorem z_ns6 (hC : zCtx l X cc own nL lev bud Z) {a0 : Option Value} {a1 : Option Value} {a2 : Option Value} {a3 : Option Value} {a4 : Option Value} {a5 : Option Value} {o : Option Value} {t : List (Option Value)} (hd : decode cc pc = .ok (.astore 6, 2)) (hn : 6 < nL) (k : Z w G (pc + 2) (a0 :: a1 :: a2 :: a3 :: a4 :: a5 :: some (.null) :: t) st) : Z w G pc (a0 :: a1 :: a2 :: a3 :: a4 :: a5 :: o :: t) (.null :: st) := z_nsW hC hd hn k
theorem z_dr6 (hC : zCtx l X cc own nL lev bud Z) {a0 : Option Value} {a1 : Option Value} {a2 : Option Value} {a3 : Option Value} {a4 : Option Value} {a5 : Option Value} {o : Option Value} {t : List (Option Value)} (k : Z w G pc (a0 :: a1 :: a2 :: a3 :: a4 :: a5 :: none :: t) st) : Z w G pc (a0 :: a1 :: a2 :: a3 :: a4 :: a5 :: o :: t) st := z_drop hC 6 k
theorem z_inc6 (hC : zCtx l X cc own nL lev bud Z) {a0 : Option Value} {a1 : Option Value} {a2 : Option Value} {a3 : Option Value} {a4 : Option Value} {a5 : Option Value} {n : Nat} {t : List (Option Value)} (hd : decode cc pc = .ok (.iinc 6 1, 3)) (hn : 6 < nL) (k : Z w G (pc + 3) (a0 :: a1 :: a2 :: a3 :: a4 :: a5 :: some (.int (nI (n + 1))) :: t) st) : Z w G pc (a0 :: a1 :: a2 :: a3 :: a4 :: a5 :: some (.int (nI n)) :: t) st := z_iinc hC hd rfl (nI_succ n).symm hn k
theorem z_il7 (hC : zCtx l X cc own nL lev bud Z) {a0 : Option Value} {a1 : Option Value} {a2 : Option Value} {a3 : Option Value} {a4 : Option Value} {a5 : Option Value} {a6 : Option Value} {x : Int32} {t : List (Option Value)} (hd : decode cc pc = .ok (.iload 7, 2)) (k : Z w G (pc + 2) (a0 :: a1 :: a2 :: a3 :: a4 :: a5 :: a6 :: some (.int x) :: t) (.int x :: st)) : Z w G pc (a0 :: a1 :: a2 :: a3 :: a4 :: a5 :: a6 :: some (.int x) :: t) st := z_ilW hC hd rfl k
theorem z_al7 (hC : zCtx l X cc own nL lev bud Z) {a0 : Option Value} {a1 : Option Value} {a2 : Option Value} {a3 : Option Value} {a4 : Option Value} {a5 : Option Value} {a6 : Option Value} {x : Nat} {t : List (Option Value)} (hd : decode cc pc = .ok (.aload 7, 2)) (k : Z w G (pc + 2) (a0 :: a1 :: a2 :: a3 :: a4 :: a5 :: a6 :: some (.ref x) :: t) (.ref x :: st)) : Z w G pc (a0 :: a1 :: a2 :: a3 :: a4 :: a5 :: a6 :: some (.ref x) :: t) st := z_alW hC hd rfl k
theorem z_nl7 (hC : zCtx l X cc own nL lev bud Z) {a0 : Option Value} {a1 : Option Value} {a2 : Option Value} {a3 : Option Value} {a4 : Option Value} {a5 : Option Value} {a6 : Option Value} {t : List (Option Value)} (hd : decode cc pc = .ok (.aload 7, 2)) (k : Z w G (pc + 2) (a0 :: a1 :: a2 :: a3 :: a4 :: a5 :: a6 :: some .null :: t) (.null :: st)) : Z w G pc (a0 :: a1 :: a2 :: a3 :: a4 :: a5 :: a6 :: some .null :: t) st := z_nlW hC hd rfl k
theorem z_is7 (hC : zCtx l X cc own nL lev bud Z) {a0 : Option Value} {a1 : Option Value} {a2 : Option Value} {a3 : Option Value} {a4 : Option Value} {a5 : Option Value} {a6 : Option Value} {x : Int32} {o : Option Value} {t : List (Option Value)} (hd : decode cc pc = .ok (.istore 7, 2)) (hn : 7 < nL) (k : Z w G (pc + 2) (a0 :: a1 :: a2 :: a3 :: a4 :: a5 :: a6 :: some (.int x) :: t) st) : Z w G pc (a0 :: a1 :: a2 :: a3 :: a4 :: a5 :: a6 :: o :: t) (.int x :: st) := z_isW hC hd hn k
theorem z_as7 (hC : zCtx l X cc own nL lev bud Z) {a0 : Option Value} {a1 : Option Value} {a2 : Option Value} {a3 : Option Value} {a4 : Option Value} {a5 : Option Value} {a6 : Option Value} {x : Nat} {o : Option Value} {t : List (Option Value)} (hd : decode cc pc = .ok (.astore 7, 2)) (hn : 7 < nL) (k : Z w G (pc + 2) (a0 :: a1 :: a2 :: a3 :: a4 :: a5 :: a6 :: some (.ref x) :: t) st) : Z w G pc (a0 :: a1 :: a2 :: a3 :: a4 :: a5 :: a6 :: o :: t) (.ref x :: st) := z_asW hC hd hn k
theorem z_ns7 (hC : zCtx l X cc own nL lev bud Z) {a0 : Option Value} {a1 : Option Value} {a2 : Option Value} {a3 : Option Value} {a4 : Option Value} {a5 : Option Value} {a6 : Option Value} {o : Option Value} {t : List (Option Value)} (hd : decode cc pc = .ok (.astore 7, 2)) (hn : 7 < nL) (k : Z w G (pc + 2) (a0 :: a1 :: a2 :: a3 :: a4 :: a5 :: a6 :: some (.null) :: t) st) : Z w G pc (a0 :: a1 :: a2 :: a3 :: a4 :: a5 :: a6 :: o :: t) (.null :: st) := z_nsW hC hd hn k
theorem z_dr7 (hC : zCtx l X cc own nL lev bud Z) {a0 : Option Value} {a1 : Option Value} {a2 : Option Value} {a3 : Option Value} {a4 : Option Value} {a5 : Option Value} {a6 : Option Value} {o : Option Value} {t : List (Option Value)} (k : Z w G pc (a0 :: a1 :: a2 :: a3 :: a4 :: a5 :: a6 :: none :: t) st) : Z w G pc (a0 :: a1 :: a2 :: a3 :: a4 :: a5 :: a6 :: o :: t) st := z_drop hC 7 k
theorem z_inc7 (hC : zCtx l X cc own nL lev bud Z) {a0 : Option Value} {a1 : Option Value} {a2 : Option Value} {a3 : Option Value} {a4 : Option Value} {a5 : Option Value} {a6 : Option Value} {n : Nat} {t : List (Option Value)} (hd : decode cc pc = .ok (.iinc 7 1, 3)) (hn : 7 < nL) (k : Z w G (pc + 3) (a0 :: a1 :: a2 :: a3 :: a4 :: a5 :: a6 :: some (.int (nI (n + 1))) :: t) st) : Z w G pc (a0 :: a1 :: a2 :: a3 :: a4 :: a5 :: a6 :: some (.int (nI n)) :: t) st := z_iinc hC hd rfl (nI_succ n).symm hn k
theorem z_il8 (hC : zCtx l X cc own nL lev bud Z) {a0 : Option Value} {a1 : Option Value} {a2 : Option Value} {a3 : Option Value} {a4 : Option Value} {a5 : Option Value} {a6 : Option Value} {a7 : Option Value} {x : Int32} {t : List (Option Value)} (hd : decode cc pc = .ok (.iload 8, 2)) (k : Z w G (pc + 2) (a0 :: a1 :: a2 :: a3 :: a4 :: a5 :: a6 :: a7 :: some (.int x) :: t) (.int x :: st)) : Z w G pc (a0 :: a1 :: a2 :: a3 :: a4 :: a5 :: a6 :: a7 :: some (.int x) :: t) st := z_ilW hC hd rfl k
theorem z_al8 (hC : zCtx l X cc own nL lev bud Z) {a0 : Option Value} {a1 : Option Value} {a2 : Option Value} {a3 : Option Value} {a4 : Option Value} {a5 : Option Value} {a6 : Option Value} {a7 : Option Value} {x : Nat} {t : List (Option Value)} (hd : decode cc pc = .ok (.aload 8, 2)) (k : Z w G (pc + 2) (a0 :: a1 :: a2 :: a3 :: a4 :: a5 :: a6 :: a7 :: some (.ref x) :: t) (.ref x :: st)) : Z w G pc (a0 :: a1 :: a2 :: a3 :: a4 :: a5 :: a6 :: a7 :: some (.ref x) :: t) st := z_alW hC hd rfl k
theorem z_nl8 (hC : zCtx l X cc own nL lev bud Z) {a0 : Option Value} {a1 : Option Value} {a2 : Option Value} {a3 : Option Value} {a4 : Option Value} {a5 : Option Value} {a6 : Option Value} {a7 : Option Value} {t : List (Option Value)} (hd : decode cc pc = .ok (.aload 8, 2)) (k : Z w G (pc + 2) (a0 :: a1 :: a2 :: a3 :: a4 :: a5 :: a6 :: a7 :: some .null :: t) (.null :: st)) : Z w G pc (a0 :: a1 :: a2 :: a3 :: a4 :: a5 :: a6 :: a7 :: some .null :: t) st := z_nlW hC hd rfl k
theorem z_is8 (hC : zCtx l X cc own nL lev bud Z) {a0 : Option Value} {a1 : Option Value} {a2 : Option Value} {a3 : Option Value} {a4 : Option Value} {a5 : Option Value} {a6 : Option Value} {a7 : Option Value} {x : Int32} {o : Option Value} {t : List (Option Value)} (hd : decode cc pc = .ok (.istore 8, 2)) (hn : 8 < nL) (k : Z w G (pc + 2) (a0 :: a1 :: a2 :: a3 :: a4 :: a5 :: a6 :: a7 :: some (.int x) :: t) st) : Z w G pc (a0 :: a1 :: a2 :: a3 :: a4 :: a5 :: a6 :: a7 :: o :: t) (.int x :: st) := z_isW hC hd hn k
theorem z_as8 (hC : zCtx l X cc own nL lev bud Z) {a0 : Option Value} {a1 : Option Value} {a2 : Option Value} {a3 : Option Value} {a4 : Option Value} {a5 : Option Value} {a6 : Option Value} {a7 : Option Value} {x : Nat} {o : Option Value} {t : List (Option Value)} (hd : decode cc pc = .ok (.astore 8, 2)) (hn : 8 < nL) (k : Z w G (pc + 2) (a0 :: a1 :: a2 :: a3 :: a4 :: a5 :: a6 :: a7 :: some (.ref x) :: t) st) : Z w G pc (a0 :: a1 :: a2 :: a3 :: a4 :: a5 :: a6 :: a7 :: o :: t) (.ref x :: st) := z_asW hC hd hn k
theorem z_ns8 (hC : zCtx l X cc own nL lev bud Z) {a0 : Option Value} {a1 : Option Value} {a2 : Option Value} {a3 : Option Value} {a4 : Option Value} {a5 : Option Value} {a6 : Option Value} {a7 : Option Value} {o : Option Value} {t : List (Option Value)} (hd : decode cc pc = .ok (.astore 8, 2)) (hn : 8 < nL) (k : Z w G (pc + 2) (a0 :: a1 :: a2 :: a3 :: a4 :: a5 :: a6 :: a7 :: some (.null) :: t) st) : Z w G pc (a0 :: a1 :: a2 :: a3 :: a4 :: a5 :: a6 :: a7 :: o :: t) (.null :: st) := z_nsW hC hd hn k
theorem z_dr8 (hC : zCtx l X cc own nL lev bud Z) {a0 : Option Value} {a1 : Option Value} {a2 : Option Value} {a3 : Option Value} {a4 : Option Value} {a5 : Option Value} {a6 : Option Value} {a7 : Option Value} {o : Option Value} {t : List (Option Value)} (k : Z w G pc (a0 :: a1 :: a2 :: a3 :: a4 :: a5 :: a6 :: a7 :: none :: t) st) : Z w G pc (a0 :: a1 :: a2 :: a3 :: a4 :: a5 :: a6 :: a7 :: o :: t) st := z_drop hC 8 k
theorem z_inc8 (hC : zCtx l X cc own nL lev bud Z) {a0 : Option Value} {a1 : Option Value} {a2 : Option Value} {a3 : Option Value} {a4 : Option Value} {a5 : Option Value} {a6 : Option Value} {a7 : Option Value} {n : Nat} {t : List (Option Value)} (hd : decode cc pc = .ok (.iinc 8 1, 3)) (hn : 8 < nL) (k : Z w G (pc + 3) (a0 :: a1 :: a2 :: a3 :: a4 :: a5 :: a6 :: a7 :: some (.int (nI (n + 1))) :: t) st) : Z w G pc (a0 :: a1 :: a2 :: a3 :: a4 :: a5 :: a6 :: a7 :: some (.int (nI n)) :: t) st := z_iinc hC hd rfl (nI_succ n).symm hn k
theorem z_iadd (hC : zCtx l X cc own nL lev bud Z) {x y : Int32} (hd : decode cc pc = .ok (.iadd, 1)) (k : Z w G (pc + 1) lv (.int (x + y) :: st)) : Z w G pc lv (.int y :: .int x :: st) := by
  obtain ⟨p, e, R, s, m, args, below, meth, c, c0, s0, Q, A, H0, rfl, hx, hb, hml, hown, hts, hSt, hA, hl1, hl2, hl3, hl4⟩ := hC
  exact fun H locs ls hP hD hS hl => lv_iadd hx hb hd (k H locs ls hP hD hS hl)
theorem z_isub (hC : zCtx l X cc own nL lev bud Z) {x y : Int32} (hd : decode cc pc = .ok (.isub, 1)) (k : Z w G (pc + 1) lv (.int (x - y) :: st)) : Z w G pc lv (.int y :: .int x :: st) := by
  obtain ⟨p, e, R, s, m, args, below, meth, c, c0, s0, Q, A, H0, rfl, hx, hb, hml, hown, hts, hSt, hA, hl1, hl2, hl3, hl4⟩ := hC
  exact fun H locs ls hP hD hS hl => lv_isub hx hb hd (k H locs ls hP hD hS hl)
theorem z_imul (hC : zCtx l X cc own nL lev bud Z) {x y : Int32} (hd : decode cc pc = .ok (.imul, 1)) (k : Z w G (pc + 1) lv (.int (x * y) :: st)) : Z w G pc lv (.int y :: .int x :: st) := by
  obtain ⟨p, e, R, s, m, args, below, meth, c, c0, s0, Q, A, H0, rfl, hx, hb, hml, hown, hts, hSt, hA, hl1, hl2, hl3, hl4⟩ := hC
  exact fun H locs ls hP hD hS hl => lv_imul hx hb hd (k H locs ls hP hD hS hl)
theorem z_iand (hC : zCtx l X cc own nL lev bud Z) {x y : Int32} (hd : decode cc pc = .ok (.iand, 1)) (k : Z w G (pc + 1) lv (.int (x &&& y) :: st)) : Z w G pc lv (.int y :: .int x :: st) := by
  obtain ⟨p, e, R, s, m, args, below, meth, c, c0, s0, Q, A, H0, rfl, hx, hb, hml, hown, hts, hSt, hA, hl1, hl2, hl3, hl4⟩ := hC
  exact fun H locs ls hP hD hS hl => lv_iand hx hb hd (k H locs ls hP hD hS hl)
theorem z_ior (hC : zCtx l X cc own nL lev bud Z) {x y : Int32} (hd : decode cc pc = .ok (.ior, 1)) (k : Z w G (pc + 1) lv (.int (x ||| y) :: st)) : Z w G pc lv (.int y :: .int x :: st) := by
  obtain ⟨p, e, R, s, m, args, below, meth, c, c0, s0, Q, A, H0, rfl, hx, hb, hml, hown, hts, hSt, hA, hl1, hl2, hl3, hl4⟩ := hC
  exact fun H locs ls hP hD hS hl => lv_ior hx hb hd (k H locs ls hP hD hS hl)
theorem z_ixor (hC : zCtx l X cc own nL lev bud Z) {x y : Int32} (hd : decode cc pc = .ok (.ixor, 1)) (k : Z w G (pc + 1) lv (.int (x ^^^ y) :: st)) : Z w G pc lv (.int y :: .int x :: st) := by
  obtain ⟨p, e, R, s, m, args, below, meth, c, c0, s0, Q, A, H0, rfl, hx, hb, hml, hown, hts, hSt, hA, hl1, hl2, hl3, hl4⟩ := hC
  exact fun H locs ls hP hD hS hl => lv_ixor hx hb hd (k H locs ls hP hD hS hl)
theorem z_ishl (hC : zCtx l X cc own nL lev bud Z) {x y : Int32} (hd : decode cc pc = .ok (.ishl, 1)) (k : Z w G (pc + 1) lv (.int (x <<< (y &&& 31)) :: st)) : Z w G pc lv (.int y :: .int x :: st) := by
  obtain ⟨p, e, R, s, m, args, below, meth, c, c0, s0, Q, A, H0, rfl, hx, hb, hml, hown, hts, hSt, hA, hl1, hl2, hl3, hl4⟩ := hC
  exact fun H locs ls hP hD hS hl => lv_ishl hx hb hd (k H locs ls hP hD hS hl)
theorem z_ishr (hC : zCtx l X cc own nL lev bud Z) {x y : Int32} (hd : decode cc pc = .ok (.ishr, 1)) (k : Z w G (pc + 1) lv (.int (x >>> (y &&& 31)) :: st)) : Z w G pc lv (.int y :: .int x :: st) := by
  obtain ⟨p, e, R, s, m, args, below, meth, c, c0, s0, Q, A, H0, rfl, hx, hb, hml, hown, hts, hSt, hA, hl1, hl2, hl3, hl4⟩ := hC
  exact fun H locs ls hP hD hS hl => lv_ishr hx hb hd (k H locs ls hP hD hS hl)
theorem z_iushr (hC : zCtx l X cc own nL lev bud Z) {x y v : Int32} (hd : decode cc pc = .ok (.iushr, 1)) (hv : (x.toUInt32 >>> (y.toUInt32 &&& Int32.toUInt32 31)).toInt32 = v) (k : Z w G (pc + 1) lv (.int v :: st)) : Z w G pc lv (.int y :: .int x :: st) := by
  obtain ⟨p, e, R, s, m, args, below, meth, c, c0, s0, Q, A, H0, rfl, hx, hb, hml, hown, hts, hSt, hA, hl1, hl2, hl3, hl4⟩ := hC
  exact fun H locs ls hP hD hS hl => lv_iushr hx hb hd hv (k H locs ls hP hD hS hl)
theorem z_idiv (hC : zCtx l X cc own nL lev bud Z) {x y : Int32} (hd : decode cc pc = .ok (.idiv, 1)) (hne : ¬ y = 0) (k : Z w G (pc + 1) lv (.int (x / y) :: st)) : Z w G pc lv (.int y :: .int x :: st) := by
  obtain ⟨p, e, R, s, m, args, below, meth, c, c0, s0, Q, A, H0, rfl, hx, hb, hml, hown, hts, hSt, hA, hl1, hl2, hl3, hl4⟩ := hC
  exact fun H locs ls hP hD hS hl => lv_idiv hx hb hd hne (k H locs ls hP hD hS hl)
theorem z_irem (hC : zCtx l X cc own nL lev bud Z) {x y : Int32} (hd : decode cc pc = .ok (.irem, 1)) (hne : ¬ y = 0) (k : Z w G (pc + 1) lv (.int (x - x / y * y) :: st)) : Z w G pc lv (.int y :: .int x :: st) := by
  obtain ⟨p, e, R, s, m, args, below, meth, c, c0, s0, Q, A, H0, rfl, hx, hb, hml, hown, hts, hSt, hA, hl1, hl2, hl3, hl4⟩ := hC
  exact fun H locs ls hP hD hS hl => lv_irem hx hb hd hne (k H locs ls hP hD hS hl)
theorem z_iaddN (hC : zCtx l X cc own nL lev bud Z) {x y : Nat} (hd : decode cc pc = .ok (.iadd, 1)) (k : Z w G (pc + 1) lv (.int (nI (x + y)) :: st)) : Z w G pc lv (.int (nI y) :: .int (nI x) :: st) := z_iadd hC hd (by rw [nI_add]; exact k)
theorem z_imulN (hC : zCtx l X cc own nL lev bud Z) {x y : Nat} (hd : decode cc pc = .ok (.imul, 1)) (k : Z w G (pc + 1) lv (.int (nI (x * y)) :: st)) : Z w G pc lv (.int (nI y) :: .int (nI x) :: st) := z_imul hC hd (by rw [pk_mul]; exact k)
theorem z_isubN (hC : zCtx l X cc own nL lev bud Z) {x y : Nat} (hd : decode cc pc = .ok (.isub, 1)) (h : y ≤ x) (k : Z w G (pc + 1) lv (.int (nI (x - y)) :: st)) : Z w G pc lv (.int (nI y) :: .int (nI x) :: st) := z_isub hC hd (by rw [pk_sub h]; exact k)
theorem z_iremN (hC : zCtx l X cc own nL lev bud Z) {x y : Nat} (hd : decode cc pc = .ok (.irem, 1)) (hx : x < 2 ^ 31) (h0 : 0 < y) (hy : y < 2 ^ 31) (k : Z w G (pc + 1) lv (.int (nI (x % y)) :: st)) : Z w G pc lv (.int (nI y) :: .int (nI x) :: st) := z_irem hC hd (nI_ne0 h0 hy) (by rw [pk_rem hx h0 hy]; exact k)
theorem z_idivN (hC : zCtx l X cc own nL lev bud Z) {x y : Nat} (hd : decode cc pc = .ok (.idiv, 1)) (hx : x < 2 ^ 31) (h0 : 0 < y) (hy : y < 2 ^ 31) (k : Z w G (pc + 1) lv (.int (nI (x / y)) :: st)) : Z w G pc lv (.int (nI y) :: .int (nI x) :: st) := z_idiv hC hd (nI_ne0 h0 hy) (by rw [pk_div hx h0 hy]; exact k)
theorem z_top {Z : zZ} {x y : Int32} (h : x = y) (k : Z w G pc lv (.int y :: st)) : Z w G pc lv (.int x :: st) := h ▸ k
theorem z_i2l (hC : zCtx l X cc own nL lev bud Z) {x : Int32} {v : Int64} (hd : decode cc pc = .ok (.i2l, 1)) (hv : x.toInt64 = v) (k : Z w G (pc + 1) lv (.long v :: st)) : Z w G pc lv (.int x :: st) := by
  obtain ⟨p, e, R, s, m, args, below, meth, c, c0, s0, Q, A, H0, rfl, hx, hb, hml, hown, hts, hSt, hA, hl1, hl2, hl3, hl4⟩ := hC
  exact fun H locs ls hP hD hS hl => lv_i2l hx hb hd hv (k H locs ls hP hD hS hl)
theorem z_ladd (hC : zCtx l X cc own nL lev bud Z) {x y : Int64} (hd : decode cc pc = .ok (.ladd, 1)) (k : Z w G (pc + 1) lv (.long (x + y) :: st)) : Z w G pc lv (.long y :: .long x :: st) := by
  obtain ⟨p, e, R, s, m, args, below, meth, c, c0, s0, Q, A, H0, rfl, hx, hb, hml, hown, hts, hSt, hA, hl1, hl2, hl3, hl4⟩ := hC
  exact fun H locs ls hP hD hS hl => lv_ladd hx hb hd (k H locs ls hP hD hS hl)
theorem z_lcmp (hC : zCtx l X cc own nL lev bud Z) {x y : Int64} (hd : decode cc pc = .ok (.lcmp, 1)) (k : Z w G (pc + 1) lv (.int (lg_cmp x y) :: st)) : Z w G pc lv (.long y :: .long x :: st) := by
  obtain ⟨p, e, R, s, m, args, below, meth, c, c0, s0, Q, A, H0, rfl, hx, hb, hml, hown, hts, hSt, hA, hl1, hl2, hl3, hl4⟩ := hC
  exact fun H locs ls hP hD hS hl => W.lcmp hx hb hd (k H locs ls hP hD hS hl)
theorem z_dup (hC : zCtx l X cc own nL lev bud Z) {v : Value} (hd : decode cc pc = .ok (.dup, 1)) (hv : v.category = 1) (k : Z w G (pc + 1) lv (v :: v :: st)) : Z w G pc lv (v :: st) := by
  obtain ⟨p, e, R, s, m, args, below, meth, c, c0, s0, Q, A, H0, rfl, hx, hb, hml, hown, hts, hSt, hA, hl1, hl2, hl3, hl4⟩ := hC
  exact fun H locs ls hP hD hS hl => lv_dup hx hb hd hv (k H locs ls hP hD hS hl)
theorem z_dup2 (hC : zCtx l X cc own nL lev bud Z) {v u : Value} (hd : decode cc pc = .ok (.dup2, 1)) (hv : v.category = 1) (hu : u.category = 1) (k : Z w G (pc + 1) lv (v :: u :: v :: u :: st)) : Z w G pc lv (v :: u :: st) := by
  obtain ⟨p, e, R, s, m, args, below, meth, c, c0, s0, Q, A, H0, rfl, hx, hb, hml, hown, hts, hSt, hA, hl1, hl2, hl3, hl4⟩ := hC
  exact fun H locs ls hP hD hS hl => lv_dup2_11 hx hb hd hv hu (k H locs ls hP hD hS hl)
theorem z_goto (hC : zCtx l X cc own nL lev bud Z) {off : Int} (tgt : Nat) (hd : decode cc pc = .ok (.goto off, 3)) (ht : (pc : Int) + off = (tgt : Int)) (k : Z w G tgt lv st) : Z w G pc lv st := by
  obtain ⟨p, e, R, s, m, args, below, meth, c, c0, s0, Q, A, H0, rfl, hx, hb, hml, hown, hts, hSt, hA, hl1, hl2, hl3, hl4⟩ := hC
  exact fun H locs ls hP hD hS hl => lv_goto hx hb hd ht (k H locs ls hP hD hS hl)
theorem z_if_eq (hC : zCtx l X cc own nL lev bud Z) {x : Int32} {off : Int} (tgt : Nat) (hd : decode cc pc = .ok (.ifCond .eq off, 3)) (ht : (pc : Int) + off = (tgt : Int)) (kt : x = 0 → Z w G tgt lv st) (kf : ¬ x = 0 → Z w G (pc + 3) lv st) : Z w G pc lv (.int x :: st) := by
  obtain ⟨p, e, R, s, m, args, below, meth, c, c0, s0, Q, A, H0, rfl, hx, hb, hml, hown, hts, hSt, hA, hl1, hl2, hl3, hl4⟩ := hC
  exact fun H locs ls hP hD hS hl => lv_if_eq hx hb hd ht (fun h => kt h H locs ls hP hD hS hl) (fun h => kf h H locs ls hP hD hS hl)
theorem z_icmp_eq (hC : zCtx l X cc own nL lev bud Z) {x y : Int32} {off : Int} (tgt : Nat) (hd : decode cc pc = .ok (.if_icmp .eq off, 3)) (ht : (pc : Int) + off = (tgt : Int)) (kt : x = y → Z w G tgt lv st) (kf : ¬ x = y → Z w G (pc + 3) lv st) : Z w G pc lv (.int y :: .int x :: st) := by
  obtain ⟨p, e, R, s, m, args, below, meth, c, c0, s0, Q, A, H0, rfl, hx, hb, hml, hown, hts, hSt, hA, hl1, hl2, hl3, hl4⟩ := hC
  exact fun H locs ls hP hD hS hl => lv_icmp_eq hx hb hd ht (fun h => kt h H locs ls hP hD hS hl) (fun h => kf h H locs ls hP hD hS hl)
theorem z_if_ne (hC : zCtx l X cc own nL lev bud Z) {x : Int32} {off : Int} (tgt : Nat) (hd : decode cc pc = .ok (.ifCond .ne off, 3)) (ht : (pc : Int) + off = (tgt : Int)) (kt : ¬ x = 0 → Z w G tgt lv st) (kf : x = 0 → Z w G (pc + 3) lv st) : Z w G pc lv (.int x :: st) := by
  obtain ⟨p, e, R, s, m, args, below, meth, c, c0, s0, Q, A, H0, rfl, hx, hb, hml, hown, hts, hSt, hA, hl1, hl2, hl3, hl4⟩ := hC
  exact fun H locs ls hP hD hS hl => lv_if_ne hx hb hd ht (fun h => kt h H locs ls hP hD hS hl) (fun h => kf h H locs ls hP hD hS hl)
theorem z_icmp_ne (hC : zCtx l X cc own nL lev bud Z) {x y : Int32} {off : Int} (tgt : Nat) (hd : decode cc pc = .ok (.if_icmp .ne off, 3)) (ht : (pc : Int) + off = (tgt : Int)) (kt : ¬ x = y → Z w G tgt lv st) (kf : x = y → Z w G (pc + 3) lv st) : Z w G pc lv (.int y :: .int x :: st) := by
  obtain ⟨p, e, R, s, m, args, below, meth, c, c0, s0, Q, A, H0, rfl, hx, hb, hml, hown, hts, hSt, hA, hl1, hl2, hl3, hl4⟩ := hC
  exact fun H locs ls hP hD hS hl => lv_icmp_ne hx hb hd ht (fun h => kt h H locs ls hP hD hS hl) (fun h => kf h H locs ls hP hD hS hl)
theorem z_if_lt (hC : zCtx l X cc own nL lev bud Z) {x : Int32} {off : Int} (tgt : Nat) (hd : decode cc pc = .ok (.ifCond .lt off, 3)) (ht : (pc : Int) + off = (tgt : Int)) (kt : x < 0 → Z w G tgt lv st) (kf : ¬ x < 0 → Z w G (pc + 3) lv st) : Z w G pc lv (.int x :: st) := by
  obtain ⟨p, e, R, s, m, args, below, meth, c, c0, s0, Q, A, H0, rfl, hx, hb, hml, hown, hts, hSt, hA, hl1, hl2, hl3, hl4⟩ := hC
  exact fun H locs ls hP hD hS hl => lv_if_lt hx hb hd ht (fun h => kt h H locs ls hP hD hS hl) (fun h => kf h H locs ls hP hD hS hl)
theorem z_icmp_lt (hC : zCtx l X cc own nL lev bud Z) {x y : Int32} {off : Int} (tgt : Nat) (hd : decode cc pc = .ok (.if_icmp .lt off, 3)) (ht : (pc : Int) + off = (tgt : Int)) (kt : x < y → Z w G tgt lv st) (kf : ¬ x < y → Z w G (pc + 3) lv st) : Z w G pc lv (.int y :: .int x :: st) := by
  obtain ⟨p, e, R, s, m, args, below, meth, c, c0, s0, Q, A, H0, rfl, hx, hb, hml, hown, hts, hSt, hA, hl1, hl2, hl3, hl4⟩ := hC
  exact fun H locs ls hP hD hS hl => lv_icmp_lt hx hb hd ht (fun h => kt h H locs ls hP hD hS hl) (fun h => kf h H locs ls hP hD hS hl)
theorem z_if_ge (hC : zCtx l X cc own nL lev bud Z) {x : Int32} {off : Int} (tgt : Nat) (hd : decode cc pc = .ok (.ifCond .ge off, 3)) (ht : (pc : Int) + off = (tgt : Int)) (kt : 0 ≤ x → Z w G tgt lv st) (kf : ¬ 0 ≤ x → Z w G (pc + 3) lv st) : Z w G pc lv (.int x :: st) := by
  obtain ⟨p, e, R, s, m, args, below, meth, c, c0, s0, Q, A, H0, rfl, hx, hb, hml, hown, hts, hSt, hA, hl1, hl2, hl3, hl4⟩ := hC
  exact fun H locs ls hP hD hS hl => lv_if_ge hx hb hd ht (fun h => kt h H locs ls hP hD hS hl) (fun h => kf h H locs ls hP hD hS hl)
theorem z_icmp_ge (hC : zCtx l X cc own nL lev bud Z) {x y : Int32} {off : Int} (tgt : Nat) (hd : decode cc pc = .ok (.if_icmp .ge off, 3)) (ht : (pc : Int) + off = (tgt : Int)) (kt : y ≤ x → Z w G tgt lv st) (kf : ¬ y ≤ x → Z w G (pc + 3) lv st) : Z w G pc lv (.int y :: .int x :: st) := by
  obtain ⟨p, e, R, s, m, args, below, meth, c, c0, s0, Q, A, H0, rfl, hx, hb, hml, hown, hts, hSt, hA, hl1, hl2, hl3, hl4⟩ := hC
  exact fun H locs ls hP hD hS hl => lv_icmp_ge hx hb hd ht (fun h => kt h H locs ls hP hD hS hl) (fun h => kf h H locs ls hP hD hS hl)
theorem z_if_gt (hC : zCtx l X cc own nL lev bud Z) {x : Int32} {off : Int} (tgt : Nat) (hd : decode cc pc = .ok (.ifCond .gt off, 3)) (ht : (pc : Int) + off = (tgt : Int)) (kt : 0 < x → Z w G tgt lv st) (kf : ¬ 0 < x → Z w G (pc + 3) lv st) : Z w G pc lv (.int x :: st) := by
  obtain ⟨p, e, R, s, m, args, below, meth, c, c0, s0, Q, A, H0, rfl, hx, hb, hml, hown, hts, hSt, hA, hl1, hl2, hl3, hl4⟩ := hC
  exact fun H locs ls hP hD hS hl => lv_if_gt hx hb hd ht (fun h => kt h H locs ls hP hD hS hl) (fun h => kf h H locs ls hP hD hS hl)
theorem z_icmp_gt (hC : zCtx l X cc own nL lev bud Z) {x y : Int32} {off : Int} (tgt : Nat) (hd : decode cc pc = .ok (.if_icmp .gt off, 3)) (ht : (pc : Int) + off = (tgt : Int)) (kt : y < x → Z w G tgt lv st) (kf : ¬ y < x → Z w G (pc + 3) lv st) : Z w G pc lv (.int y :: .int x :: st) := by
  obtain ⟨p, e, R, s, m, args, below, meth, c, c0, s0, Q, A, H0, rfl, hx, hb, hml, hown, hts, hSt, hA, hl1, hl2, hl3, hl4⟩ := hC
  exact fun H locs ls hP hD hS hl => lv_icmp_gt hx hb hd ht (fun h => kt h H locs ls hP hD hS hl) (fun h => kf h H locs ls hP hD hS hl)
theorem z_if_le (hC : zCtx l X cc own nL lev bud Z) {x : Int32} {off : Int} (tgt : Nat) (hd : decode cc pc = .ok (.ifCond .le off, 3)) (ht : (pc : Int) + off = (tgt : Int)) (kt : x ≤ 0 → Z w G tgt lv st) (kf : ¬ x ≤ 0 → Z w G (pc + 3) lv st) : Z w G pc lv (.int x :: st) := by
  obtain ⟨p, e, R, s, m, args, below, meth, c, c0, s0, Q, A, H0, rfl, hx, hb, hml, hown, hts, hSt, hA, hl1, hl2, hl3, hl4⟩ := hC
  exact fun H locs ls hP hD hS hl => lv_if_le hx hb hd ht (fun h => kt h H locs ls hP hD hS hl) (fun h => kf h H locs ls hP hD hS hl)
theorem z_icmp_le (hC : zCtx l X cc own nL lev bud Z) {x y : Int32} {off : Int} (tgt : Nat) (hd : decode cc pc = .ok (.if_icmp .le off, 3)) (ht : (pc : Int) + off = (tgt : Int)) (kt : x ≤ y → Z w G tgt lv st) (kf : ¬ x ≤ y → Z w G (pc + 3) lv st) : Z w G pc lv (.int y :: .int x :: st) := by
  obtain ⟨p, e, R, s, m, args, below, meth, c, c0, s0, Q, A, H0, rfl, hx, hb, hml, hown, hts, hSt, hA, hl1, hl2, hl3, hl4⟩ := hC
  exact fun H locs ls hP hD hS hl => lv_icmp_le hx hb hd ht (fun h => kt h H locs ls hP hD hS hl) (fun h => kf h H locs ls hP hD hS hl)
theorem z_ifnull (hC : zCtx l X cc own nL lev bud Z) {x : Nat} {off : Int} (hd : decode cc pc = .ok (.ifnull off, 3)) (k : Z w G (pc + 3) lv st) : Z w G pc lv (.ref x :: st) := by
  obtain ⟨p, e, R, s, m, args, below, meth, c, c0, s0, Q, A, H0, rfl, hx, hb, hml, hown, hts, hSt, hA, hl1, hl2, hl3, hl4⟩ := hC
  exact fun H locs ls hP hD hS hl => lv_ifnull hx hb hd (k H locs ls hP hD hS hl)
theorem z_ifnonnullN (hC : zCtx l X cc own nL lev bud Z) {off : Int} (hd : decode cc pc = .ok (.ifnonnull off, 3)) (k : Z w G (pc + 3) lv st) : Z w G pc lv (.null :: st) := by
  obtain ⟨p, e, R, s, m, args, below, meth, c, c0, s0, Q, A, H0, rfl, hx, hb, hml, hown, hts, hSt, hA, hl1, hl2, hl3, hl4⟩ := hC
  exact fun H locs ls hP hD hS hl => lv_ifnonnullN hx hb hd (k H locs ls hP hD hS hl)
theorem z_ifnonnull (hC : zCtx l X cc own nL lev bud Z) {x : Nat} {off : Int} (tgt : Nat) (hd : decode cc pc = .ok (.ifnonnull off, 3)) (ht : (pc : Int) + off = (tgt : Int)) (k : Z w G tgt lv st) : Z w G pc lv (.ref x :: st) := by
  obtain ⟨p, e, R, s, m, args, below, meth, c, c0, s0, Q, A, H0, rfl, hx, hb, hml, hown, hts, hSt, hA, hl1, hl2, hl3, hl4⟩ := hC
  exact fun H locs ls hP hD hS hl => lv_ifnonnull hx hb hd ht (k H locs ls hP hD hS hl)
theorem z_ifnullN (hC : zCtx l X cc own nL lev bud Z) {off : Int} (tgt : Nat) (hd : decode cc pc = .ok (.ifnull off, 3)) (ht : (pc : Int) + off = (tgt : Int)) (k : Z w G tgt lv st) : Z w G pc lv (.null :: st) := by
  obtain ⟨p, e, R, s, m, args, below, meth, c, c0, s0, Q, A, H0, rfl, hx, hb, hml, hown, hts, hSt, hA, hl1, hl2, hl3, hl4⟩ := hC
  exact fun H locs ls hP hD hS hl => lv_ifnullN hx hb hd ht (k H locs ls hP hD hS hl)
theorem z_tabOut (hC : zCtx l X cc own nL lev bud Z) {dflt lo hi : Int} {offs : Array Int} {len : Nat} {x : Int32} (tgt : Nat) (hd : decode cc pc = .ok (.tableswitch dflt lo hi offs, len)) (h : x.toInt < lo ∨ hi < x.toInt) (ht : (pc : Int) + dflt = (tgt : Int)) (k : Z w G tgt lv st) : Z w G pc lv (.int x :: st) := by
  obtain ⟨p, e, R, s, m, args, below, meth, c, c0, s0, Q, A, H0, rfl, hx, hb, hml, hown, hts, hSt, hA, hl1, hl2, hl3, hl4⟩ := hC
  exact fun H locs ls hP hD hS hl => lv_tableOut hx hb hd h ht (k H locs ls hP hD hS hl)
theorem z_tabIn (hC : zCtx l X cc own nL lev bud Z) {dflt lo hi : Int} {offs : Array Int} {len : Nat} {x : Int32} {off : Int} (tgt : Nat) (hd : decode cc pc = .ok (.tableswitch dflt lo hi offs, len)) (h1 : ¬ x.toInt < lo) (h2 : ¬ hi < x.toInt) (ho : offs[(x.toInt - lo).toNat]? = some off) (ht : (pc : Int) + off = (tgt : Int)) (k : Z w G tgt lv st) : Z w G pc lv (.int x :: st) := by
  obtain ⟨p, e, R, s, m, args, below, meth, c, c0, s0, Q, A, H0, rfl, hx, hb, hml, hown, hts, hSt, hA, hl1, hl2, hl3, hl4⟩ := hC
  exact fun H locs ls hP hD hS hl => lv_tableIn hx hb hd h1 h2 ho ht (k H locs ls hP hD hS hl)
theorem z_look (hC : zCtx l X cc own nL lev bud Z) {dflt : Int} {ps : Array (Int × Int)} {len : Nat} {x : Int32} {off : Int} (tgt : Nat) (hd : decode cc pc = .ok (.lookupswitch dflt ps, len)) (hp : (ps.toList.zip (ps.toList.drop 1)).all (fun (a, next) => a.1 < next.1) = true) (ho : Op.lookupswitch.offset ps.toList dflt x.toInt = off) (ht : (pc : Int) + off = (tgt : Int)) (k : Z w G tgt lv st) : Z w G pc lv (.int x :: st) := by
  obtain ⟨p, e, R, s, m, args, below, meth, c, c0, s0, Q, A, H0, rfl, hx, hb, hml, hown, hts, hSt, hA, hl1, hl2, hl3, hl4⟩ := hC
  exact fun H locs ls hP hD hS hl => lv_lookup hx hb hd hp ho ht (k H locs ls hP hD hS hl)
theorem z_ldcw (hC : zCtx l X cc own nL lev bud Z) {idx : Nat} {v : Int32} (hc : Cond.constant own idx v ∈ zall) (hd : decode cc pc = .ok (.ldc_w idx, 3)) (k : Z w G (pc + 3) lv (.int v :: st)) : Z w G pc lv st := by
  obtain ⟨p, e, R, s, m, args, below, meth, c, c0, s0, Q, A, H0, rfl, hx, hb, hml, hown, hts, hSt, hA, hl1, hl2, hl3, hl4⟩ := hC
  exact fun H locs ls hP hD hS hl => lv_ldcw hx hb hown (hts _ hc) hd (k H locs ls hP hD hS hl)
theorem z_ldc2 (hC : zCtx l X cc own nL lev bud Z) {idx : Nat} {v : Int64} (hc : Cond.constantLong own idx v ∈ zall) (hd : decode cc pc = .ok (.ldc2_w idx, 3)) (k : Z w G (pc + 3) lv (.long v :: st)) : Z w G pc lv st := by
  obtain ⟨p, e, R, s, m, args, below, meth, c, c0, s0, Q, A, H0, rfl, hx, hb, hml, hown, hts, hSt, hA, hl1, hl2, hl3, hl4⟩ := hC
  exact fun H locs ls hP hD hS hl => lv_ldc2 hx hb hown (hts _ hc) hd (k H locs ls hP hD hS hl)
theorem z_get (hC : zCtx l X cc own nL lev bud Z) {k i ci f idx N : Nat} {C : String} {T : u_T} {fs : List Value} {v : Value} (hm : (k, i) ∈ zix G) (hct : z_ct X G k i = .inr (ci, fs)) (hc : zcl[ci]? = some (C, T, N)) (hin : ∀ w ∈ u_ws C T N, w ∈ zall) (hf : f < N) (hlk : Cond.fieldLink own idx (T f).1 (T f).2.1 (T f).2.2.1 ∈ zall) (hv : fs[f]? = some v) (hd : decode cc pc = .ok (.getfield idx, 3)) (kk : Z w G (pc + 3) lv (v :: st)) : Z w G pc lv (.ref (za G k i) :: st) := by
  obtain ⟨p, e, R, s, m, args, below, meth, c, c0, s0, Q, A, H0, rfl, hx, hb, hml, hown, hts, hSt, hA, hl1, hl2, hl3, hl4⟩ := hC
  intro H locs ls hP hD hS hl
  obtain ⟨q0, -, hq⟩ := z_pl (X := X) hm
  rw [hct] at hq
  exact va_get hx hb hts hin hown hSt.1 hP q0 hq hc f hf (hts _ hlk) (fun _ h => h) hv hd (kk H locs ls hP hD hS hl)
theorem z_getN (hC : zCtx l X cc own nL lev bud Z) {k i ci f idx N : Nat} {C : String} {T : u_T} {fs : List Value} {v : Value} {host : String} (hm : (k, i) ∈ zix G) (hct : z_ct X G k i = .inr (ci, fs)) (hc : zcl[ci]? = some (C, T, N)) (hin : ∀ w ∈ u_ws C T N, w ∈ zall) (hf : f < N) (hlk : (own, idx, (T f).1, (T f).2.1, (T f).2.2.1, host) ∈ zNF) (hv : fs[f]? = some v) (hd : decode cc pc = .ok (.getfield idx, 3)) (kk : Z w G (pc + 3) lv (v :: st)) : Z w G pc lv (.ref (za G k i) :: st) := by
  obtain ⟨p, e, R, s, m, args, below, meth, c, c0, s0, Q, A, H0, rfl, hx, hb, hml, hown, hts, hSt, hA, hl1, hl2, hl3, hl4⟩ := hC
  intro H locs ls hP hD hS hl
  obtain ⟨q0, -, hq⟩ := z_pl (X := X) hm
  rw [hct] at hq
  exact va_getN hx hb hts hin hown hSt.1 hP q0 hq hc f hf (va_Nw.use rfl (hSt.2.1 _ hlk)) (fun _ h => h) hv hd (kk H locs ls hP hD hS hl)
theorem z_put (hC : zCtx l X cc own nL lev bud Z) {k i ci f idx N : Nat} {C : String} {T : u_T} {fs : List Value} {v : Value} {G2 : zG} {ty0 : Nat → FieldType} {ty : FieldType} (hm : (k, i) ∈ zix G) (hct : z_ct X G k i = .inr (ci, fs)) (hc : zcl[ci]? = some (C, T, N)) (hin : ∀ w ∈ u_ws C T N, w ∈ zall) (hty : ∀ k, k < N → parseFieldDescriptor (T k).2.2.1 = some (ty0 k)) (hnm : ∀ a, a < N → ∀ b, b < N → a ≠ b → (T a).2.1 ≠ (T b).2.1) (hf : f < N) (hlk : Cond.fieldLink own idx (T f).1 (T f).2.1 (T f).2.2.1 ∈ zall) (hfin : (T f).2.2.2 = false) (hpd : parseFieldDescriptor (T f).2.2.1 = some ty) (hn : narrow ty v = v) (hfit : fits ty v = true) (hlen : f < fs.length) (hix : zix G2 = zix G) (had : za G2 = za G) (he : z_ct X G2 k i = .inr (ci, fs.set f v)) (ho : ∀ k' i', (k', i') ∈ zix G → ¬ (k' = k ∧ i' = i) → z_ct X G2 k' i' = z_ct X G k' i') (hd : decode cc pc = .ok (.putfield idx, 3)) (kk : Z w G2 (pc + 3) lv st) : Z w G pc lv (v :: .ref (za G k i) :: st) := by
  obtain ⟨p, e, R, s, m, args, below, meth, c, c0, s0, Q, A, H0, rfl, hx, hb, hml, hown, hts, hSt, hA, hl1, hl2, hl3, hl4⟩ := hC
  intro H locs ls hP hD hS hl
  obtain ⟨q0, hq0, hq⟩ := z_pl (X := X) hm
  rw [hct] at hq
  have hset := z_set hD hq0 hix had he ho
  exact va_put hx hb hts hin ty0 hty hnm hown hSt.1 hP hD hS q0 hq hc f hf (hts _ hlk) (fun _ h => h) hfin hpd hn hfit hlen hd (fun H1 locs1 hP1 hD1 hS1 => kk H1 locs1 ls (hset ▸ hP1) (hset ▸ hD1) hS1 hl)
theorem z_putN (hC : zCtx l X cc own nL lev bud Z) {k i ci f idx N : Nat} {C : String} {T : u_T} {fs : List Value} {v : Value} {G2 : zG} {ty0 : Nat → FieldType} {ty : FieldType} {host : String} (hm : (k, i) ∈ zix G) (hct : z_ct X G k i = .inr (ci, fs)) (hc : zcl[ci]? = some (C, T, N)) (hin : ∀ w ∈ u_ws C T N, w ∈ zall) (hty : ∀ k, k < N → parseFieldDescriptor (T k).2.2.1 = some (ty0 k)) (hnm : ∀ a, a < N → ∀ b, b < N → a ≠ b → (T a).2.1 ≠ (T b).2.1) (hf : f < N) (hlk : (own, idx, (T f).1, (T f).2.1, (T f).2.2.1, host) ∈ zNF) (hfin : (T f).2.2.2 = false) (hpd : parseFieldDescriptor (T f).2.2.1 = some ty) (hn : narrow ty v = v) (hfit : fits ty v = true) (hlen : f < fs.length) (hix : zix G2 = zix G) (had : za G2 = za G) (he : z_ct X G2 k i = .inr (ci, fs.set f v)) (ho : ∀ k' i', (k', i') ∈ zix G → ¬ (k' = k ∧ i' = i) → z_ct X G2 k' i' = z_ct X G k' i') (hd : decode cc pc = .ok (.putfield idx, 3)) (kk : Z w G2 (pc + 3) lv st) : Z w G pc lv (v :: .ref (za G k i) :: st) := by
  obtain ⟨p, e, R, s, m, args, below, meth, c, c0, s0, Q, A, H0, rfl, hx, hb, hml, hown, hts, hSt, hA, hl1, hl2, hl3, hl4⟩ := hC
  intro H locs ls hP hD hS hl
  obtain ⟨q0, hq0, hq⟩ := z_pl (X := X) hm
  rw [hct] at hq
  have hset := z_set hD hq0 hix had he ho
  exact va_putN hx hb hts hin ty0 hty hnm hown hSt.1 hP hD hS q0 hq hc f hf (va_Nw.use rfl (hSt.2.1 _ hlk)) (fun _ h => h) hfin hpd hn hfit hlen hd (fun H1 locs1 hP1 hD1 hS1 => kk H1 locs1 ls (hset ▸ hP1) (hset ▸ hD1) hS1 hl)
theorem z_iald (hC : zCtx l X cc own nL lev bud Z) {k i n : Nat} {f : Nat → Int32} (hm : (k, i) ∈ zix G) (hct : z_ct X G k i = .inl (X.2 0, n, .inl f)) {j : Nat} (hj : j < n) (hn : n < 2 ^ 31) (hd : decode cc pc = .ok (.iaload, 1)) (kk : Z w G (pc + 1) lv (.int (f j) :: st)) : Z w G pc lv (.int (nI j) :: .ref (za G k i) :: st) := by
  obtain ⟨p, e, R, s, m, args, below, meth, c, c0, s0, Q, A, H0, rfl, hx, hb, hml, hown, hts, hSt, hA, hl1, hl2, hl3, hl4⟩ := hC
  intro H locs ls hP hD hS hl
  obtain ⟨q0, -, hq⟩ := z_pl (X := X) hm
  rw [hct] at hq
  refine va_iald hx hb hSt.1 hP q0 0 hq rfl (vp_in_nI hj hn) hd ?_
  rw [nI_clamp (by omega)]
  exact kk H locs ls hP hD hS hl
theorem z_zald (hC : zCtx l X cc own nL lev bud Z) {k i n : Nat} {f : Nat → Int32} (hm : (k, i) ∈ zix G) (hct : z_ct X G k i = .inl (X.2 1, n, .inl f)) {j : Nat} (hj : j < n) (hn : n < 2 ^ 31) (hd : decode cc pc = .ok (.baload, 1)) (kk : Z w G (pc + 1) lv (.int (f j) :: st)) : Z w G pc lv (.int (nI j) :: .ref (za G k i) :: st) := by
  obtain ⟨p, e, R, s, m, args, below, meth, c, c0, s0, Q, A, H0, rfl, hx, hb, hml, hown, hts, hSt, hA, hl1, hl2, hl3, hl4⟩ := hC
  intro H locs ls hP hD hS hl
  obtain ⟨q0, -, hq⟩ := z_pl (X := X) hm
  rw [hct] at hq
  refine va_zald hx hb hSt.1 hP q0 1 hq rfl (vp_in_nI hj hn) hd ?_
  rw [nI_clamp (by omega)]
  exact kk H locs ls hP hD hS hl
theorem z_iast (hC : zCtx l X cc own nL lev bud Z) {k i n : Nat} {f : Nat → Int32} (hm : (k, i) ∈ zix G) (hct : z_ct X G k i = .inl (X.2 0, n, .inl f)) {j : Nat} {x : Int32} (hj : j < n) (hn : n < 2 ^ 31) (hcs : ∀ f2 : Nat → Int32, z_ct X (zuA G k i f2) k i = .inl (X.2 0, n, .inl f2)) (hd : decode cc pc = .ok (.iastore, 1)) (kk : Z w (zuA G k i (upd f j (x))) (pc + 1) lv st) : Z w G pc lv (.int x :: .int (nI j) :: .ref (za G k i) :: st) := by
  obtain ⟨p, e, R, s, m, args, below, meth, c, c0, s0, Q, A, H0, rfl, hx, hb, hml, hown, hts, hSt, hA, hl1, hl2, hl3, hl4⟩ := hC
  intro H locs ls hP hD hS hl
  obtain ⟨q0, hq0, hq⟩ := z_pl (X := X) hm
  rw [hct] at hq
  refine va_iast hx hb hSt.1 hP hD hS q0 0 hq rfl (vp_in_nI hj hn) hd (fun H1 locs1 hP1 hD1 hS1 => ?_)
  rw [nI_clamp (by omega)] at hP1 hD1
  have hset := z_set (G' := zuA G k i (upd f j (x))) hD hq0 rfl rfl (hcs _) (fun k1 i1 _ => z_ct_uA X G k i _ k1 i1)
  exact kk H1 locs1 ls (hset ▸ hP1) (hset ▸ hD1) hS1 hl
theorem z_zast (hC : zCtx l X cc own nL lev bud Z) {k i n : Nat} {f : Nat → Int32} (hm : (k, i) ∈ zix G) (hct : z_ct X G k i = .inl (X.2 1, n, .inl f)) {j : Nat} {x : Int32} (hj : j < n) (hn : n < 2 ^ 31) (hcs : ∀ f2 : Nat → Int32, z_ct X (zuA G k i f2) k i = .inl (X.2 1, n, .inl f2)) (hd : decode cc pc = .ok (.bastore, 1)) (kk : Z w (zuA G k i (upd f j (vp_nar .boolean x))) (pc + 1) lv st) : Z w G pc lv (.int x :: .int (nI j) :: .ref (za G k i) :: st) := by
  obtain ⟨p, e, R, s, m, args, below, meth, c, c0, s0, Q, A, H0, rfl, hx, hb, hml, hown, hts, hSt, hA, hl1, hl2, hl3, hl4⟩ := hC
  intro H locs ls hP hD hS hl
  obtain ⟨q0, hq0, hq⟩ := z_pl (X := X) hm
  rw [hct] at hq
  refine va_zast hx hb hSt.1 hP hD hS q0 1 hq rfl (vp_in_nI hj hn) hd (fun H1 locs1 hP1 hD1 hS1 => ?_)
  rw [nI_clamp (by omega)] at hP1 hD1
  have hset := z_set (G' := zuA G k i (upd f j (vp_nar .boolean x))) hD hq0 rfl rfl (hcs _) (fun k1 i1 _ => z_ct_uA X G k i _ k1 i1)
  exact kk H1 locs1 ls (hset ▸ hP1) (hset ▸ hD1) hS1 hl
theorem z_aald (hC : zCtx l X cc own nL lev bud Z) {k i n t0 : Nat} {C : String} {f : Nat → Option Nat} {a : Nat} (hm : (k, i) ∈ zix G) (hct : z_ct X G k i = .inl (X.2 t0, n, .inr (.inr (.inr (.inr f))))) (ht : (z_tys X)[t0]? = some (X.2 t0, .object C)) {j : Nat} (hj : j < n) (hn : n < 2 ^ 31) (hf : f j = some a) (hd : decode cc pc = .ok (.aaload, 1)) (kk : Z w G (pc + 1) lv (.ref a :: st)) : Z w G pc lv (.int (nI j) :: .ref (za G k i) :: st) := by
  obtain ⟨p, e, R, s, m, args, below, meth, c, c0, s0, Q, A, H0, rfl, hx, hb, hml, hown, hts, hSt, hA, hl1, hl2, hl3, hl4⟩ := hC
  intro H locs ls hP hD hS hl
  obtain ⟨q0, -, hq⟩ := z_pl (X := X) hm
  rw [hct] at hq
  refine va_aldq hx hb hSt.1 hP q0 t0 hq ht (vp_in_nI hj hn) hd ?_
  rw [nI_clamp (by omega), hf]
  exact kk H locs ls hP hD hS hl
theorem z_alen (hC : zCtx l X cc own nL lev bud Z) {k i n t0 : Nat} {x : vp_A} {ty : FieldType} (hm : (k, i) ∈ zix G) (hct : z_ct X G k i = .inl (X.2 t0, x)) (ht : (z_tys X)[t0]? = some (X.2 t0, ty)) (hn : x.1 = n) (hd : decode cc pc = .ok (.arraylength, 1)) (kk : Z w G (pc + 1) lv (.int (nI n) :: st)) : Z w G pc lv (.ref (za G k i) :: st) := by
  obtain ⟨p, e, R, s, m, args, below, meth, c, c0, s0, Q, A, H0, rfl, hx, hb, hml, hown, hts, hSt, hA, hl1, hl2, hl3, hl4⟩ := hC
  intro H locs ls hP hD hS hl
  obtain ⟨q0, -, hq⟩ := z_pl (X := X) hm
  rw [hct] at hq
  exact va_alen hx hb hSt.1 hP q0 t0 hq ht (by rw [hn]; rfl) hd (kk H locs ls hP hD hS hl)
set_option maxHeartbeats 1000000 in
theorem z_callV (hC : zCtx l X cc own nL lev bud Z) {y : MethodName} {b : ByteArray} {nLc lev2 bud2 n idx : Nat} {ret : Option FieldType} {As : List Value} {P : Option Value → zG → Prop} {r : Nat} (hM : zC l y b nLc ret lev2 bud2 X (.ref r :: As) G P) (hm : zM y b nLc ret n) (hlv : lev2 + 1 ≤ lev) (hnl : nLc ≤ 21) (hbd : w + bud2 ≤ bud) (hst : (st.map fun v => v.category).sum ≤ 8) (hlen : As.length = n) (hi : zIV y) (ho : zO X G r y.cls) (hk : Cond.methodLink own idx y ∈ zall) (hd : decode cc pc = .ok (.invokevirtual idx, 3)) (kk : ∀ (v : Option Value) (G' : zG), P v G' → Z (w + bud2) G' (pc + 3) lv (v.toList ++ st)) : Z w G pc lv (As.reverse ++ .ref r :: st) := by
  obtain ⟨p, e, R, s, m, args, below, meth, c, c0, s0, Q, A, H0, rfl, hx, hb, hml, hown, hts, hSt, hA, hl1, hl2, hl3, hl4⟩ := hC
  intro H locs ls hP hD hS hl
  have hsub : ∀ q, va_A (z_ls X G) H.size q → A q := by
    rintro q (⟨k, e, hk⟩ | hq)
    · exact hD.2 k _ hk
    · exact hA q (Nat.le_trans hS.1 hq)
  have hG : GoodIn zall (Cond.code y b nLc ret :: zall) := by
    intro x hx
    rcases List.mem_cons.mp hx with rfl | hx
    · exact ⟨hm.1, zall_good hm.1⟩
    · exact ⟨hx, zall_good hx⟩
  have hR : (zRm lev2 bud2).frames + 1 ≤ R.frames ∧ 8 + (nLc + 11) + (zRm lev2 bud2).locals ≤ R.locals := by
    constructor <;> simp only [zRm] <;> omega
  have hbl : FrameBlind (zPre X (.ref r :: As) G H.size) := fun a U g mk h => ⟨h.1, h.2.1, h.2.2.1, h.2.2.2.1, zS.same (u := U) (U := U.calling g mk a) rfl h.2.2.2.2⟩
  have hpr : ∀ U : State, U.heap = H → s.WarmedH U.vm → zPre X (.ref r :: As) G H.size ((.ref r :: As)).toArray U := fun U hU hW => ⟨rfl, by rw [hU], by rw [hU]; exact hP, hD.weaken (fun _ _ _ _ => trivial), hSt.warm hW⟩
  obtain ⟨k0, i0, ci, fs, q, hm0, rfl, hct, hc, hqc⟩ := ho
  obtain ⟨q0, -, hq⟩ := z_pl (X := X) hm0
  rw [hct] at hq
  have cw : CallW R s args own y.cls idx y b nLc ret (Cond.code y b nLc ret :: zall) (zRm lev2 bud2) bud2 (4 * bud2) n := ⟨callB_of n hts hG rfl rfl rfl (hts _ hi.2.2) (hts _ hk) hm.2 hR, hts _ hi.1, hts _ hi.2.1⟩
  refine zj_after (va_runV ⟨hx, hb, hml, hown, hts⟩ (hM H.size) cw ⟨hbl, (by rw [← hqc]; exact va_recv hSt.1 hP hc hq), hpr⟩ rfl hlen hl.1 rfl (lv_room hst) hd ⟨by omega, by omega⟩) hS hsub hsub (fun v G' H1 locs1 hp hP1 hD1 hS1 => ?_)
  have h5 := kk v G' hp H1 locs1 ls hP1 hD1 hS1 hl
  rw [show c0 + w + bud2 = c0 + (w + bud2) by omega, show s0 + 4 * w + 4 * bud2 = s0 + 4 * (w + bud2) by omega]
  exact h5
set_option maxHeartbeats 1000000 in
theorem z_callVN (hC : zCtx l X cc own nL lev bud Z) {y : MethodName} {b : ByteArray} {nLc lev2 bud2 n idx : Nat} {ret : Option FieldType} {As : List Value} {P : Option Value → zG → Prop} {r : Nat} {host : String} (hM : zC l y b nLc ret lev2 bud2 X (.ref r :: As) G P) (hm : zM y b nLc ret n) (hlv : lev2 + 1 ≤ lev) (hnl : nLc ≤ 21) (hbd : w + bud2 ≤ bud) (hst : (st.map fun v => v.category).sum ≤ 8) (hlen : As.length = n) (hi : zIV y) (ho : zO X G r y.cls) (hk : (own, idx, y, host) ∈ zNM) (hd : decode cc pc = .ok (.invokevirtual idx, 3)) (kk : ∀ (v : Option Value) (G' : zG), P v G' → Z (w + bud2) G' (pc + 3) lv (v.toList ++ st)) : Z w G pc lv (As.reverse ++ .ref r :: st) := by
  obtain ⟨p, e, R, s, m, args, below, meth, c, c0, s0, Q, A, H0, rfl, hx, hb, hml, hown, hts, hSt, hA, hl1, hl2, hl3, hl4⟩ := hC
  intro H locs ls hP hD hS hl
  have hsub : ∀ q, va_A (z_ls X G) H.size q → A q := by
    rintro q (⟨k, e, hk⟩ | hq)
    · exact hD.2 k _ hk
    · exact hA q (Nat.le_trans hS.1 hq)
  have hG : GoodIn zall (Cond.code y b nLc ret :: zall) := by
    intro x hx
    rcases List.mem_cons.mp hx with rfl | hx
    · exact ⟨hm.1, zall_good hm.1⟩
    · exact ⟨hx, zall_good hx⟩
  have hR : (zRm lev2 bud2).frames + 1 ≤ R.frames ∧ 8 + (nLc + 11) + (zRm lev2 bud2).locals ≤ R.locals := by
    constructor <;> simp only [zRm] <;> omega
  have hbl : FrameBlind (zPre X (.ref r :: As) G H.size) := fun a U g mk h => ⟨h.1, h.2.1, h.2.2.1, h.2.2.2.1, zS.same (u := U) (U := U.calling g mk a) rfl h.2.2.2.2⟩
  have hpr : ∀ U : State, U.heap = H → s.WarmedH U.vm → zPre X (.ref r :: As) G H.size ((.ref r :: As)).toArray U := fun U hU hW => ⟨rfl, by rw [hU], by rw [hU]; exact hP, hD.weaken (fun _ _ _ _ => trivial), hSt.warm hW⟩
  obtain ⟨k0, i0, ci, fs, q, hm0, rfl, hct, hc, hqc⟩ := ho
  obtain ⟨q0, -, hq⟩ := z_pl (X := X) hm0
  rw [hct] at hq
  have cw := va_cnB (args := args) (own := own) (host := host) (index := idx) (rm := zRm lev2 bud2) (mc := bud2) (ms := 4 * bud2) n hts hG rfl rfl rfl (hSt.2.2 _ hk) (hts _ hi.2.2) hm.2 hR
  refine zj_after (va_runVN ⟨hx, hb, hml, hown, hts⟩ (hM H.size) ⟨cw, hts _ hi.1, hts _ hi.2.1⟩ ⟨hbl, (by rw [← hqc]; exact va_recv hSt.1 hP hc hq), hpr⟩ rfl hlen hl.1 rfl (lv_room hst) hd ⟨by omega, by omega⟩) hS hsub hsub (fun v G' H1 locs1 hp hP1 hD1 hS1 => ?_)
  have h5 := kk v G' hp H1 locs1 ls hP1 hD1 hS1 hl
  rw [show c0 + w + bud2 = c0 + (w + bud2) by omega, show s0 + 4 * w + 4 * bud2 = s0 + 4 * (w + bud2) by omega]
  exact h5
set_option maxHeartbeats 1000000 in
theorem z_callS (hC : zCtx l X cc own nL lev bud Z) {y : MethodName} {b : ByteArray} {nLc lev2 bud2 n idx : Nat} {ret : Option FieldType} {As : List Value} {P : Option Value → zG → Prop} (hM : zC l y b nLc ret lev2 bud2 X As G P) (hm : zM y b nLc ret n) (hlv : lev2 + 1 ≤ lev) (hnl : nLc ≤ 21) (hbd : w + bud2 ≤ bud) (hst : (st.map fun v => v.category).sum ≤ 8) (hlen : As.length = n) (hi : zIS y) (hk : Cond.methodLink own idx y ∈ zall) (hd : decode cc pc = .ok (.invokestatic idx, 3)) (kk : ∀ (v : Option Value) (G' : zG), P v G' → Z (w + bud2) G' (pc + 3) lv (v.toList ++ st)) : Z w G pc lv (As.reverse ++ st) := by
  obtain ⟨p, e, R, s, m, args, below, meth, c, c0, s0, Q, A, H0, rfl, hx, hb, hml, hown, hts, hSt, hA, hl1, hl2, hl3, hl4⟩ := hC
  intro H locs ls hP hD hS hl
  have hsub : ∀ q, va_A (z_ls X G) H.size q → A q := by
    rintro q (⟨k, e, hk⟩ | hq)
    · exact hD.2 k _ hk
    · exact hA q (Nat.le_trans hS.1 hq)
  have hG : GoodIn zall (Cond.code y b nLc ret :: zall) := by
    intro x hx
    rcases List.mem_cons.mp hx with rfl | hx
    · exact ⟨hm.1, zall_good hm.1⟩
    · exact ⟨hx, zall_good hx⟩
  have hR : (zRm lev2 bud2).frames + 1 ≤ R.frames ∧ 8 + (nLc + 11) + (zRm lev2 bud2).locals ≤ R.locals := by
    constructor <;> simp only [zRm] <;> omega
  have hbl : FrameBlind (zPre X As G H.size) := fun a U g mk h => ⟨h.1, h.2.1, h.2.2.1, h.2.2.2.1, zS.same (u := U) (U := U.calling g mk a) rfl h.2.2.2.2⟩
  have hpr : ∀ U : State, U.heap = H → s.WarmedH U.vm → zPre X As G H.size (As).toArray U := fun U hU hW => ⟨rfl, by rw [hU], by rw [hU]; exact hP, hD.weaken (fun _ _ _ _ => trivial), hSt.warm hW⟩
  have cw : CallB R s args own idx y b nLc ret (Cond.code y b nLc ret :: zall) (zRm lev2 bud2) bud2 (4 * bud2) n := callB_of n hts hG rfl rfl rfl (hts _ hi.2) (hts _ hk) hm.2 hR
  refine zj_after (va_runS ⟨hx, hb, hml, hown, hts⟩ (hM H.size) ⟨cw, hts _ hi.1⟩ ⟨hbl, hpr⟩ rfl hlen hl.1 rfl (lv_room hst) hd ⟨by omega, by omega⟩) hS hsub hsub (fun v G' H1 locs1 hp hP1 hD1 hS1 => ?_)
  have h5 := kk v G' hp H1 locs1 ls hP1 hD1 hS1 hl
  rw [show c0 + w + bud2 = c0 + (w + bud2) by omega, show s0 + 4 * w + 4 * bud2 = s0 + 4 * (w + bud2) by omega]
  exact h5
set_option maxHeartbeats 1000000 in
theorem z_callSN (hC : zCtx l X cc own nL lev bud Z) {y : MethodName} {b : ByteArray} {nLc lev2 bud2 n idx : Nat} {ret : Option FieldType} {As : List Value} {P : Option Value → zG → Prop} {host : String} (hM : zC l y b nLc ret lev2 bud2 X As G P) (hm : zM y b nLc ret n) (hlv : lev2 + 1 ≤ lev) (hnl : nLc ≤ 21) (hbd : w + bud2 ≤ bud) (hst : (st.map fun v => v.category).sum ≤ 8) (hlen : As.length = n) (hi : zIS y) (hk : (own, idx, y, host) ∈ zNM) (hd : decode cc pc = .ok (.invokestatic idx, 3)) (kk : ∀ (v : Option Value) (G' : zG), P v G' → Z (w + bud2) G' (pc + 3) lv (v.toList ++ st)) : Z w G pc lv (As.reverse ++ st) := by
  obtain ⟨p, e, R, s, m, args, below, meth, c, c0, s0, Q, A, H0, rfl, hx, hb, hml, hown, hts, hSt, hA, hl1, hl2, hl3, hl4⟩ := hC
  intro H locs ls hP hD hS hl
  have hsub : ∀ q, va_A (z_ls X G) H.size q → A q := by
    rintro q (⟨k, e, hk⟩ | hq)
    · exact hD.2 k _ hk
    · exact hA q (Nat.le_trans hS.1 hq)
  have hG : GoodIn zall (Cond.code y b nLc ret :: zall) := by
    intro x hx
    rcases List.mem_cons.mp hx with rfl | hx
    · exact ⟨hm.1, zall_good hm.1⟩
    · exact ⟨hx, zall_good hx⟩
  have hR : (zRm lev2 bud2).frames + 1 ≤ R.frames ∧ 8 + (nLc + 11) + (zRm lev2 bud2).locals ≤ R.locals := by
    constructor <;> simp only [zRm] <;> omega
  have hbl : FrameBlind (zPre X As G H.size) := fun a U g mk h => ⟨h.1, h.2.1, h.2.2.1, h.2.2.2.1, zS.same (u := U) (U := U.calling g mk a) rfl h.2.2.2.2⟩
  have hpr : ∀ U : State, U.heap = H → s.WarmedH U.vm → zPre X As G H.size (As).toArray U := fun U hU hW => ⟨rfl, by rw [hU], by rw [hU]; exact hP, hD.weaken (fun _ _ _ _ => trivial), hSt.warm hW⟩
  have cw := va_cnB (args := args) (own := own) (host := host) (index := idx) (rm := zRm lev2 bud2) (mc := bud2) (ms := 4 * bud2) n hts hG rfl rfl rfl (hSt.2.2 _ hk) (hts _ hi.2) hm.2 hR
  refine zj_after (va_runSN ⟨hx, hb, hml, hown, hts⟩ (hM H.size) ⟨cw, hts _ hi.1, trivial⟩ ⟨hbl, hpr⟩ rfl hlen hl.1 rfl (lv_room hst) hd ⟨by omega, by omega⟩) hS hsub hsub (fun v G' H1 locs1 hp hP1 hD1 hS1 => ?_)
  have h5 := kk v G' hp H1 locs1 ls hP1 hD1 hS1 hl
  rw [show c0 + w + bud2 = c0 + (w + bud2) by omega, show s0 + 4 * w + 4 * bud2 = s0 + 4 * (w + bud2) by omega]
  exact h5
def zPi (P : Int32 → zG → Prop) : Option Value → zG → Prop := fun v G => ∃ r, v = some (.int r) ∧ P r G
def zPa (P : Value → zG → Prop) : Option Value → zG → Prop := fun v G => ∃ r, v = some r ∧ P r G
def zPv (P : zG → Prop) : Option Value → zG → Prop := fun v G => v = none ∧ P G
def zPl (P : Int64 → zG → Prop) : Option Value → zG → Prop := fun v G => ∃ r, v = some (.long r) ∧ P r G
theorem z_cVi0 (hC : zCtx l X cc own nL lev bud Z) {y : MethodName} {b : ByteArray} {nLc lev2 bud2 idx : Nat} {ret : Option FieldType} {P : Int32 → zG → Prop} {r : Nat} (hM : zC l y b nLc ret lev2 bud2 X [.ref r] G (zPi P)) (hm : zM y b nLc ret 0) (hi : zIV y) (ho : zO X G r y.cls) (hk : Cond.methodLink own idx y ∈ zall) (hlv : lev2 + 1 ≤ lev) (hnl : nLc ≤ 21) (hbd : w + bud2 ≤ bud) (hst : (st.map fun v => v.category).sum ≤ 8) (hd : decode cc pc = .ok (.invokevirtual idx, 3)) (kk : ∀ (r2 : Int32) (G' : zG), P r2 G' → Z (w + bud2) G' (pc + 3) lv (.int r2 :: st)) : Z w G pc lv (.ref r :: st) :=
  z_callV hC (As := []) hM hm hlv hnl hbd hst rfl hi ho hk hd (by rintro _ G2 ⟨r2, rfl, h⟩; exact kk r2 G2 h)
theorem z_cVl0 (hC : zCtx l X cc own nL lev bud Z) {y : MethodName} {b : ByteArray} {nLc lev2 bud2 idx : Nat} {ret : Option FieldType} {P : Int64 → zG → Prop} {r : Nat} (hM : zC l y b nLc ret lev2 bud2 X [.ref r] G (zPl P)) (hm : zM y b nLc ret 0) (hi : zIV y) (ho : zO X G r y.cls) (hk : Cond.methodLink own idx y ∈ zall) (hlv : lev2 + 1 ≤ lev) (hnl : nLc ≤ 21) (hbd : w + bud2 ≤ bud) (hst : (st.map fun v => v.category).sum ≤ 8) (hd : decode cc pc = .ok (.invokevirtual idx, 3)) (kk : ∀ (r2 : Int64) (G' : zG), P r2 G' → Z (w + bud2) G' (pc + 3) lv (.long r2 :: st)) : Z w G pc lv (.ref r :: st) :=
  z_callV hC (As := []) hM hm hlv hnl hbd hst rfl hi ho hk hd (by rintro _ G2 ⟨r2, rfl, h⟩; exact kk r2 G2 h)
theorem z_cVi1 (hC : zCtx l X cc own nL lev bud Z) {y : MethodName} {b : ByteArray} {nLc lev2 bud2 idx : Nat} {ret : Option FieldType} {P : Int32 → zG → Prop} {r : Nat} {u0 : Value} (hM : zC l y b nLc ret lev2 bud2 X [.ref r, u0] G (zPi P)) (hm : zM y b nLc ret 1) (hi : zIV y) (ho : zO X G r y.cls) (hk : Cond.methodLink own idx y ∈ zall) (hlv : lev2 + 1 ≤ lev) (hnl : nLc ≤ 21) (hbd : w + bud2 ≤ bud) (hst : (st.map fun v => v.category).sum ≤ 8) (hd : decode cc pc = .ok (.invokevirtual idx, 3)) (kk : ∀ (r2 : Int32) (G' : zG), P r2 G' → Z (w + bud2) G' (pc + 3) lv (.int r2 :: st)) : Z w G pc lv (u0 :: .ref r :: st) :=
  z_callV hC (As := [u0]) hM hm hlv hnl hbd hst rfl hi ho hk hd (by rintro _ G2 ⟨r2, rfl, h⟩; exact kk r2 G2 h)
theorem z_cVa1 (hC : zCtx l X cc own nL lev bud Z) {y : MethodName} {b : ByteArray} {nLc lev2 bud2 idx : Nat} {ret : Option FieldType} {P : Value → zG → Prop} {r : Nat} {u0 : Value} (hM : zC l y b nLc ret lev2 bud2 X [.ref r, u0] G (zPa P)) (hm : zM y b nLc ret 1) (hi : zIV y) (ho : zO X G r y.cls) (hk : Cond.methodLink own idx y ∈ zall) (hlv : lev2 + 1 ≤ lev) (hnl : nLc ≤ 21) (hbd : w + bud2 ≤ bud) (hst : (st.map fun v => v.category).sum ≤ 8) (hd : decode cc pc = .ok (.invokevirtual idx, 3)) (kk : ∀ (r2 : Value) (G' : zG), P r2 G' → Z (w + bud2) G' (pc + 3) lv (r2 :: st)) : Z w G pc lv (u0 :: .ref r :: st) :=
  z_callV hC (As := [u0]) hM hm hlv hnl hbd hst rfl hi ho hk hd (by rintro _ G2 ⟨r2, rfl, h⟩; exact kk r2 G2 h)
theorem z_cVi2 (hC : zCtx l X cc own nL lev bud Z) {y : MethodName} {b : ByteArray} {nLc lev2 bud2 idx : Nat} {ret : Option FieldType} {P : Int32 → zG → Prop} {r : Nat} {u0 u1 : Value} (hM : zC l y b nLc ret lev2 bud2 X [.ref r, u0, u1] G (zPi P)) (hm : zM y b nLc ret 2) (hi : zIV y) (ho : zO X G r y.cls) (hk : Cond.methodLink own idx y ∈ zall) (hlv : lev2 + 1 ≤ lev) (hnl : nLc ≤ 21) (hbd : w + bud2 ≤ bud) (hst : (st.map fun v => v.category).sum ≤ 8) (hd : decode cc pc = .ok (.invokevirtual idx, 3)) (kk : ∀ (r2 : Int32) (G' : zG), P r2 G' → Z (w + bud2) G' (pc + 3) lv (.int r2 :: st)) : Z w G pc lv (u1 :: u0 :: .ref r :: st) :=
  z_callV hC (As := [u0, u1]) hM hm hlv hnl hbd hst rfl hi ho hk hd (by rintro _ G2 ⟨r2, rfl, h⟩; exact kk r2 G2 h)
theorem z_cVv2 (hC : zCtx l X cc own nL lev bud Z) {y : MethodName} {b : ByteArray} {nLc lev2 bud2 idx : Nat} {ret : Option FieldType} {P : zG → Prop} {r : Nat} {u0 u1 : Value} (hM : zC l y b nLc ret lev2 bud2 X [.ref r, u0, u1] G (zPv P)) (hm : zM y b nLc ret 2) (hi : zIV y) (ho : zO X G r y.cls) (hk : Cond.methodLink own idx y ∈ zall) (hlv : lev2 + 1 ≤ lev) (hnl : nLc ≤ 21) (hbd : w + bud2 ≤ bud) (hst : (st.map fun v => v.category).sum ≤ 8) (hd : decode cc pc = .ok (.invokevirtual idx, 3)) (kk : ∀ (G' : zG), P G' → Z (w + bud2) G' (pc + 3) lv (st)) : Z w G pc lv (u1 :: u0 :: .ref r :: st) :=
  z_callV hC (As := [u0, u1]) hM hm hlv hnl hbd hst rfl hi ho hk hd (by rintro _ G2 ⟨rfl, h⟩; exact kk G2 h)
theorem z_cVi3 (hC : zCtx l X cc own nL lev bud Z) {y : MethodName} {b : ByteArray} {nLc lev2 bud2 idx : Nat} {ret : Option FieldType} {P : Int32 → zG → Prop} {r : Nat} {u0 u1 u2 : Value} (hM : zC l y b nLc ret lev2 bud2 X [.ref r, u0, u1, u2] G (zPi P)) (hm : zM y b nLc ret 3) (hi : zIV y) (ho : zO X G r y.cls) (hk : Cond.methodLink own idx y ∈ zall) (hlv : lev2 + 1 ≤ lev) (hnl : nLc ≤ 21) (hbd : w + bud2 ≤ bud) (hst : (st.map fun v => v.category).sum ≤ 8) (hd : decode cc pc = .ok (.invokevirtual idx, 3)) (kk : ∀ (r2 : Int32) (G' : zG), P r2 G' → Z (w + bud2) G' (pc + 3) lv (.int r2 :: st)) : Z w G pc lv (u2 :: u1 :: u0 :: .ref r :: st) :=
  z_callV hC (As := [u0, u1, u2]) hM hm hlv hnl hbd hst rfl hi ho hk hd (by rintro _ G2 ⟨r2, rfl, h⟩; exact kk r2 G2 h)
theorem z_cVi4 (hC : zCtx l X cc own nL lev bud Z) {y : MethodName} {b : ByteArray} {nLc lev2 bud2 idx : Nat} {ret : Option FieldType} {P : Int32 → zG → Prop} {r : Nat} {u0 u1 u2 u3 : Value} (hM : zC l y b nLc ret lev2 bud2 X [.ref r, u0, u1, u2, u3] G (zPi P)) (hm : zM y b nLc ret 4) (hi : zIV y) (ho : zO X G r y.cls) (hk : Cond.methodLink own idx y ∈ zall) (hlv : lev2 + 1 ≤ lev) (hnl : nLc ≤ 21) (hbd : w + bud2 ≤ bud) (hst : (st.map fun v => v.category).sum ≤ 8) (hd : decode cc pc = .ok (.invokevirtual idx, 3)) (kk : ∀ (r2 : Int32) (G' : zG), P r2 G' → Z (w + bud2) G' (pc + 3) lv (.int r2 :: st)) : Z w G pc lv (u3 :: u2 :: u1 :: u0 :: .ref r :: st) :=
  z_callV hC (As := [u0, u1, u2, u3]) hM hm hlv hnl hbd hst rfl hi ho hk hd (by rintro _ G2 ⟨r2, rfl, h⟩; exact kk r2 G2 h)
theorem z_cVi5 (hC : zCtx l X cc own nL lev bud Z) {y : MethodName} {b : ByteArray} {nLc lev2 bud2 idx : Nat} {ret : Option FieldType} {P : Int32 → zG → Prop} {r : Nat} {u0 u1 u2 u3 u4 : Value} (hM : zC l y b nLc ret lev2 bud2 X [.ref r, u0, u1, u2, u3, u4] G (zPi P)) (hm : zM y b nLc ret 5) (hi : zIV y) (ho : zO X G r y.cls) (hk : Cond.methodLink own idx y ∈ zall) (hlv : lev2 + 1 ≤ lev) (hnl : nLc ≤ 21) (hbd : w + bud2 ≤ bud) (hst : (st.map fun v => v.category).sum ≤ 8) (hd : decode cc pc = .ok (.invokevirtual idx, 3)) (kk : ∀ (r2 : Int32) (G' : zG), P r2 G' → Z (w + bud2) G' (pc + 3) lv (.int r2 :: st)) : Z w G pc lv (u4 :: u3 :: u2 :: u1 :: u0 :: .ref r :: st) :=
  z_callV hC (As := [u0, u1, u2, u3, u4]) hM hm hlv hnl hbd hst rfl hi ho hk hd (by rintro _ G2 ⟨r2, rfl, h⟩; exact kk r2 G2 h)
theorem z_cVi6 (hC : zCtx l X cc own nL lev bud Z) {y : MethodName} {b : ByteArray} {nLc lev2 bud2 idx : Nat} {ret : Option FieldType} {P : Int32 → zG → Prop} {r : Nat} {u0 u1 u2 u3 u4 u5 : Value} (hM : zC l y b nLc ret lev2 bud2 X [.ref r, u0, u1, u2, u3, u4, u5] G (zPi P)) (hm : zM y b nLc ret 6) (hi : zIV y) (ho : zO X G r y.cls) (hk : Cond.methodLink own idx y ∈ zall) (hlv : lev2 + 1 ≤ lev) (hnl : nLc ≤ 21) (hbd : w + bud2 ≤ bud) (hst : (st.map fun v => v.category).sum ≤ 8) (hd : decode cc pc = .ok (.invokevirtual idx, 3)) (kk : ∀ (r2 : Int32) (G' : zG), P r2 G' → Z (w + bud2) G' (pc + 3) lv (.int r2 :: st)) : Z w G pc lv (u5 :: u4 :: u3 :: u2 :: u1 :: u0 :: .ref r :: st) :=
  z_callV hC (As := [u0, u1, u2, u3, u4, u5]) hM hm hlv hnl hbd hst rfl hi ho hk hd (by rintro _ G2 ⟨r2, rfl, h⟩; exact kk r2 G2 h)
theorem z_cVNi0 (hC : zCtx l X cc own nL lev bud Z) {y : MethodName} {b : ByteArray} {nLc lev2 bud2 idx : Nat} {ret : Option FieldType} {P : Int32 → zG → Prop} {r : Nat} {host : String} (hM : zC l y b nLc ret lev2 bud2 X [.ref r] G (zPi P)) (hm : zM y b nLc ret 0) (hi : zIV y) (ho : zO X G r y.cls) (hk : (own, idx, y, host) ∈ zNM) (hlv : lev2 + 1 ≤ lev) (hnl : nLc ≤ 21) (hbd : w + bud2 ≤ bud) (hst : (st.map fun v => v.category).sum ≤ 8) (hd : decode cc pc = .ok (.invokevirtual idx, 3)) (kk : ∀ (r2 : Int32) (G' : zG), P r2 G' → Z (w + bud2) G' (pc + 3) lv (.int r2 :: st)) : Z w G pc lv (.ref r :: st) :=
  z_callVN hC (As := []) hM hm hlv hnl hbd hst rfl hi ho hk hd (by rintro _ G2 ⟨r2, rfl, h⟩; exact kk r2 G2 h)
theorem z_cVNl0 (hC : zCtx l X cc own nL lev bud Z) {y : MethodName} {b : ByteArray} {nLc lev2 bud2 idx : Nat} {ret : Option FieldType} {P : Int64 → zG → Prop} {r : Nat} {host : String} (hM : zC l y b nLc ret lev2 bud2 X [.ref r] G (zPl P)) (hm : zM y b nLc ret 0) (hi : zIV y) (ho : zO X G r y.cls) (hk : (own, idx, y, host) ∈ zNM) (hlv : lev2 + 1 ≤ lev) (hnl : nLc ≤ 21) (hbd : w + bud2 ≤ bud) (hst : (st.map fun v => v.category).sum ≤ 8) (hd : decode cc pc = .ok (.invokevirtual idx, 3)) (kk : ∀ (r2 : Int64) (G' : zG), P r2 G' → Z (w + bud2) G' (pc + 3) lv (.long r2 :: st)) : Z w G pc lv (.ref r :: st) :=
  z_callVN hC (As := []) hM hm hlv hnl hbd hst rfl hi ho hk hd (by rintro _ G2 ⟨r2, rfl, h⟩; exact kk r2 G2 h)
theorem z_cVNi1 (hC : zCtx l X cc own nL lev bud Z) {y : MethodName} {b : ByteArray} {nLc lev2 bud2 idx : Nat} {ret : Option FieldType} {P : Int32 → zG → Prop} {r : Nat} {host : String} {u0 : Value} (hM : zC l y b nLc ret lev2 bud2 X [.ref r, u0] G (zPi P)) (hm : zM y b nLc ret 1) (hi : zIV y) (ho : zO X G r y.cls) (hk : (own, idx, y, host) ∈ zNM) (hlv : lev2 + 1 ≤ lev) (hnl : nLc ≤ 21) (hbd : w + bud2 ≤ bud) (hst : (st.map fun v => v.category).sum ≤ 8) (hd : decode cc pc = .ok (.invokevirtual idx, 3)) (kk : ∀ (r2 : Int32) (G' : zG), P r2 G' → Z (w + bud2) G' (pc + 3) lv (.int r2 :: st)) : Z w G pc lv (u0 :: .ref r :: st) :=
  z_callVN hC (As := [u0]) hM hm hlv hnl hbd hst rfl hi ho hk hd (by rintro _ G2 ⟨r2, rfl, h⟩; exact kk r2 G2 h)
theorem z_cVNa1 (hC : zCtx l X cc own nL lev bud Z) {y : MethodName} {b : ByteArray} {nLc lev2 bud2 idx : Nat} {ret : Option FieldType} {P : Value → zG → Prop} {r : Nat} {host : String} {u0 : Value} (hM : zC l y b nLc ret lev2 bud2 X [.ref r, u0] G (zPa P)) (hm : zM y b nLc ret 1) (hi : zIV y) (ho : zO X G r y.cls) (hk : (own, idx, y, host) ∈ zNM) (hlv : lev2 + 1 ≤ lev) (hnl : nLc ≤ 21) (hbd : w + bud2 ≤ bud) (hst : (st.map fun v => v.category).sum ≤ 8) (hd : decode cc pc = .ok (.invokevirtual idx, 3)) (kk : ∀ (r2 : Value) (G' : zG), P r2 G' → Z (w + bud2) G' (pc + 3) lv (r2 :: st)) : Z w G pc lv (u0 :: .ref r :: st) :=
  z_callVN hC (As := [u0]) hM hm hlv hnl hbd hst rfl hi ho hk hd (by rintro _ G2 ⟨r2, rfl, h⟩; exact kk r2 G2 h)
theorem z_cVNi2 (hC : zCtx l X cc own nL lev bud Z) {y : MethodName} {b : ByteArray} {nLc lev2 bud2 idx : Nat} {ret : Option FieldType} {P : Int32 → zG → Prop} {r : Nat} {host : String} {u0 u1 : Value} (hM : zC l y b nLc ret lev2 bud2 X [.ref r, u0, u1] G (zPi P)) (hm : zM y b nLc ret 2) (hi : zIV y) (ho : zO X G r y.cls) (hk : (own, idx, y, host) ∈ zNM) (hlv : lev2 + 1 ≤ lev) (hnl : nLc ≤ 21) (hbd : w + bud2 ≤ bud) (hst : (st.map fun v => v.category).sum ≤ 8) (hd : decode cc pc = .ok (.invokevirtual idx, 3)) (kk : ∀ (r2 : Int32) (G' : zG), P r2 G' → Z (w + bud2) G' (pc + 3) lv (.int r2 :: st)) : Z w G pc lv (u1 :: u0 :: .ref r :: st) :=
  z_callVN hC (As := [u0, u1]) hM hm hlv hnl hbd hst rfl hi ho hk hd (by rintro _ G2 ⟨r2, rfl, h⟩; exact kk r2 G2 h)
theorem z_cVNv2 (hC : zCtx l X cc own nL lev bud Z) {y : MethodName} {b : ByteArray} {nLc lev2 bud2 idx : Nat} {ret : Option FieldType} {P : zG → Prop} {r : Nat} {host : String} {u0 u1 : Value} (hM : zC l y b nLc ret lev2 bud2 X [.ref r, u0, u1] G (zPv P)) (hm : zM y b nLc ret 2) (hi : zIV y) (ho : zO X G r y.cls) (hk : (own, idx, y, host) ∈ zNM) (hlv : lev2 + 1 ≤ lev) (hnl : nLc ≤ 21) (hbd : w + bud2 ≤ bud) (hst : (st.map fun v => v.category).sum ≤ 8) (hd : decode cc pc = .ok (.invokevirtual idx, 3)) (kk : ∀ (G' : zG), P G' → Z (w + bud2) G' (pc + 3) lv (st)) : Z w G pc lv (u1 :: u0 :: .ref r :: st) :=
  z_callVN hC (As := [u0, u1]) hM hm hlv hnl hbd hst rfl hi ho hk hd (by rintro _ G2 ⟨rfl, h⟩; exact kk G2 h)
theorem z_cVNi3 (hC : zCtx l X cc own nL lev bud Z) {y : MethodName} {b : ByteArray} {nLc lev2 bud2 idx : Nat} {ret : Option FieldType} {P : Int32 → zG → Prop} {r : Nat} {host : String} {u0 u1 u2 : Value} (hM : zC l y b nLc ret lev2 bud2 X [.ref r, u0, u1, u2] G (zPi P)) (hm : zM y b nLc ret 3) (hi : zIV y) (ho : zO X G r y.cls) (hk : (own, idx, y, host) ∈ zNM) (hlv : lev2 + 1 ≤ lev) (hnl : nLc ≤ 21) (hbd : w + bud2 ≤ bud) (hst : (st.map fun v => v.category).sum ≤ 8) (hd : decode cc pc = .ok (.invokevirtual idx, 3)) (kk : ∀ (r2 : Int32) (G' : zG), P r2 G' → Z (w + bud2) G' (pc + 3) lv (.int r2 :: st)) : Z w G pc lv (u2 :: u1 :: u0 :: .ref r :: st) :=
  z_callVN hC (As := [u0, u1, u2]) hM hm hlv hnl hbd hst rfl hi ho hk hd (by rintro _ G2 ⟨r2, rfl, h⟩; exact kk r2 G2 h)
theorem z_cVNi4 (hC : zCtx l X cc own nL lev bud Z) {y : MethodName} {b : ByteArray} {nLc lev2 bud2 idx : Nat} {ret : Option FieldType} {P : Int32 → zG → Prop} {r : Nat} {host : String} {u0 u1 u2 u3 : Value} (hM : zC l y b nLc ret lev2 bud2 X [.ref r, u0, u1, u2, u3] G (zPi P)) (hm : zM y b nLc ret 4) (hi : zIV y) (ho : zO X G r y.cls) (hk : (own, idx, y, host) ∈ zNM) (hlv : lev2 + 1 ≤ lev) (hnl : nLc ≤ 21) (hbd : w + bud2 ≤ bud) (hst : (st.map fun v => v.category).sum ≤ 8) (hd : decode cc pc = .ok (.invokevirtual idx, 3)) (kk : ∀ (r2 : Int32) (G' : zG), P r2 G' → Z (w + bud2) G' (pc + 3) lv (.int r2 :: st)) : Z w G pc lv (u3 :: u2 :: u1 :: u0 :: .ref r :: st) :=
  z_callVN hC (As := [u0, u1, u2, u3]) hM hm hlv hnl hbd hst rfl hi ho hk hd (by rintro _ G2 ⟨r2, rfl, h⟩; exact kk r2 G2 h)
theorem z_cVNv4 (hC : zCtx l X cc own nL lev bud Z) {y : MethodName} {b : ByteArray} {nLc lev2 bud2 idx : Nat} {ret : Option FieldType} {P : zG → Prop} {r : Nat} {host : String} {u0 u1 u2 u3 : Value} (hM : zC l y b nLc ret lev2 bud2 X [.ref r, u0, u1, u2, u3] G (zPv P)) (hm : zM y b nLc ret 4) (hi : zIV y) (ho : zO X G r y.cls) (hk : (own, idx, y, host) ∈ zNM) (hlv : lev2 + 1 ≤ lev) (hnl : nLc ≤ 21) (hbd : w + bud2 ≤ bud) (hst : (st.map fun v => v.category).sum ≤ 8) (hd : decode cc pc = .ok (.invokevirtual idx, 3)) (kk : ∀ (G' : zG), P G' → Z (w + bud2) G' (pc + 3) lv (st)) : Z w G pc lv (u3 :: u2 :: u1 :: u0 :: .ref r :: st) :=
  z_callVN hC (As := [u0, u1, u2, u3]) hM hm hlv hnl hbd hst rfl hi ho hk hd (by rintro _ G2 ⟨rfl, h⟩; exact kk G2 h)
theorem z_cVNi5 (hC : zCtx l X cc own nL lev bud Z) {y : MethodName} {b : ByteArray} {nLc lev2 bud2 idx : Nat} {ret : Option FieldType} {P : Int32 → zG → Prop} {r : Nat} {host : String} {u0 u1 u2 u3 u4 : Value} (hM : zC l y b nLc ret lev2 bud2 X [.ref r, u0, u1, u2, u3, u4] G (zPi P)) (hm : zM y b nLc ret 5) (hi : zIV y) (ho : zO X G r y.cls) (hk : (own, idx, y, host) ∈ zNM) (hlv : lev2 + 1 ≤ lev) (hnl : nLc ≤ 21) (hbd : w + bud2 ≤ bud) (hst : (st.map fun v => v.category).sum ≤ 8) (hd : decode cc pc = .ok (.invokevirtual idx, 3)) (kk : ∀ (r2 : Int32) (G' : zG), P r2 G' → Z (w + bud2) G' (pc + 3) lv (.int r2 :: st)) : Z w G pc lv (u4 :: u3 :: u2 :: u1 :: u0 :: .ref r :: st) :=
  z_callVN hC (As := [u0, u1, u2, u3, u4]) hM hm hlv hnl hbd hst rfl hi ho hk hd (by rintro _ G2 ⟨r2, rfl, h⟩; exact kk r2 G2 h)
theorem z_cVNi6 (hC : zCtx l X cc own nL lev bud Z) {y : MethodName} {b : ByteArray} {nLc lev2 bud2 idx : Nat} {ret : Option FieldType} {P : Int32 → zG → Prop} {r : Nat} {host : String} {u0 u1 u2 u3 u4 u5 : Value} (hM : zC l y b nLc ret lev2 bud2 X [.ref r, u0, u1, u2, u3, u4, u5] G (zPi P)) (hm : zM y b nLc ret 6) (hi : zIV y) (ho : zO X G r y.cls) (hk : (own, idx, y, host) ∈ zNM) (hlv : lev2 + 1 ≤ lev) (hnl : nLc ≤ 21) (hbd : w + bud2 ≤ bud) (hst : (st.map fun v => v.category).sum ≤ 8) (hd : decode cc pc = .ok (.invokevirtual idx, 3)) (kk : ∀ (r2 : Int32) (G' : zG), P r2 G' → Z (w + bud2) G' (pc + 3) lv (.int r2 :: st)) : Z w G pc lv (u5 :: u4 :: u3 :: u2 :: u1 :: u0 :: .ref r :: st) :=
  z_callVN hC (As := [u0, u1, u2, u3, u4, u5]) hM hm hlv hnl hbd hst rfl hi ho hk hd (by rintro _ G2 ⟨r2, rfl, h⟩; exact kk r2 G2 h)
theorem z_cSi0 (hC : zCtx l X cc own nL lev bud Z) {y : MethodName} {b : ByteArray} {nLc lev2 bud2 idx : Nat} {ret : Option FieldType} {P : Int32 → zG → Prop} (hM : zC l y b nLc ret lev2 bud2 X [] G (zPi P)) (hm : zM y b nLc ret 0) (hi : zIS y) (hk : Cond.methodLink own idx y ∈ zall) (hlv : lev2 + 1 ≤ lev) (hnl : nLc ≤ 21) (hbd : w + bud2 ≤ bud) (hst : (st.map fun v => v.category).sum ≤ 8) (hd : decode cc pc = .ok (.invokestatic idx, 3)) (kk : ∀ (r2 : Int32) (G' : zG), P r2 G' → Z (w + bud2) G' (pc + 3) lv (.int r2 :: st)) : Z w G pc lv (st) :=
  z_callS hC (As := []) hM hm hlv hnl hbd hst rfl hi hk hd (by rintro _ G2 ⟨r2, rfl, h⟩; exact kk r2 G2 h)
theorem z_cSl0 (hC : zCtx l X cc own nL lev bud Z) {y : MethodName} {b : ByteArray} {nLc lev2 bud2 idx : Nat} {ret : Option FieldType} {P : Int64 → zG → Prop} (hM : zC l y b nLc ret lev2 bud2 X [] G (zPl P)) (hm : zM y b nLc ret 0) (hi : zIS y) (hk : Cond.methodLink own idx y ∈ zall) (hlv : lev2 + 1 ≤ lev) (hnl : nLc ≤ 21) (hbd : w + bud2 ≤ bud) (hst : (st.map fun v => v.category).sum ≤ 8) (hd : decode cc pc = .ok (.invokestatic idx, 3)) (kk : ∀ (r2 : Int64) (G' : zG), P r2 G' → Z (w + bud2) G' (pc + 3) lv (.long r2 :: st)) : Z w G pc lv (st) :=
  z_callS hC (As := []) hM hm hlv hnl hbd hst rfl hi hk hd (by rintro _ G2 ⟨r2, rfl, h⟩; exact kk r2 G2 h)
theorem z_cSi1 (hC : zCtx l X cc own nL lev bud Z) {y : MethodName} {b : ByteArray} {nLc lev2 bud2 idx : Nat} {ret : Option FieldType} {P : Int32 → zG → Prop} {u0 : Value} (hM : zC l y b nLc ret lev2 bud2 X [u0] G (zPi P)) (hm : zM y b nLc ret 1) (hi : zIS y) (hk : Cond.methodLink own idx y ∈ zall) (hlv : lev2 + 1 ≤ lev) (hnl : nLc ≤ 21) (hbd : w + bud2 ≤ bud) (hst : (st.map fun v => v.category).sum ≤ 8) (hd : decode cc pc = .ok (.invokestatic idx, 3)) (kk : ∀ (r2 : Int32) (G' : zG), P r2 G' → Z (w + bud2) G' (pc + 3) lv (.int r2 :: st)) : Z w G pc lv (u0 :: st) :=
  z_callS hC (As := [u0]) hM hm hlv hnl hbd hst rfl hi hk hd (by rintro _ G2 ⟨r2, rfl, h⟩; exact kk r2 G2 h)
theorem z_cSa1 (hC : zCtx l X cc own nL lev bud Z) {y : MethodName} {b : ByteArray} {nLc lev2 bud2 idx : Nat} {ret : Option FieldType} {P : Value → zG → Prop} {u0 : Value} (hM : zC l y b nLc ret lev2 bud2 X [u0] G (zPa P)) (hm : zM y b nLc ret 1) (hi : zIS y) (hk : Cond.methodLink own idx y ∈ zall) (hlv : lev2 + 1 ≤ lev) (hnl : nLc ≤ 21) (hbd : w + bud2 ≤ bud) (hst : (st.map fun v => v.category).sum ≤ 8) (hd : decode cc pc = .ok (.invokestatic idx, 3)) (kk : ∀ (r2 : Value) (G' : zG), P r2 G' → Z (w + bud2) G' (pc + 3) lv (r2 :: st)) : Z w G pc lv (u0 :: st) :=
  z_callS hC (As := [u0]) hM hm hlv hnl hbd hst rfl hi hk hd (by rintro _ G2 ⟨r2, rfl, h⟩; exact kk r2 G2 h)
theorem z_cSi2 (hC : zCtx l X cc own nL lev bud Z) {y : MethodName} {b : ByteArray} {nLc lev2 bud2 idx : Nat} {ret : Option FieldType} {P : Int32 → zG → Prop} {u0 u1 : Value} (hM : zC l y b nLc ret lev2 bud2 X [u0, u1] G (zPi P)) (hm : zM y b nLc ret 2) (hi : zIS y) (hk : Cond.methodLink own idx y ∈ zall) (hlv : lev2 + 1 ≤ lev) (hnl : nLc ≤ 21) (hbd : w + bud2 ≤ bud) (hst : (st.map fun v => v.category).sum ≤ 8) (hd : decode cc pc = .ok (.invokestatic idx, 3)) (kk : ∀ (r2 : Int32) (G' : zG), P r2 G' → Z (w + bud2) G' (pc + 3) lv (.int r2 :: st)) : Z w G pc lv (u1 :: u0 :: st) :=
  z_callS hC (As := [u0, u1]) hM hm hlv hnl hbd hst rfl hi hk hd (by rintro _ G2 ⟨r2, rfl, h⟩; exact kk r2 G2 h)
theorem z_cSi3 (hC : zCtx l X cc own nL lev bud Z) {y : MethodName} {b : ByteArray} {nLc lev2 bud2 idx : Nat} {ret : Option FieldType} {P : Int32 → zG → Prop} {u0 u1 u2 : Value} (hM : zC l y b nLc ret lev2 bud2 X [u0, u1, u2] G (zPi P)) (hm : zM y b nLc ret 3) (hi : zIS y) (hk : Cond.methodLink own idx y ∈ zall) (hlv : lev2 + 1 ≤ lev) (hnl : nLc ≤ 21) (hbd : w + bud2 ≤ bud) (hst : (st.map fun v => v.category).sum ≤ 8) (hd : decode cc pc = .ok (.invokestatic idx, 3)) (kk : ∀ (r2 : Int32) (G' : zG), P r2 G' → Z (w + bud2) G' (pc + 3) lv (.int r2 :: st)) : Z w G pc lv (u2 :: u1 :: u0 :: st) :=
  z_callS hC (As := [u0, u1, u2]) hM hm hlv hnl hbd hst rfl hi hk hd (by rintro _ G2 ⟨r2, rfl, h⟩; exact kk r2 G2 h)
theorem z_cSi4 (hC : zCtx l X cc own nL lev bud Z) {y : MethodName} {b : ByteArray} {nLc lev2 bud2 idx : Nat} {ret : Option FieldType} {P : Int32 → zG → Prop} {u0 u1 u2 u3 : Value} (hM : zC l y b nLc ret lev2 bud2 X [u0, u1, u2, u3] G (zPi P)) (hm : zM y b nLc ret 4) (hi : zIS y) (hk : Cond.methodLink own idx y ∈ zall) (hlv : lev2 + 1 ≤ lev) (hnl : nLc ≤ 21) (hbd : w + bud2 ≤ bud) (hst : (st.map fun v => v.category).sum ≤ 8) (hd : decode cc pc = .ok (.invokestatic idx, 3)) (kk : ∀ (r2 : Int32) (G' : zG), P r2 G' → Z (w + bud2) G' (pc + 3) lv (.int r2 :: st)) : Z w G pc lv (u3 :: u2 :: u1 :: u0 :: st) :=
  z_callS hC (As := [u0, u1, u2, u3]) hM hm hlv hnl hbd hst rfl hi hk hd (by rintro _ G2 ⟨r2, rfl, h⟩; exact kk r2 G2 h)
theorem z_cSi5 (hC : zCtx l X cc own nL lev bud Z) {y : MethodName} {b : ByteArray} {nLc lev2 bud2 idx : Nat} {ret : Option FieldType} {P : Int32 → zG → Prop} {u0 u1 u2 u3 u4 : Value} (hM : zC l y b nLc ret lev2 bud2 X [u0, u1, u2, u3, u4] G (zPi P)) (hm : zM y b nLc ret 5) (hi : zIS y) (hk : Cond.methodLink own idx y ∈ zall) (hlv : lev2 + 1 ≤ lev) (hnl : nLc ≤ 21) (hbd : w + bud2 ≤ bud) (hst : (st.map fun v => v.category).sum ≤ 8) (hd : decode cc pc = .ok (.invokestatic idx, 3)) (kk : ∀ (r2 : Int32) (G' : zG), P r2 G' → Z (w + bud2) G' (pc + 3) lv (.int r2 :: st)) : Z w G pc lv (u4 :: u3 :: u2 :: u1 :: u0 :: st) :=
  z_callS hC (As := [u0, u1, u2, u3, u4]) hM hm hlv hnl hbd hst rfl hi hk hd (by rintro _ G2 ⟨r2, rfl, h⟩; exact kk r2 G2 h)
theorem z_cSi6 (hC : zCtx l X cc own nL lev bud Z) {y : MethodName} {b : ByteArray} {nLc lev2 bud2 idx : Nat} {ret : Option FieldType} {P : Int32 → zG → Prop} {u0 u1 u2 u3 u4 u5 : Value} (hM : zC l y b nLc ret lev2 bud2 X [u0, u1, u2, u3, u4, u5] G (zPi P)) (hm : zM y b nLc ret 6) (hi : zIS y) (hk : Cond.methodLink own idx y ∈ zall) (hlv : lev2 + 1 ≤ lev) (hnl : nLc ≤ 21) (hbd : w + bud2 ≤ bud) (hst : (st.map fun v => v.category).sum ≤ 8) (hd : decode cc pc = .ok (.invokestatic idx, 3)) (kk : ∀ (r2 : Int32) (G' : zG), P r2 G' → Z (w + bud2) G' (pc + 3) lv (.int r2 :: st)) : Z w G pc lv (u5 :: u4 :: u3 :: u2 :: u1 :: u0 :: st) :=
  z_callS hC (As := [u0, u1, u2, u3, u4, u5]) hM hm hlv hnl hbd hst rfl hi hk hd (by rintro _ G2 ⟨r2, rfl, h⟩; exact kk r2 G2 h)
theorem z_cSNi0 (hC : zCtx l X cc own nL lev bud Z) {y : MethodName} {b : ByteArray} {nLc lev2 bud2 idx : Nat} {ret : Option FieldType} {P : Int32 → zG → Prop} {host : String} (hM : zC l y b nLc ret lev2 bud2 X [] G (zPi P)) (hm : zM y b nLc ret 0) (hi : zIS y) (hk : (own, idx, y, host) ∈ zNM) (hlv : lev2 + 1 ≤ lev) (hnl : nLc ≤ 21) (hbd : w + bud2 ≤ bud) (hst : (st.map fun v => v.category).sum ≤ 8) (hd : decode cc pc = .ok (.invokestatic idx, 3)) (kk : ∀ (r2 : Int32) (G' : zG), P r2 G' → Z (w + bud2) G' (pc + 3) lv (.int r2 :: st)) : Z w G pc lv (st) :=
  z_callSN hC (As := []) hM hm hlv hnl hbd hst rfl hi hk hd (by rintro _ G2 ⟨r2, rfl, h⟩; exact kk r2 G2 h)
theorem z_cSNl0 (hC : zCtx l X cc own nL lev bud Z) {y : MethodName} {b : ByteArray} {nLc lev2 bud2 idx : Nat} {ret : Option FieldType} {P : Int64 → zG → Prop} {host : String} (hM : zC l y b nLc ret lev2 bud2 X [] G (zPl P)) (hm : zM y b nLc ret 0) (hi : zIS y) (hk : (own, idx, y, host) ∈ zNM) (hlv : lev2 + 1 ≤ lev) (hnl : nLc ≤ 21) (hbd : w + bud2 ≤ bud) (hst : (st.map fun v => v.category).sum ≤ 8) (hd : decode cc pc = .ok (.invokestatic idx, 3)) (kk : ∀ (r2 : Int64) (G' : zG), P r2 G' → Z (w + bud2) G' (pc + 3) lv (.long r2 :: st)) : Z w G pc lv (st) :=
  z_callSN hC (As := []) hM hm hlv hnl hbd hst rfl hi hk hd (by rintro _ G2 ⟨r2, rfl, h⟩; exact kk r2 G2 h)
theorem z_cSNi1 (hC : zCtx l X cc own nL lev bud Z) {y : MethodName} {b : ByteArray} {nLc lev2 bud2 idx : Nat} {ret : Option FieldType} {P : Int32 → zG → Prop} {host : String} {u0 : Value} (hM : zC l y b nLc ret lev2 bud2 X [u0] G (zPi P)) (hm : zM y b nLc ret 1) (hi : zIS y) (hk : (own, idx, y, host) ∈ zNM) (hlv : lev2 + 1 ≤ lev) (hnl : nLc ≤ 21) (hbd : w + bud2 ≤ bud) (hst : (st.map fun v => v.category).sum ≤ 8) (hd : decode cc pc = .ok (.invokestatic idx, 3)) (kk : ∀ (r2 : Int32) (G' : zG), P r2 G' → Z (w + bud2) G' (pc + 3) lv (.int r2 :: st)) : Z w G pc lv (u0 :: st) :=
  z_callSN hC (As := [u0]) hM hm hlv hnl hbd hst rfl hi hk hd (by rintro _ G2 ⟨r2, rfl, h⟩; exact kk r2 G2 h)
theorem z_cSNa1 (hC : zCtx l X cc own nL lev bud Z) {y : MethodName} {b : ByteArray} {nLc lev2 bud2 idx : Nat} {ret : Option FieldType} {P : Value → zG → Prop} {host : String} {u0 : Value} (hM : zC l y b nLc ret lev2 bud2 X [u0] G (zPa P)) (hm : zM y b nLc ret 1) (hi : zIS y) (hk : (own, idx, y, host) ∈ zNM) (hlv : lev2 + 1 ≤ lev) (hnl : nLc ≤ 21) (hbd : w + bud2 ≤ bud) (hst : (st.map fun v => v.category).sum ≤ 8) (hd : decode cc pc = .ok (.invokestatic idx, 3)) (kk : ∀ (r2 : Value) (G' : zG), P r2 G' → Z (w + bud2) G' (pc + 3) lv (r2 :: st)) : Z w G pc lv (u0 :: st) :=
  z_callSN hC (As := [u0]) hM hm hlv hnl hbd hst rfl hi hk hd (by rintro _ G2 ⟨r2, rfl, h⟩; exact kk r2 G2 h)
theorem z_cSNi2 (hC : zCtx l X cc own nL lev bud Z) {y : MethodName} {b : ByteArray} {nLc lev2 bud2 idx : Nat} {ret : Option FieldType} {P : Int32 → zG → Prop} {host : String} {u0 u1 : Value} (hM : zC l y b nLc ret lev2 bud2 X [u0, u1] G (zPi P)) (hm : zM y b nLc ret 2) (hi : zIS y) (hk : (own, idx, y, host) ∈ zNM) (hlv : lev2 + 1 ≤ lev) (hnl : nLc ≤ 21) (hbd : w + bud2 ≤ bud) (hst : (st.map fun v => v.category).sum ≤ 8) (hd : decode cc pc = .ok (.invokestatic idx, 3)) (kk : ∀ (r2 : Int32) (G' : zG), P r2 G' → Z (w + bud2) G' (pc + 3) lv (.int r2 :: st)) : Z w G pc lv (u1 :: u0 :: st) :=
  z_callSN hC (As := [u0, u1]) hM hm hlv hnl hbd hst rfl hi hk hd (by rintro _ G2 ⟨r2, rfl, h⟩; exact kk r2 G2 h)
theorem z_cSNi3 (hC : zCtx l X cc own nL lev bud Z) {y : MethodName} {b : ByteArray} {nLc lev2 bud2 idx : Nat} {ret : Option FieldType} {P : Int32 → zG → Prop} {host : String} {u0 u1 u2 : Value} (hM : zC l y b nLc ret lev2 bud2 X [u0, u1, u2] G (zPi P)) (hm : zM y b nLc ret 3) (hi : zIS y) (hk : (own, idx, y, host) ∈ zNM) (hlv : lev2 + 1 ≤ lev) (hnl : nLc ≤ 21) (hbd : w + bud2 ≤ bud) (hst : (st.map fun v => v.category).sum ≤ 8) (hd : decode cc pc = .ok (.invokestatic idx, 3)) (kk : ∀ (r2 : Int32) (G' : zG), P r2 G' → Z (w + bud2) G' (pc + 3) lv (.int r2 :: st)) : Z w G pc lv (u2 :: u1 :: u0 :: st) :=
  z_callSN hC (As := [u0, u1, u2]) hM hm hlv hnl hbd hst rfl hi hk hd (by rintro _ G2 ⟨r2, rfl, h⟩; exact kk r2 G2 h)
theorem z_cSNi4 (hC : zCtx l X cc own nL lev bud Z) {y : MethodName} {b : ByteArray} {nLc lev2 bud2 idx : Nat} {ret : Option FieldType} {P : Int32 → zG → Prop} {host : String} {u0 u1 u2 u3 : Value} (hM : zC l y b nLc ret lev2 bud2 X [u0, u1, u2, u3] G (zPi P)) (hm : zM y b nLc ret 4) (hi : zIS y) (hk : (own, idx, y, host) ∈ zNM) (hlv : lev2 + 1 ≤ lev) (hnl : nLc ≤ 21) (hbd : w + bud2 ≤ bud) (hst : (st.map fun v => v.category).sum ≤ 8) (hd : decode cc pc = .ok (.invokestatic idx, 3)) (kk : ∀ (r2 : Int32) (G' : zG), P r2 G' → Z (w + bud2) G' (pc + 3) lv (.int r2 :: st)) : Z w G pc lv (u3 :: u2 :: u1 :: u0 :: st) :=
  z_callSN hC (As := [u0, u1, u2, u3]) hM hm hlv hnl hbd hst rfl hi hk hd (by rintro _ G2 ⟨r2, rfl, h⟩; exact kk r2 G2 h)
theorem z_cSNi5 (hC : zCtx l X cc own nL lev bud Z) {y : MethodName} {b : ByteArray} {nLc lev2 bud2 idx : Nat} {ret : Option FieldType} {P : Int32 → zG → Prop} {host : String} {u0 u1 u2 u3 u4 : Value} (hM : zC l y b nLc ret lev2 bud2 X [u0, u1, u2, u3, u4] G (zPi P)) (hm : zM y b nLc ret 5) (hi : zIS y) (hk : (own, idx, y, host) ∈ zNM) (hlv : lev2 + 1 ≤ lev) (hnl : nLc ≤ 21) (hbd : w + bud2 ≤ bud) (hst : (st.map fun v => v.category).sum ≤ 8) (hd : decode cc pc = .ok (.invokestatic idx, 3)) (kk : ∀ (r2 : Int32) (G' : zG), P r2 G' → Z (w + bud2) G' (pc + 3) lv (.int r2 :: st)) : Z w G pc lv (u4 :: u3 :: u2 :: u1 :: u0 :: st) :=
  z_callSN hC (As := [u0, u1, u2, u3, u4]) hM hm hlv hnl hbd hst rfl hi hk hd (by rintro _ G2 ⟨r2, rfl, h⟩; exact kk r2 G2 h)
theorem z_cSNi6 (hC : zCtx l X cc own nL lev bud Z) {y : MethodName} {b : ByteArray} {nLc lev2 bud2 idx : Nat} {ret : Option FieldType} {P : Int32 → zG → Prop} {host : String} {u0 u1 u2 u3 u4 u5 : Value} (hM : zC l y b nLc ret lev2 bud2 X [u0, u1, u2, u3, u4, u5] G (zPi P)) (hm : zM y b nLc ret 6) (hi : zIS y) (hk : (own, idx, y, host) ∈ zNM) (hlv : lev2 + 1 ≤ lev) (hnl : nLc ≤ 21) (hbd : w + bud2 ≤ bud) (hst : (st.map fun v => v.category).sum ≤ 8) (hd : decode cc pc = .ok (.invokestatic idx, 3)) (kk : ∀ (r2 : Int32) (G' : zG), P r2 G' → Z (w + bud2) G' (pc + 3) lv (.int r2 :: st)) : Z w G pc lv (u5 :: u4 :: u3 :: u2 :: u1 :: u0 :: st) :=
  z_callSN hC (As := [u0, u1, u2, u3, u4, u5]) hM hm hlv hnl hbd hst rfl hi hk hd (by rintro _ G2 ⟨r2, rfl, h⟩; exact kk r2 G2 h)
end ZR
end
section
/-! constants -/
theorem zi_0 : Int32.ofInt 0 = nI 0 := by decide +kernel
theorem zi_1 : Int32.ofInt 1 = nI 1 := by decide +kernel
theorem zi_2 : Int32.ofInt 2 = nI 2 := by decide +kernel
theorem zi_3 : Int32.ofInt 3 = nI 3 := by decide +kernel
theorem zi_4 : Int32.ofInt 4 = nI 4 := by decide +kernel
theorem zi_5 : Int32.ofInt 5 = nI 5 := by decide +kernel
theorem zi_m1 : Int32.ofInt (-1) = (-1 : Int32) := by decide +kernel
theorem zb_6 : (Int8.ofInt 6).toInt32 = nI 6 := by decide +kernel
theorem zb_7 : (Int8.ofInt 7).toInt32 = nI 7 := by decide +kernel
theorem zb_8 : (Int8.ofInt 8).toInt32 = nI 8 := by decide +kernel
theorem zb_9 : (Int8.ofInt 9).toInt32 = nI 9 := by decide +kernel
theorem zb_10 : (Int8.ofInt 10).toInt32 = nI 10 := by decide +kernel
theorem zb_12 : (Int8.ofInt 12).toInt32 = nI 12 := by decide +kernel
theorem zb_20 : (Int8.ofInt 20).toInt32 = nI 20 := by decide +kernel
theorem zb_31 : (Int8.ofInt 31).toInt32 = nI 31 := by decide +kernel
theorem zb_39 : (Int8.ofInt 39).toInt32 = nI 39 := by decide +kernel
theorem zb_40 : (Int8.ofInt 40).toInt32 = nI 40 := by decide +kernel
theorem zb_48 : (Int8.ofInt 48).toInt32 = nI 48 := by decide +kernel
theorem zb_64 : (Int8.ofInt 64).toInt32 = nI 64 := by decide +kernel
theorem zb_72 : (Int8.ofInt 72).toInt32 = nI 72 := by decide +kernel
theorem zb_96 : (Int8.ofInt 96).toInt32 = nI 96 := by decide +kernel
theorem zb_99 : (Int8.ofInt 99).toInt32 = nI 99 := by decide +kernel
theorem zb_100 : (Int8.ofInt 100).toInt32 = nI 100 := by decide +kernel
theorem zb_m2 : (Int8.ofInt (-2)).toInt32 = (-2 : Int32) := by decide +kernel
theorem zb_m3 : (Int8.ofInt (-3)).toInt32 = (-3 : Int32) := by decide +kernel
theorem zb_m9 : (Int8.ofInt (-9)).toInt32 = (-9 : Int32) := by decide +kernel
theorem zs_255 : (Int16.ofInt 255).toInt32 = nI 255 := by decide +kernel
theorem zs_320 : (Int16.ofInt 320).toInt32 = nI 320 := by decide +kernel
theorem zs_600 : (Int16.ofInt 600).toInt32 = nI 600 := by decide +kernel
theorem zs_1000 : (Int16.ofInt 1000).toInt32 = nI 1000 := by decide +kernel
theorem zs_1920 : (Int16.ofInt 1920).toInt32 = nI 1920 := by decide +kernel
theorem zs_256 : (Int16.ofInt 256).toInt32 = nI 256 := by decide +kernel
theorem zs_100 : (Int16.ofInt 100).toInt32 = nI 100 := by decide +kernel
theorem zl_0 : Int64.ofNat ((0 : Fin 2) : Nat) = (0 : Int64) := by decide +kernel
theorem zl_1 : Int64.ofNat ((1 : Fin 2) : Nat) = (1 : Int64) := by decide +kernel
theorem zpn_X0 : plainName RX0 = true := by decide +kernel
theorem zpn_X1 : plainName RX1 = true := by decide +kernel
theorem zpn_X2 : plainName RX2 = true := by decide +kernel
theorem zpn_X3 : plainName RX3 = true := by decide +kernel
theorem zpn_X4 : plainName RX4 = true := by decide +kernel
theorem zpn_X5 : plainName RX5 = true := by decide +kernel
theorem zcat {as : List Value} (h : as.all (fun v => v.category == 1) = true) : ∀ v ∈ as, v.category = 1 := fun v hv => by simpa using List.all_eq_true.mp h v hv
theorem z_loop {N : Nat} (P : Nat → Prop) (hx : P N) (hs : ∀ n, n < N → P (n + 1) → P n) : ∀ n, n ≤ N → P n := by
  intro n hn
  obtain ⟨d, rfl⟩ : ∃ d, N = n + d := ⟨N - n, by omega⟩
  clear hn
  induction d generalizing n with
  | zero => exact hx
  | succ d ih => exact hs n (by omega) (ih (n + 1) (by rw [show n + 1 + d = n + (d + 1) by omega]; exact hx) (fun k hk => hs k (by omega)))
theorem zix_0 {G : zG} {i : Nat} (h : (0, i) ∈ zix G) : i = 0 := by
  rcases List.mem_append.mp h with h | h
  · have : ∀ q ∈ zix0, q.1 = 0 → q.2 = 0 := by decide
    exact this _ h rfl
  · obtain ⟨r, -, hr⟩ := List.mem_map.mp h
    cases hr
theorem zix_20 {G : zG} {i : Nat} (h : (20, i) ∈ zix G) : i = 0 := by
  rcases List.mem_append.mp h with h | h
  · have : ∀ q ∈ zix0, q.1 = 20 → q.2 = 0 := by decide
    exact this _ h rfl
  · obtain ⟨r, -, hr⟩ := List.mem_map.mp h
    cases hr
section ZS
variable {l : Launch} {X : zX} {cc : ByteArray} {own : String} {nL lev bud : Nat} {Z : zZ} {w : Nat} {G : zG} {pc : Nat} {lv : List (Option Value)} {st : List Value}
theorem z_reti {P : Int32 → zG → Prop} {v : Int32} (hE : zEnd cc (some .int) bud (zPi P) Z) (hw : w ≤ bud) (hd : decode cc pc = .ok (.ireturn, 1)) (hp : P v G) : Z w G pc lv [.int v] := hE.1 w G pc lv v .int hw rfl rfl hd ⟨v, rfl, hp⟩
theorem z_retz0 {P : Int32 → zG → Prop} (hE : zEnd cc (some .boolean) bud (zPi P) Z) (hw : w ≤ bud) (hd : decode cc pc = .ok (.ireturn, 1)) (hp : P (nI 0) G) : Z w G pc lv [.int (nI 0)] := hE.1 w G pc lv _ .boolean hw rfl rfl hd ⟨_, rfl, hp⟩
theorem z_retz1 {P : Int32 → zG → Prop} (hE : zEnd cc (some .boolean) bud (zPi P) Z) (hw : w ≤ bud) (hd : decode cc pc = .ok (.ireturn, 1)) (hp : P (nI 1) G) : Z w G pc lv [.int (nI 1)] := hE.1 w G pc lv _ .boolean hw rfl rfl hd ⟨_, rfl, hp⟩
theorem z_retaR {P : Value → zG → Prop} {nm : String} {a : Nat} (hE : zEnd cc (some (.object nm)) bud (zPa P) Z) (hw : w ≤ bud) (hd : decode cc pc = .ok (.areturn, 1)) (hp : P (.ref a) G) : Z w G pc lv [.ref a] := hE.2.1 w G pc lv _ nm hw rfl (Or.inr ⟨a, rfl⟩) hd ⟨_, rfl, hp⟩
theorem z_retaN {P : Value → zG → Prop} {nm : String} (hE : zEnd cc (some (.object nm)) bud (zPa P) Z) (hw : w ≤ bud) (hd : decode cc pc = .ok (.areturn, 1)) (hp : P .null G) : Z w G pc lv [.null] := hE.2.1 w G pc lv _ nm hw rfl (Or.inl rfl) hd ⟨_, rfl, hp⟩
theorem z_retv {P : zG → Prop} (hE : zEnd cc none bud (zPv P) Z) (hw : w ≤ bud) (hd : decode cc pc = .ok (.return_, 1)) (hp : P G) : Z w G pc lv [] := hE.2.2.1 w G pc lv hw rfl hd ⟨rfl, hp⟩
theorem z_retl {P : Int64 → zG → Prop} {v : Int64} (hE : zEnd cc (some .long) bud (zPl P) Z) (hw : w ≤ bud) (hd : decode cc pc = .ok (.lreturn, 1)) (hp : P v G) : Z w G pc lv [.long v] := hE.2.2.2 w G pc lv v hw rfl hd ⟨v, rfl, hp⟩
theorem zo_0 : zO X G (za G 0 0) RX4 := ⟨0, 0, 4, _, _, zm0, rfl, rfl, rfl, rfl⟩
theorem zo_4 {i : Nat} (hi : i < 8) : zO X G (za G 4 i) RX0 := ⟨4, i, 0, _, _, (zm4 hi), rfl, rfl, rfl, rfl⟩
theorem zo_7 {i : Nat} (hi : i < 6) : zO X G (za G 7 i) RX1 := ⟨7, i, 1, _, _, (zm7 hi), rfl, rfl, rfl, rfl⟩
theorem zo_10 {i : Nat} (hi : i < 6) : zO X G (za G 10 i) RX3 := ⟨10, i, 3, _, _, (zm10 hi), rfl, rfl, rfl, rfl⟩
theorem zo_17 {i : Nat} (hi : i < zn G 0) : zO X G (za G 17 i) RX2 := ⟨17, i, 2, _, _, (zm17 hi), rfl, rfl, rfl, rfl⟩
theorem zo_20 : zO X G (za G 20 0) RX5 := ⟨20, 0, 5, _, _, zm20, rfl, rfl, rfl, rfl⟩
theorem zgf_X0_9 (hC : zCtx l X cc RX0 nL lev bud Z) {i : Nat} (hi : i < 8) (hd : decode cc pc = .ok (.getfield 9, 3)) (kk : Z w G (pc + 3) lv (.ref (za G 5 i) :: st)) : Z w G pc lv (.ref (za G 4 i) :: st) := z_get (f := 0) hC (zm4 hi) rfl rfl zu_X0 (by decide) zf_X0_9 rfl hd kk
theorem zgf_X0_15 (hC : zCtx l X cc RX0 nL lev bud Z) {i : Nat} (hi : i < 8) (hd : decode cc pc = .ok (.getfield 15, 3)) (kk : Z w G (pc + 3) lv (.ref (za G 6 i) :: st)) : Z w G pc lv (.ref (za G 4 i) :: st) := z_get (f := 1) hC (zm4 hi) rfl rfl zu_X0 (by decide) zf_X0_15 rfl hd kk
theorem zgf_X0_18 (hC : zCtx l X cc RX0 nL lev bud Z) {i : Nat} (hi : i < 8) (hd : decode cc pc = .ok (.getfield 18, 3)) (kk : Z w G (pc + 3) lv (.int (zg G 4 i 2) :: st)) : Z w G pc lv (.ref (za G 4 i) :: st) := z_get (f := 2) hC (zm4 hi) rfl rfl zu_X0 (by decide) zf_X0_18 rfl hd kk
theorem zpf_X0_18 (hC : zCtx l X cc RX0 nL lev bud Z) {i : Nat} (hi : i < 8) {x : Int32} (hd : decode cc pc = .ok (.putfield 18, 3)) (kk : Z w (zu G 4 i 2 x) (pc + 3) lv st) : Z w G pc lv (.int x :: .ref (za G 4 i) :: st) := z_put (f := 2) (G2 := zu G 4 i 2 x) (ty := .int) hC (zm4 hi) rfl rfl zu_X0 tyX0_ok nmX0 (by decide) zf_X0_18 rfl (by decide +kernel) rfl rfl (Nat.le_of_ble_eq_true rfl) rfl rfl ((z_ct_uS X G 4 i _).trans rfl) (fun k1 i1 _ => z_ct_uA X G 4 i _ k1 i1) hd kk
theorem zgf_X0_22 (hC : zCtx l X cc RX0 nL lev bud Z) {i : Nat} (hi : i < 8) (hd : decode cc pc = .ok (.getfield 22, 3)) (kk : Z w G (pc + 3) lv (.int (zg G 4 i 3) :: st)) : Z w G pc lv (.ref (za G 4 i) :: st) := z_get (f := 3) hC (zm4 hi) rfl rfl zu_X0 (by decide) zf_X0_22 rfl hd kk
theorem zpf_X0_22 (hC : zCtx l X cc RX0 nL lev bud Z) {i : Nat} (hi : i < 8) {x : Int32} (hd : decode cc pc = .ok (.putfield 22, 3)) (kk : Z w (zu G 4 i 3 x) (pc + 3) lv st) : Z w G pc lv (.int x :: .ref (za G 4 i) :: st) := z_put (f := 3) (G2 := zu G 4 i 3 x) (ty := .int) hC (zm4 hi) rfl rfl zu_X0 tyX0_ok nmX0 (by decide) zf_X0_22 rfl (by decide +kernel) rfl rfl (Nat.le_of_ble_eq_true rfl) rfl rfl ((z_ct_uS X G 4 i _).trans rfl) (fun k1 i1 _ => z_ct_uA X G 4 i _ k1 i1) hd kk
theorem zgf_X0_25 (hC : zCtx l X cc RX0 nL lev bud Z) {i : Nat} (hi : i < 8) (hd : decode cc pc = .ok (.getfield 25, 3)) (kk : Z w G (pc + 3) lv (.int (zg G 4 i 4) :: st)) : Z w G pc lv (.ref (za G 4 i) :: st) := z_get (f := 4) hC (zm4 hi) rfl rfl zu_X0 (by decide) zf_X0_25 rfl hd kk
theorem zpf_X0_25 (hC : zCtx l X cc RX0 nL lev bud Z) {i : Nat} (hi : i < 8) {x : Int32} (hd : decode cc pc = .ok (.putfield 25, 3)) (kk : Z w (zu G 4 i 4 x) (pc + 3) lv st) : Z w G pc lv (.int x :: .ref (za G 4 i) :: st) := z_put (f := 4) (G2 := zu G 4 i 4 x) (ty := .int) hC (zm4 hi) rfl rfl zu_X0 tyX0_ok nmX0 (by decide) zf_X0_25 rfl (by decide +kernel) rfl rfl (Nat.le_of_ble_eq_true rfl) rfl rfl ((z_ct_uS X G 4 i _).trans rfl) (fun k1 i1 _ => z_ct_uA X G 4 i _ k1 i1) hd kk
theorem zgf_X3_9 (hC : zCtx l X cc RX3 nL lev bud Z) {i : Nat} (hi : i < 6) (hd : decode cc pc = .ok (.getfield 9, 3)) (kk : Z w G (pc + 3) lv (.ref (za G 11 i) :: st)) : Z w G pc lv (.ref (za G 10 i) :: st) := z_get (f := 0) hC (zm10 hi) rfl rfl zu_X3 (by decide) zf_X3_9 rfl hd kk
theorem zgf_X3_15 (hC : zCtx l X cc RX3 nL lev bud Z) {i : Nat} (hi : i < 6) (hd : decode cc pc = .ok (.getfield 15, 3)) (kk : Z w G (pc + 3) lv (.ref (za G 12 i) :: st)) : Z w G pc lv (.ref (za G 10 i) :: st) := z_get (f := 1) hC (zm10 hi) rfl rfl zu_X3 (by decide) zf_X3_15 rfl hd kk
theorem zgf_X3_18 (hC : zCtx l X cc RX3 nL lev bud Z) {i : Nat} (hi : i < 6) (hd : decode cc pc = .ok (.getfield 18, 3)) (kk : Z w G (pc + 3) lv (.ref (za G 13 i) :: st)) : Z w G pc lv (.ref (za G 10 i) :: st) := z_get (f := 2) hC (zm10 hi) rfl rfl zu_X3 (by decide) zf_X3_18 rfl hd kk
theorem zgf_X3_21 (hC : zCtx l X cc RX3 nL lev bud Z) {i : Nat} (hi : i < 6) (hd : decode cc pc = .ok (.getfield 21, 3)) (kk : Z w G (pc + 3) lv (.ref (za G 14 i) :: st)) : Z w G pc lv (.ref (za G 10 i) :: st) := z_get (f := 3) hC (zm10 hi) rfl rfl zu_X3 (by decide) zf_X3_21 rfl hd kk
theorem zgf_X3_24 (hC : zCtx l X cc RX3 nL lev bud Z) {i : Nat} (hi : i < 6) (hd : decode cc pc = .ok (.getfield 24, 3)) (kk : Z w G (pc + 3) lv (.ref (za G 15 i) :: st)) : Z w G pc lv (.ref (za G 10 i) :: st) := z_get (f := 4) hC (zm10 hi) rfl rfl zu_X3 (by decide) zf_X3_24 rfl hd kk
theorem zgf_X3_27 (hC : zCtx l X cc RX3 nL lev bud Z) {i : Nat} (hi : i < 6) (hd : decode cc pc = .ok (.getfield 27, 3)) (kk : Z w G (pc + 3) lv (.ref (za G 16 i) :: st)) : Z w G pc lv (.ref (za G 10 i) :: st) := z_get (f := 5) hC (zm10 hi) rfl rfl zu_X3 (by decide) zf_X3_27 rfl hd kk
theorem zgf_X3_30 (hC : zCtx l X cc RX3 nL lev bud Z) {i : Nat} (hi : i < 6) (hd : decode cc pc = .ok (.getfield 30, 3)) (kk : Z w G (pc + 3) lv (.int (zg G 10 i 6) :: st)) : Z w G pc lv (.ref (za G 10 i) :: st) := z_get (f := 6) hC (zm10 hi) rfl rfl zu_X3 (by decide) zf_X3_30 rfl hd kk
theorem zpf_X3_30 (hC : zCtx l X cc RX3 nL lev bud Z) {i : Nat} (hi : i < 6) {x : Int32} (hd : decode cc pc = .ok (.putfield 30, 3)) (kk : Z w (zu G 10 i 6 x) (pc + 3) lv st) : Z w G pc lv (.int x :: .ref (za G 10 i) :: st) := z_put (f := 6) (G2 := zu G 10 i 6 x) (ty := .int) hC (zm10 hi) rfl rfl zu_X3 tyX3_ok nmX3 (by decide) zf_X3_30 rfl (by decide +kernel) rfl rfl (Nat.le_of_ble_eq_true rfl) rfl rfl ((z_ct_uS X G 10 i _).trans rfl) (fun k1 i1 _ => z_ct_uA X G 10 i _ k1 i1) hd kk
theorem zgf_X1_12 (hC : zCtx l X cc RX1 nL lev bud Z) {i : Nat} (hi : i < 6) (hd : decode cc pc = .ok (.getfield 12, 3)) (kk : Z w G (pc + 3) lv (.ref (za G 10 i) :: st)) : Z w G pc lv (.ref (za G 7 i) :: st) := z_get (f := 0) hC (zm7 hi) rfl rfl zu_X1 (by decide) zf_X1_12 rfl hd kk
theorem zgf_X1_18 (hC : zCtx l X cc RX1 nL lev bud Z) {i : Nat} (hi : i < 6) (hd : decode cc pc = .ok (.getfield 18, 3)) (kk : Z w G (pc + 3) lv (.ref (za G 8 i) :: st)) : Z w G pc lv (.ref (za G 7 i) :: st) := z_get (f := 1) hC (zm7 hi) rfl rfl zu_X1 (by decide) zf_X1_18 rfl hd kk
theorem zgf_X1_22 (hC : zCtx l X cc RX1 nL lev bud Z) {i : Nat} (hi : i < 6) (hd : decode cc pc = .ok (.getfield 22, 3)) (kk : Z w G (pc + 3) lv (.ref (za G 9 i) :: st)) : Z w G pc lv (.ref (za G 7 i) :: st) := z_get (f := 2) hC (zm7 hi) rfl rfl zu_X1 (by decide) zf_X1_22 rfl hd kk
theorem zgf_X1_26 (hC : zCtx l X cc RX1 nL lev bud Z) {i : Nat} (hi : i < 6) (hd : decode cc pc = .ok (.getfield 26, 3)) (kk : Z w G (pc + 3) lv (.int (zg G 7 i 3) :: st)) : Z w G pc lv (.ref (za G 7 i) :: st) := z_get (f := 3) hC (zm7 hi) rfl rfl zu_X1 (by decide) zf_X1_26 rfl hd kk
theorem zpf_X1_26 (hC : zCtx l X cc RX1 nL lev bud Z) {i : Nat} (hi : i < 6) (hd : decode cc pc = .ok (.putfield 26, 3)) (kk : Z w (zu G 7 i 3 (nI 1)) (pc + 3) lv st) : Z w G pc lv (.int (nI 1) :: .ref (za G 7 i) :: st) := z_put (f := 3) (G2 := zu G 7 i 3 (nI 1)) (ty := .boolean) hC (zm7 hi) rfl rfl zu_X1 tyX1_ok nmX1 (by decide) zf_X1_26 rfl (by decide +kernel) rfl rfl (Nat.le_of_ble_eq_true rfl) rfl rfl ((z_ct_uS X G 7 i _).trans rfl) (fun k1 i1 _ => z_ct_uA X G 7 i _ k1 i1) hd kk
theorem zgf_X1_30 (hC : zCtx l X cc RX1 nL lev bud Z) {i : Nat} (hi : i < 6) (hd : decode cc pc = .ok (.getfield 30, 3)) (kk : Z w G (pc + 3) lv (.int (zg G 7 i 4) :: st)) : Z w G pc lv (.ref (za G 7 i) :: st) := z_get (f := 4) hC (zm7 hi) rfl rfl zu_X1 (by decide) zf_X1_30 rfl hd kk
theorem zpf_X1_30 (hC : zCtx l X cc RX1 nL lev bud Z) {i : Nat} (hi : i < 6) {x : Int32} (hd : decode cc pc = .ok (.putfield 30, 3)) (kk : Z w (zu G 7 i 4 x) (pc + 3) lv st) : Z w G pc lv (.int x :: .ref (za G 7 i) :: st) := z_put (f := 4) (G2 := zu G 7 i 4 x) (ty := .int) hC (zm7 hi) rfl rfl zu_X1 tyX1_ok nmX1 (by decide) zf_X1_30 rfl (by decide +kernel) rfl rfl (Nat.le_of_ble_eq_true rfl) rfl rfl ((z_ct_uS X G 7 i _).trans rfl) (fun k1 i1 _ => z_ct_uA X G 7 i _ k1 i1) hd kk
theorem zgf_X1_34 (hC : zCtx l X cc RX1 nL lev bud Z) {i : Nat} (hi : i < 6) (hd : decode cc pc = .ok (.getfield 34, 3)) (kk : Z w G (pc + 3) lv (.int (zg G 7 i 5) :: st)) : Z w G pc lv (.ref (za G 7 i) :: st) := z_get (f := 5) hC (zm7 hi) rfl rfl zu_X1 (by decide) zf_X1_34 rfl hd kk
theorem zpf_X1_34 (hC : zCtx l X cc RX1 nL lev bud Z) {i : Nat} (hi : i < 6) {x : Int32} (hd : decode cc pc = .ok (.putfield 34, 3)) (kk : Z w (zu G 7 i 5 x) (pc + 3) lv st) : Z w G pc lv (.int x :: .ref (za G 7 i) :: st) := z_put (f := 5) (G2 := zu G 7 i 5 x) (ty := .int) hC (zm7 hi) rfl rfl zu_X1 tyX1_ok nmX1 (by decide) zf_X1_34 rfl (by decide +kernel) rfl rfl (Nat.le_of_ble_eq_true rfl) rfl rfl ((z_ct_uS X G 7 i _).trans rfl) (fun k1 i1 _ => z_ct_uA X G 7 i _ k1 i1) hd kk
theorem zgf_X4_11 (hC : zCtx l X cc RX4 nL lev bud Z) (hd : decode cc pc = .ok (.getfield 11, 3)) (kk : Z w G (pc + 3) lv (.ref (za G 1 0) :: st)) : Z w G pc lv (.ref (za G 0 0) :: st) := z_get (f := 0) hC zm0 rfl rfl zu_X4 (by decide) zf_X4_11 rfl hd kk
theorem zgf_X4_17 (hC : zCtx l X cc RX4 nL lev bud Z) (hd : decode cc pc = .ok (.getfield 17, 3)) (kk : Z w G (pc + 3) lv (.ref (za G 2 0) :: st)) : Z w G pc lv (.ref (za G 0 0) :: st) := z_get (f := 1) hC zm0 rfl rfl zu_X4 (by decide) zf_X4_17 rfl hd kk
theorem zgf_X4_23 (hC : zCtx l X cc RX4 nL lev bud Z) (hd : decode cc pc = .ok (.getfield 23, 3)) (kk : Z w G (pc + 3) lv (.ref (za G 3 0) :: st)) : Z w G pc lv (.ref (za G 0 0) :: st) := z_get (f := 2) hC zm0 rfl rfl zu_X4 (by decide) zf_X4_23 rfl hd kk
theorem zgf_X4_27 (hC : zCtx l X cc RX4 nL lev bud Z) (hd : decode cc pc = .ok (.getfield 27, 3)) (kk : Z w G (pc + 3) lv (.int (zg G 0 0 3) :: st)) : Z w G pc lv (.ref (za G 0 0) :: st) := z_get (f := 3) hC zm0 rfl rfl zu_X4 (by decide) zf_X4_27 rfl hd kk
theorem zpf_X4_27 (hC : zCtx l X cc RX4 nL lev bud Z) {x : Int32} (hd : decode cc pc = .ok (.putfield 27, 3)) (kk : Z w (zu G 0 0 3 x) (pc + 3) lv st) : Z w G pc lv (.int x :: .ref (za G 0 0) :: st) := z_put (f := 3) (G2 := zu G 0 0 3 x) (ty := .int) hC zm0 rfl rfl zu_X4 tyX4_ok nmX4 (by decide) zf_X4_27 rfl (by decide +kernel) rfl rfl (Nat.le_of_ble_eq_true rfl) rfl rfl ((z_ct_uS X G 0 0 _).trans rfl) (fun k1 i1 _ => z_ct_uA X G 0 0 _ k1 i1) hd kk
theorem zgf_X4_31 (hC : zCtx l X cc RX4 nL lev bud Z) (hd : decode cc pc = .ok (.getfield 31, 3)) (kk : Z w G (pc + 3) lv (.int (zg G 0 0 4) :: st)) : Z w G pc lv (.ref (za G 0 0) :: st) := z_get (f := 4) hC zm0 rfl rfl zu_X4 (by decide) zf_X4_31 rfl hd kk
theorem zpf_X4_31 (hC : zCtx l X cc RX4 nL lev bud Z) {x : Int32} (hd : decode cc pc = .ok (.putfield 31, 3)) (kk : Z w (zu G 0 0 4 x) (pc + 3) lv st) : Z w G pc lv (.int x :: .ref (za G 0 0) :: st) := z_put (f := 4) (G2 := zu G 0 0 4 x) (ty := .int) hC zm0 rfl rfl zu_X4 tyX4_ok nmX4 (by decide) zf_X4_31 rfl (by decide +kernel) rfl rfl (Nat.le_of_ble_eq_true rfl) rfl rfl ((z_ct_uS X G 0 0 _).trans rfl) (fun k1 i1 _ => z_ct_uA X G 0 0 _ k1 i1) hd kk
theorem zgf_X4_34 (hC : zCtx l X cc RX4 nL lev bud Z) (hd : decode cc pc = .ok (.getfield 34, 3)) (kk : Z w G (pc + 3) lv (.int (zg G 0 0 5) :: st)) : Z w G pc lv (.ref (za G 0 0) :: st) := z_get (f := 5) hC zm0 rfl rfl zu_X4 (by decide) zf_X4_34 rfl hd kk
theorem zpf_X4_34 (hC : zCtx l X cc RX4 nL lev bud Z) {x : Int32} (hd : decode cc pc = .ok (.putfield 34, 3)) (kk : Z w (zu G 0 0 5 x) (pc + 3) lv st) : Z w G pc lv (.int x :: .ref (za G 0 0) :: st) := z_put (f := 5) (G2 := zu G 0 0 5 x) (ty := .int) hC zm0 rfl rfl zu_X4 tyX4_ok nmX4 (by decide) zf_X4_34 rfl (by decide +kernel) rfl rfl (Nat.le_of_ble_eq_true rfl) rfl rfl ((z_ct_uS X G 0 0 _).trans rfl) (fun k1 i1 _ => z_ct_uA X G 0 0 _ k1 i1) hd kk
theorem zgf_X4_37 (hC : zCtx l X cc RX4 nL lev bud Z) (hd : decode cc pc = .ok (.getfield 37, 3)) (kk : Z w G (pc + 3) lv (.int (zg G 0 0 6) :: st)) : Z w G pc lv (.ref (za G 0 0) :: st) := z_get (f := 6) hC zm0 rfl rfl zu_X4 (by decide) zf_X4_37 rfl hd kk
theorem zpf_X4_37 (hC : zCtx l X cc RX4 nL lev bud Z) {x : Int32} (hd : decode cc pc = .ok (.putfield 37, 3)) (kk : Z w (zu G 0 0 6 x) (pc + 3) lv st) : Z w G pc lv (.int x :: .ref (za G 0 0) :: st) := z_put (f := 6) (G2 := zu G 0 0 6 x) (ty := .int) hC zm0 rfl rfl zu_X4 tyX4_ok nmX4 (by decide) zf_X4_37 rfl (by decide +kernel) rfl rfl (Nat.le_of_ble_eq_true rfl) rfl rfl ((z_ct_uS X G 0 0 _).trans rfl) (fun k1 i1 _ => z_ct_uA X G 0 0 _ k1 i1) hd kk
theorem zgf_X4_40 (hC : zCtx l X cc RX4 nL lev bud Z) (hd : decode cc pc = .ok (.getfield 40, 3)) (kk : Z w G (pc + 3) lv (.long (zt G 0) :: st)) : Z w G pc lv (.ref (za G 0 0) :: st) := z_get (f := 7) hC zm0 rfl rfl zu_X4 (by decide) zf_X4_40 rfl hd kk
theorem zpf_X4_40 (hC : zCtx l X cc RX4 nL lev bud Z) {x : Int64} (hd : decode cc pc = .ok (.putfield 40, 3)) (kk : Z w (zuT G 0 x) (pc + 3) lv st) : Z w G pc lv (.long x :: .ref (za G 0 0) :: st) := z_put (f := 7) (G2 := zuT G 0 x) (ty := .long) hC zm0 rfl rfl zu_X4 tyX4_ok nmX4 (by decide) zf_X4_40 rfl (by decide +kernel) rfl rfl (Nat.le_of_ble_eq_true rfl) rfl rfl rfl (fun k1 i1 h1 h2 => z_cuT0 _ _ _ _ _ k1 i1 _ (fun e => h2 ⟨e, zix_0 (e ▸ h1)⟩) rfl rfl) hd kk
theorem zgf_X2_7 (hC : zCtx l X cc RX2 nL lev bud Z) {i : Nat} (hi : i < zn G 0) (hd : decode cc pc = .ok (.getfield 7, 3)) (kk : Z w G (pc + 3) lv (.int (zg G 17 i 0) :: st)) : Z w G pc lv (.ref (za G 17 i) :: st) := z_get (f := 0) hC (zm17 hi) rfl rfl zu_X2 (by decide) zf_X2_7 rfl hd kk
theorem zgf_X2_13 (hC : zCtx l X cc RX2 nL lev bud Z) {i : Nat} (hi : i < zn G 0) (hd : decode cc pc = .ok (.getfield 13, 3)) (kk : Z w G (pc + 3) lv (.int (zg G 17 i 1) :: st)) : Z w G pc lv (.ref (za G 17 i) :: st) := z_get (f := 1) hC (zm17 hi) rfl rfl zu_X2 (by decide) zf_X2_13 rfl hd kk
theorem zgf_X2_16 (hC : zCtx l X cc RX2 nL lev bud Z) {i : Nat} (hi : i < zn G 0) (hd : decode cc pc = .ok (.getfield 16, 3)) (kk : Z w G (pc + 3) lv (.int (zg G 17 i 2) :: st)) : Z w G pc lv (.ref (za G 17 i) :: st) := z_get (f := 2) hC (zm17 hi) rfl rfl zu_X2 (by decide) zf_X2_16 rfl hd kk
theorem zgf_X2_19 (hC : zCtx l X cc RX2 nL lev bud Z) {i : Nat} (hi : i < zn G 0) (hd : decode cc pc = .ok (.getfield 19, 3)) (kk : Z w G (pc + 3) lv (.int (zg G 17 i 3) :: st)) : Z w G pc lv (.ref (za G 17 i) :: st) := z_get (f := 3) hC (zm17 hi) rfl rfl zu_X2 (by decide) zf_X2_19 rfl hd kk
theorem zgf_X5_7 (hC : zCtx l X cc RX5 nL lev bud Z) (hd : decode cc pc = .ok (.getfield 7, 3)) (kk : Z w G (pc + 3) lv (.int (zg G 20 0 0) :: st)) : Z w G pc lv (.ref (za G 20 0) :: st) := z_get (f := 0) hC zm20 rfl rfl zu_X5 (by decide) zf_X5_7 rfl hd kk
theorem zpf_X5_7 (hC : zCtx l X cc RX5 nL lev bud Z) {x : Int32} (hd : decode cc pc = .ok (.putfield 7, 3)) (kk : Z w (zu G 20 0 0 x) (pc + 3) lv st) : Z w G pc lv (.int x :: .ref (za G 20 0) :: st) := z_put (f := 0) (G2 := zu G 20 0 0 x) (ty := .int) hC zm20 rfl rfl zu_X5 tyX5_ok nmX5 (by decide) zf_X5_7 rfl (by decide +kernel) rfl rfl (Nat.le_of_ble_eq_true rfl) rfl rfl ((z_ct_uS X G 20 0 _).trans rfl) (fun k1 i1 _ => z_ct_uA X G 20 0 _ k1 i1) hd kk
theorem zgf_X5_13 (hC : zCtx l X cc RX5 nL lev bud Z) (hd : decode cc pc = .ok (.getfield 13, 3)) (kk : Z w G (pc + 3) lv (.ref (za G 21 0) :: st)) : Z w G pc lv (.ref (za G 20 0) :: st) := z_get (f := 1) hC zm20 rfl rfl zu_X5 (by decide) zf_X5_13 rfl hd kk
theorem zgf_X5_17 (hC : zCtx l X cc RX5 nL lev bud Z) (hd : decode cc pc = .ok (.getfield 17, 3)) (kk : Z w G (pc + 3) lv (.ref (za G 22 0) :: st)) : Z w G pc lv (.ref (za G 20 0) :: st) := z_get (f := 2) hC zm20 rfl rfl zu_X5 (by decide) zf_X5_17 rfl hd kk
theorem zgf_X5_20 (hC : zCtx l X cc RX5 nL lev bud Z) (hd : decode cc pc = .ok (.getfield 20, 3)) (kk : Z w G (pc + 3) lv (.ref (za G 23 0) :: st)) : Z w G pc lv (.ref (za G 20 0) :: st) := z_get (f := 3) hC zm20 rfl rfl zu_X5 (by decide) zf_X5_20 rfl hd kk
theorem zgf_X5_23 (hC : zCtx l X cc RX5 nL lev bud Z) (hd : decode cc pc = .ok (.getfield 23, 3)) (kk : Z w G (pc + 3) lv (.ref (za G 24 0) :: st)) : Z w G pc lv (.ref (za G 20 0) :: st) := z_get (f := 4) hC zm20 rfl rfl zu_X5 (by decide) zf_X5_23 rfl hd kk
theorem zgf_X5_26 (hC : zCtx l X cc RX5 nL lev bud Z) (hd : decode cc pc = .ok (.getfield 26, 3)) (kk : Z w G (pc + 3) lv (.ref (za G 25 0) :: st)) : Z w G pc lv (.ref (za G 20 0) :: st) := z_get (f := 5) hC zm20 rfl rfl zu_X5 (by decide) zf_X5_26 rfl hd kk
theorem zgf_X5_29 (hC : zCtx l X cc RX5 nL lev bud Z) (hd : decode cc pc = .ok (.getfield 29, 3)) (kk : Z w G (pc + 3) lv (.ref (za G 26 0) :: st)) : Z w G pc lv (.ref (za G 20 0) :: st) := z_get (f := 6) hC zm20 rfl rfl zu_X5 (by decide) zf_X5_29 rfl hd kk
theorem zgf_X5_32 (hC : zCtx l X cc RX5 nL lev bud Z) (hd : decode cc pc = .ok (.getfield 32, 3)) (kk : Z w G (pc + 3) lv (.ref (za G 27 0) :: st)) : Z w G pc lv (.ref (za G 20 0) :: st) := z_get (f := 7) hC zm20 rfl rfl zu_X5 (by decide) zf_X5_32 rfl hd kk
theorem zgf_X5_35 (hC : zCtx l X cc RX5 nL lev bud Z) (hd : decode cc pc = .ok (.getfield 35, 3)) (kk : Z w G (pc + 3) lv (.ref (za G 28 0) :: st)) : Z w G pc lv (.ref (za G 20 0) :: st) := z_get (f := 8) hC zm20 rfl rfl zu_X5 (by decide) zf_X5_35 rfl hd kk
theorem zgf_X5_38 (hC : zCtx l X cc RX5 nL lev bud Z) (hd : decode cc pc = .ok (.getfield 38, 3)) (kk : Z w G (pc + 3) lv (.ref (za G 29 0) :: st)) : Z w G pc lv (.ref (za G 20 0) :: st) := z_get (f := 9) hC zm20 rfl rfl zu_X5 (by decide) zf_X5_38 rfl hd kk
theorem zgf_X5_41 (hC : zCtx l X cc RX5 nL lev bud Z) (hd : decode cc pc = .ok (.getfield 41, 3)) (kk : Z w G (pc + 3) lv (.ref (za G 30 0) :: st)) : Z w G pc lv (.ref (za G 20 0) :: st) := z_get (f := 10) hC zm20 rfl rfl zu_X5 (by decide) zf_X5_41 rfl hd kk
theorem zgf_X5_45 (hC : zCtx l X cc RX5 nL lev bud Z) (hd : decode cc pc = .ok (.getfield 45, 3)) (kk : Z w G (pc + 3) lv (.ref (za G 31 0) :: st)) : Z w G pc lv (.ref (za G 20 0) :: st) := z_get (f := 11) hC zm20 rfl rfl zu_X5 (by decide) zf_X5_45 rfl hd kk
theorem zgf_X5_48 (hC : zCtx l X cc RX5 nL lev bud Z) (hd : decode cc pc = .ok (.getfield 48, 3)) (kk : Z w G (pc + 3) lv (.int (zg G 20 0 12) :: st)) : Z w G pc lv (.ref (za G 20 0) :: st) := z_get (f := 12) hC zm20 rfl rfl zu_X5 (by decide) zf_X5_48 rfl hd kk
theorem zpf_X5_48 (hC : zCtx l X cc RX5 nL lev bud Z) {x : Int32} (hd : decode cc pc = .ok (.putfield 48, 3)) (kk : Z w (zu G 20 0 12 x) (pc + 3) lv st) : Z w G pc lv (.int x :: .ref (za G 20 0) :: st) := z_put (f := 12) (G2 := zu G 20 0 12 x) (ty := .int) hC zm20 rfl rfl zu_X5 tyX5_ok nmX5 (by decide) zf_X5_48 rfl (by decide +kernel) rfl rfl (Nat.le_of_ble_eq_true rfl) rfl rfl ((z_ct_uS X G 20 0 _).trans rfl) (fun k1 i1 _ => z_ct_uA X G 20 0 _ k1 i1) hd kk
theorem zgf_X5_163 (hC : zCtx l X cc RX5 nL lev bud Z) (hd : decode cc pc = .ok (.getfield 163, 3)) (kk : Z w G (pc + 3) lv (.int (zg G 20 0 13) :: st)) : Z w G pc lv (.ref (za G 20 0) :: st) := z_get (f := 13) hC zm20 rfl rfl zu_X5 (by decide) zf_X5_163 rfl hd kk
theorem zpf_X5_163 (hC : zCtx l X cc RX5 nL lev bud Z) {x : Int32} (hd : decode cc pc = .ok (.putfield 163, 3)) (kk : Z w (zu G 20 0 13 x) (pc + 3) lv st) : Z w G pc lv (.int x :: .ref (za G 20 0) :: st) := z_put (f := 13) (G2 := zu G 20 0 13 x) (ty := .int) hC zm20 rfl rfl zu_X5 tyX5_ok nmX5 (by decide) zf_X5_163 rfl (by decide +kernel) rfl rfl (Nat.le_of_ble_eq_true rfl) rfl rfl ((z_ct_uS X G 20 0 _).trans rfl) (fun k1 i1 _ => z_ct_uA X G 20 0 _ k1 i1) hd kk
theorem zgf_X5_51 (hC : zCtx l X cc RX5 nL lev bud Z) (hd : decode cc pc = .ok (.getfield 51, 3)) (kk : Z w G (pc + 3) lv (.ref (za G 34 0) :: st)) : Z w G pc lv (.ref (za G 20 0) :: st) := z_get (f := 14) hC zm20 rfl rfl zu_X5 (by decide) zf_X5_51 rfl hd kk
theorem zgf_X5_54 (hC : zCtx l X cc RX5 nL lev bud Z) (hd : decode cc pc = .ok (.getfield 54, 3)) (kk : Z w G (pc + 3) lv (.ref (za G 35 0) :: st)) : Z w G pc lv (.ref (za G 20 0) :: st) := z_get (f := 15) hC zm20 rfl rfl zu_X5 (by decide) zf_X5_54 rfl hd kk
theorem zgf_X5_57 (hC : zCtx l X cc RX5 nL lev bud Z) (hd : decode cc pc = .ok (.getfield 57, 3)) (kk : Z w G (pc + 3) lv (.ref (za G 36 0) :: st)) : Z w G pc lv (.ref (za G 20 0) :: st) := z_get (f := 16) hC zm20 rfl rfl zu_X5 (by decide) zf_X5_57 rfl hd kk
theorem zgf_X5_60 (hC : zCtx l X cc RX5 nL lev bud Z) (hd : decode cc pc = .ok (.getfield 60, 3)) (kk : Z w G (pc + 3) lv (.ref (za G 37 0) :: st)) : Z w G pc lv (.ref (za G 20 0) :: st) := z_get (f := 17) hC zm20 rfl rfl zu_X5 (by decide) zf_X5_60 rfl hd kk
theorem zgf_X5_90 (hC : zCtx l X cc RX5 nL lev bud Z) (hd : decode cc pc = .ok (.getfield 90, 3)) (kk : Z w G (pc + 3) lv (.int (zg G 20 0 18) :: st)) : Z w G pc lv (.ref (za G 20 0) :: st) := z_get (f := 18) hC zm20 rfl rfl zu_X5 (by decide) zf_X5_90 rfl hd kk
theorem zpf_X5_90 (hC : zCtx l X cc RX5 nL lev bud Z) {x : Int32} (hd : decode cc pc = .ok (.putfield 90, 3)) (kk : Z w (zu G 20 0 18 x) (pc + 3) lv st) : Z w G pc lv (.int x :: .ref (za G 20 0) :: st) := z_put (f := 18) (G2 := zu G 20 0 18 x) (ty := .int) hC zm20 rfl rfl zu_X5 tyX5_ok nmX5 (by decide) zf_X5_90 rfl (by decide +kernel) rfl rfl (Nat.le_of_ble_eq_true rfl) rfl rfl ((z_ct_uS X G 20 0 _).trans rfl) (fun k1 i1 _ => z_ct_uA X G 20 0 _ k1 i1) hd kk
theorem zgf_X5_63 (hC : zCtx l X cc RX5 nL lev bud Z) (hd : decode cc pc = .ok (.getfield 63, 3)) (kk : Z w G (pc + 3) lv (.ref (za G 39 0) :: st)) : Z w G pc lv (.ref (za G 20 0) :: st) := z_get (f := 19) hC zm20 rfl rfl zu_X5 (by decide) zf_X5_63 rfl hd kk
theorem zgf_X5_66 (hC : zCtx l X cc RX5 nL lev bud Z) (hd : decode cc pc = .ok (.getfield 66, 3)) (kk : Z w G (pc + 3) lv (.ref (za G 40 0) :: st)) : Z w G pc lv (.ref (za G 20 0) :: st) := z_get (f := 20) hC zm20 rfl rfl zu_X5 (by decide) zf_X5_66 rfl hd kk
theorem zgf_X5_69 (hC : zCtx l X cc RX5 nL lev bud Z) (hd : decode cc pc = .ok (.getfield 69, 3)) (kk : Z w G (pc + 3) lv (.ref (za G 41 0) :: st)) : Z w G pc lv (.ref (za G 20 0) :: st) := z_get (f := 21) hC zm20 rfl rfl zu_X5 (by decide) zf_X5_69 rfl hd kk
theorem zgf_X5_72 (hC : zCtx l X cc RX5 nL lev bud Z) (hd : decode cc pc = .ok (.getfield 72, 3)) (kk : Z w G (pc + 3) lv (.ref (za G 42 0) :: st)) : Z w G pc lv (.ref (za G 20 0) :: st) := z_get (f := 22) hC zm20 rfl rfl zu_X5 (by decide) zf_X5_72 rfl hd kk
theorem zgf_X5_75 (hC : zCtx l X cc RX5 nL lev bud Z) (hd : decode cc pc = .ok (.getfield 75, 3)) (kk : Z w G (pc + 3) lv (.ref (za G 43 0) :: st)) : Z w G pc lv (.ref (za G 20 0) :: st) := z_get (f := 23) hC zm20 rfl rfl zu_X5 (by decide) zf_X5_75 rfl hd kk
theorem zgf_X5_144 (hC : zCtx l X cc RX5 nL lev bud Z) (hd : decode cc pc = .ok (.getfield 144, 3)) (kk : Z w G (pc + 3) lv (.long (zt G 1) :: st)) : Z w G pc lv (.ref (za G 20 0) :: st) := z_get (f := 24) hC zm20 rfl rfl zu_X5 (by decide) zf_X5_144 rfl hd kk
theorem zpf_X5_144 (hC : zCtx l X cc RX5 nL lev bud Z) {x : Int64} (hd : decode cc pc = .ok (.putfield 144, 3)) (kk : Z w (zuT G 1 x) (pc + 3) lv st) : Z w G pc lv (.long x :: .ref (za G 20 0) :: st) := z_put (f := 24) (G2 := zuT G 1 x) (ty := .long) hC zm20 rfl rfl zu_X5 tyX5_ok nmX5 (by decide) zf_X5_144 rfl (by decide +kernel) rfl rfl (Nat.le_of_ble_eq_true rfl) rfl rfl rfl (fun k1 i1 h1 h2 => z_cuT20 _ _ _ _ _ k1 i1 _ (fun e => h2 ⟨e, zix_20 (e ▸ h1)⟩) rfl) hd kk
theorem zgf_X5_78 (hC : zCtx l X cc RX5 nL lev bud Z) (hd : decode cc pc = .ok (.getfield 78, 3)) (kk : Z w G (pc + 3) lv (.ref (za G 45 0) :: st)) : Z w G pc lv (.ref (za G 20 0) :: st) := z_get (f := 25) hC zm20 rfl rfl zu_X5 (by decide) zf_X5_78 rfl hd kk
theorem zgf_X5_81 (hC : zCtx l X cc RX5 nL lev bud Z) (hd : decode cc pc = .ok (.getfield 81, 3)) (kk : Z w G (pc + 3) lv (.ref (za G 46 0) :: st)) : Z w G pc lv (.ref (za G 20 0) :: st) := z_get (f := 26) hC zm20 rfl rfl zu_X5 (by decide) zf_X5_81 rfl hd kk
theorem zgf_X5_84 (hC : zCtx l X cc RX5 nL lev bud Z) (hd : decode cc pc = .ok (.getfield 84, 3)) (kk : Z w G (pc + 3) lv (.ref (za G 47 0) :: st)) : Z w G pc lv (.ref (za G 20 0) :: st) := z_get (f := 27) hC zm20 rfl rfl zu_X5 (by decide) zf_X5_84 rfl hd kk
theorem zgf_X5_125 (hC : zCtx l X cc RX5 nL lev bud Z) (hd : decode cc pc = .ok (.getfield 125, 3)) (kk : Z w G (pc + 3) lv (.long (zt G 2) :: st)) : Z w G pc lv (.ref (za G 20 0) :: st) := z_get (f := 28) hC zm20 rfl rfl zu_X5 (by decide) zf_X5_125 rfl hd kk
theorem zpf_X5_125 (hC : zCtx l X cc RX5 nL lev bud Z) {x : Int64} (hd : decode cc pc = .ok (.putfield 125, 3)) (kk : Z w (zuT G 2 x) (pc + 3) lv st) : Z w G pc lv (.long x :: .ref (za G 20 0) :: st) := z_put (f := 28) (G2 := zuT G 2 x) (ty := .long) hC zm20 rfl rfl zu_X5 tyX5_ok nmX5 (by decide) zf_X5_125 rfl (by decide +kernel) rfl rfl (Nat.le_of_ble_eq_true rfl) rfl rfl rfl (fun k1 i1 h1 h2 => z_cuT20 _ _ _ _ _ k1 i1 _ (fun e => h2 ⟨e, zix_20 (e ▸ h1)⟩) rfl) hd kk
theorem zgf_X5_122 (hC : zCtx l X cc RX5 nL lev bud Z) (hd : decode cc pc = .ok (.getfield 122, 3)) (kk : Z w G (pc + 3) lv (.int (zg G 20 0 29) :: st)) : Z w G pc lv (.ref (za G 20 0) :: st) := z_get (f := 29) hC zm20 rfl rfl zu_X5 (by decide) zf_X5_122 rfl hd kk
theorem zpf_X5_122 (hC : zCtx l X cc RX5 nL lev bud Z) {x : Int32} (hd : decode cc pc = .ok (.putfield 122, 3)) (kk : Z w (zu G 20 0 29 x) (pc + 3) lv st) : Z w G pc lv (.int x :: .ref (za G 20 0) :: st) := z_put (f := 29) (G2 := zu G 20 0 29 x) (ty := .int) hC zm20 rfl rfl zu_X5 tyX5_ok nmX5 (by decide) zf_X5_122 rfl (by decide +kernel) rfl rfl (Nat.le_of_ble_eq_true rfl) rfl rfl ((z_ct_uS X G 20 0 _).trans rfl) (fun k1 i1 _ => z_ct_uA X G 20 0 _ k1 i1) hd kk
theorem zgf_X5_87 (hC : zCtx l X cc RX5 nL lev bud Z) (hd : decode cc pc = .ok (.getfield 87, 3)) (kk : Z w G (pc + 3) lv (.ref (za G 50 0) :: st)) : Z w G pc lv (.ref (za G 20 0) :: st) := z_get (f := 30) hC zm20 rfl rfl zu_X5 (by decide) zf_X5_87 rfl hd kk
theorem zgf_X4_66 (hC : zCtx l X cc RX4 nL lev bud Z) {i : Nat} (hi : i < 8) (hd : decode cc pc = .ok (.getfield 66, 3)) (kk : Z w G (pc + 3) lv (.ref (za G 5 i) :: st)) : Z w G pc lv (.ref (za G 4 i) :: st) := z_getN (f := 0) hC (zm4 hi) rfl rfl zu_X0 (by decide) zfn_X4_66 rfl hd kk
theorem zgf_X4_180 (hC : zCtx l X cc RX4 nL lev bud Z) {i : Nat} (hi : i < 8) (hd : decode cc pc = .ok (.getfield 180, 3)) (kk : Z w G (pc + 3) lv (.ref (za G 6 i) :: st)) : Z w G pc lv (.ref (za G 4 i) :: st) := z_getN (f := 1) hC (zm4 hi) rfl rfl zu_X0 (by decide) zfn_X4_180 rfl hd kk
theorem zgf_X4_135 (hC : zCtx l X cc RX4 nL lev bud Z) {i : Nat} (hi : i < 8) (hd : decode cc pc = .ok (.getfield 135, 3)) (kk : Z w G (pc + 3) lv (.int (zg G 4 i 2) :: st)) : Z w G pc lv (.ref (za G 4 i) :: st) := z_getN (f := 2) hC (zm4 hi) rfl rfl zu_X0 (by decide) zfn_X4_135 rfl hd kk
theorem zpf_X4_135 (hC : zCtx l X cc RX4 nL lev bud Z) {i : Nat} (hi : i < 8) {x : Int32} (hd : decode cc pc = .ok (.putfield 135, 3)) (kk : Z w (zu G 4 i 2 x) (pc + 3) lv st) : Z w G pc lv (.int x :: .ref (za G 4 i) :: st) := z_putN (f := 2) (G2 := zu G 4 i 2 x) (ty := .int) hC (zm4 hi) rfl rfl zu_X0 tyX0_ok nmX0 (by decide) zfn_X4_135 rfl (by decide +kernel) rfl rfl (Nat.le_of_ble_eq_true rfl) rfl rfl ((z_ct_uS X G 4 i _).trans rfl) (fun k1 i1 _ => z_ct_uA X G 4 i _ k1 i1) hd kk
theorem zgf_X4_138 (hC : zCtx l X cc RX4 nL lev bud Z) {i : Nat} (hi : i < 8) (hd : decode cc pc = .ok (.getfield 138, 3)) (kk : Z w G (pc + 3) lv (.int (zg G 4 i 3) :: st)) : Z w G pc lv (.ref (za G 4 i) :: st) := z_getN (f := 3) hC (zm4 hi) rfl rfl zu_X0 (by decide) zfn_X4_138 rfl hd kk
theorem zpf_X4_138 (hC : zCtx l X cc RX4 nL lev bud Z) {i : Nat} (hi : i < 8) {x : Int32} (hd : decode cc pc = .ok (.putfield 138, 3)) (kk : Z w (zu G 4 i 3 x) (pc + 3) lv st) : Z w G pc lv (.int x :: .ref (za G 4 i) :: st) := z_putN (f := 3) (G2 := zu G 4 i 3 x) (ty := .int) hC (zm4 hi) rfl rfl zu_X0 tyX0_ok nmX0 (by decide) zfn_X4_138 rfl (by decide +kernel) rfl rfl (Nat.le_of_ble_eq_true rfl) rfl rfl ((z_ct_uS X G 4 i _).trans rfl) (fun k1 i1 _ => z_ct_uA X G 4 i _ k1 i1) hd kk
theorem zgf_X4_210 (hC : zCtx l X cc RX4 nL lev bud Z) {i : Nat} (hi : i < 8) (hd : decode cc pc = .ok (.getfield 210, 3)) (kk : Z w G (pc + 3) lv (.int (zg G 4 i 4) :: st)) : Z w G pc lv (.ref (za G 4 i) :: st) := z_getN (f := 4) hC (zm4 hi) rfl rfl zu_X0 (by decide) zfn_X4_210 rfl hd kk
theorem zpf_X4_210 (hC : zCtx l X cc RX4 nL lev bud Z) {i : Nat} (hi : i < 8) {x : Int32} (hd : decode cc pc = .ok (.putfield 210, 3)) (kk : Z w (zu G 4 i 4 x) (pc + 3) lv st) : Z w G pc lv (.int x :: .ref (za G 4 i) :: st) := z_putN (f := 4) (G2 := zu G 4 i 4 x) (ty := .int) hC (zm4 hi) rfl rfl zu_X0 tyX0_ok nmX0 (by decide) zfn_X4_210 rfl (by decide +kernel) rfl rfl (Nat.le_of_ble_eq_true rfl) rfl rfl ((z_ct_uS X G 4 i _).trans rfl) (fun k1 i1 _ => z_ct_uA X G 4 i _ k1 i1) hd kk
theorem zgf_X1_50 (hC : zCtx l X cc RX1 nL lev bud Z) {i : Nat} (hi : i < 6) (hd : decode cc pc = .ok (.getfield 50, 3)) (kk : Z w G (pc + 3) lv (.int (zg G 10 i 6) :: st)) : Z w G pc lv (.ref (za G 10 i) :: st) := z_getN (f := 6) hC (zm10 hi) rfl rfl zu_X3 (by decide) zfn_X1_50 rfl hd kk
theorem zpf_X1_50 (hC : zCtx l X cc RX1 nL lev bud Z) {i : Nat} (hi : i < 6) {x : Int32} (hd : decode cc pc = .ok (.putfield 50, 3)) (kk : Z w (zu G 10 i 6 x) (pc + 3) lv st) : Z w G pc lv (.int x :: .ref (za G 10 i) :: st) := z_putN (f := 6) (G2 := zu G 10 i 6 x) (ty := .int) hC (zm10 hi) rfl rfl zu_X3 tyX3_ok nmX3 (by decide) zfn_X1_50 rfl (by decide +kernel) rfl rfl (Nat.le_of_ble_eq_true rfl) rfl rfl ((z_ct_uS X G 10 i _).trans rfl) (fun k1 i1 _ => z_ct_uA X G 10 i _ k1 i1) hd kk
theorem zgf_X4_103 (hC : zCtx l X cc RX4 nL lev bud Z) {i : Nat} (hi : i < 6) (hd : decode cc pc = .ok (.getfield 103, 3)) (kk : Z w G (pc + 3) lv (.int (zg G 10 i 6) :: st)) : Z w G pc lv (.ref (za G 10 i) :: st) := z_getN (f := 6) hC (zm10 hi) rfl rfl zu_X3 (by decide) zfn_X4_103 rfl hd kk
theorem zpf_X4_103 (hC : zCtx l X cc RX4 nL lev bud Z) {i : Nat} (hi : i < 6) {x : Int32} (hd : decode cc pc = .ok (.putfield 103, 3)) (kk : Z w (zu G 10 i 6 x) (pc + 3) lv st) : Z w G pc lv (.int x :: .ref (za G 10 i) :: st) := z_putN (f := 6) (G2 := zu G 10 i 6 x) (ty := .int) hC (zm10 hi) rfl rfl zu_X3 tyX3_ok nmX3 (by decide) zfn_X4_103 rfl (by decide +kernel) rfl rfl (Nat.le_of_ble_eq_true rfl) rfl rfl ((z_ct_uS X G 10 i _).trans rfl) (fun k1 i1 _ => z_ct_uA X G 10 i _ k1 i1) hd kk
theorem zgf_X4_83 (hC : zCtx l X cc RX4 nL lev bud Z) {i : Nat} (hi : i < 6) (hd : decode cc pc = .ok (.getfield 83, 3)) (kk : Z w G (pc + 3) lv (.ref (za G 10 i) :: st)) : Z w G pc lv (.ref (za G 7 i) :: st) := z_getN (f := 0) hC (zm7 hi) rfl rfl zu_X1 (by decide) zfn_X4_83 rfl hd kk
theorem zgf_X4_124 (hC : zCtx l X cc RX4 nL lev bud Z) {i : Nat} (hi : i < 6) (hd : decode cc pc = .ok (.getfield 124, 3)) (kk : Z w G (pc + 3) lv (.ref (za G 9 i) :: st)) : Z w G pc lv (.ref (za G 7 i) :: st) := z_getN (f := 2) hC (zm7 hi) rfl rfl zu_X1 (by decide) zfn_X4_124 rfl hd kk
theorem zgf_X4_77 (hC : zCtx l X cc RX4 nL lev bud Z) {i : Nat} (hi : i < 6) (hd : decode cc pc = .ok (.getfield 77, 3)) (kk : Z w G (pc + 3) lv (.int (zg G 7 i 4) :: st)) : Z w G pc lv (.ref (za G 7 i) :: st) := z_getN (f := 4) hC (zm7 hi) rfl rfl zu_X1 (by decide) zfn_X4_77 rfl hd kk
theorem zpf_X4_77 (hC : zCtx l X cc RX4 nL lev bud Z) {i : Nat} (hi : i < 6) {x : Int32} (hd : decode cc pc = .ok (.putfield 77, 3)) (kk : Z w (zu G 7 i 4 x) (pc + 3) lv st) : Z w G pc lv (.int x :: .ref (za G 7 i) :: st) := z_putN (f := 4) (G2 := zu G 7 i 4 x) (ty := .int) hC (zm7 hi) rfl rfl zu_X1 tyX1_ok nmX1 (by decide) zfn_X4_77 rfl (by decide +kernel) rfl rfl (Nat.le_of_ble_eq_true rfl) rfl rfl ((z_ct_uS X G 7 i _).trans rfl) (fun k1 i1 _ => z_ct_uA X G 7 i _ k1 i1) hd kk
theorem zgf_X4_216 (hC : zCtx l X cc RX4 nL lev bud Z) {i : Nat} (hi : i < 6) (hd : decode cc pc = .ok (.getfield 216, 3)) (kk : Z w G (pc + 3) lv (.int (zg G 7 i 5) :: st)) : Z w G pc lv (.ref (za G 7 i) :: st) := z_getN (f := 5) hC (zm7 hi) rfl rfl zu_X1 (by decide) zfn_X4_216 rfl hd kk
theorem zpf_X4_216 (hC : zCtx l X cc RX4 nL lev bud Z) {i : Nat} (hi : i < 6) {x : Int32} (hd : decode cc pc = .ok (.putfield 216, 3)) (kk : Z w (zu G 7 i 5 x) (pc + 3) lv st) : Z w G pc lv (.int x :: .ref (za G 7 i) :: st) := z_putN (f := 5) (G2 := zu G 7 i 5 x) (ty := .int) hC (zm7 hi) rfl rfl zu_X1 tyX1_ok nmX1 (by decide) zfn_X4_216 rfl (by decide +kernel) rfl rfl (Nat.le_of_ble_eq_true rfl) rfl rfl ((z_ct_uS X G 7 i _).trans rfl) (fun k1 i1 _ => z_ct_uA X G 7 i _ k1 i1) hd kk
theorem zgf_X4_168 (hC : zCtx l X cc RX4 nL lev bud Z) {i : Nat} (hi : i < zn G 0) (hd : decode cc pc = .ok (.getfield 168, 3)) (kk : Z w G (pc + 3) lv (.int (zg G 17 i 0) :: st)) : Z w G pc lv (.ref (za G 17 i) :: st) := z_getN (f := 0) hC (zm17 hi) rfl rfl zu_X2 (by decide) zfn_X4_168 rfl hd kk
theorem zgf_X4_171 (hC : zCtx l X cc RX4 nL lev bud Z) {i : Nat} (hi : i < zn G 0) (hd : decode cc pc = .ok (.getfield 171, 3)) (kk : Z w G (pc + 3) lv (.int (zg G 17 i 1) :: st)) : Z w G pc lv (.ref (za G 17 i) :: st) := z_getN (f := 1) hC (zm17 hi) rfl rfl zu_X2 (by decide) zfn_X4_171 rfl hd kk
theorem zgf_X4_174 (hC : zCtx l X cc RX4 nL lev bud Z) {i : Nat} (hi : i < zn G 0) (hd : decode cc pc = .ok (.getfield 174, 3)) (kk : Z w G (pc + 3) lv (.int (zg G 17 i 2) :: st)) : Z w G pc lv (.ref (za G 17 i) :: st) := z_getN (f := 2) hC (zm17 hi) rfl rfl zu_X2 (by decide) zfn_X4_174 rfl hd kk
theorem zgf_X4_177 (hC : zCtx l X cc RX4 nL lev bud Z) {i : Nat} (hi : i < zn G 0) (hd : decode cc pc = .ok (.getfield 177, 3)) (kk : Z w G (pc + 3) lv (.int (zg G 17 i 3) :: st)) : Z w G pc lv (.ref (za G 17 i) :: st) := z_getN (f := 3) hC (zm17 hi) rfl rfl zu_X2 (by decide) zfn_X4_177 rfl hd kk
theorem zal_5 (hC : zCtx l X cc own nL lev bud Z) {i : Nat} (hi : i < 8) {j : Nat} (hj : j < 40) (hd : decode cc pc = .ok (.iaload, 1)) (kk : Z w G (pc + 1) lv (.int (zg G 5 i j) :: st)) : Z w G pc lv (.int (nI j) :: .ref (za G 5 i) :: st) := z_iald hC (zm5 hi) rfl hj (by decide) hd kk
theorem zas_5 (hC : zCtx l X cc own nL lev bud Z) {i : Nat} (hi : i < 8) {j : Nat} {x : Int32} (hj : j < 40) (hd : decode cc pc = .ok (.iastore, 1)) (kk : Z w (zu G 5 i j x) (pc + 1) lv st) : Z w G pc lv (.int x :: .int (nI j) :: .ref (za G 5 i) :: st) := z_iast hC (zm5 hi) rfl hj (by decide) (fun f2 => z_ct_uS X G 5 i f2) hd kk
theorem zal_6 (hC : zCtx l X cc own nL lev bud Z) {i : Nat} (hi : i < 8) {j : Nat} (hj : j < 6) (hd : decode cc pc = .ok (.iaload, 1)) (kk : Z w G (pc + 1) lv (.int (zg G 6 i j) :: st)) : Z w G pc lv (.int (nI j) :: .ref (za G 6 i) :: st) := z_iald hC (zm6 hi) rfl hj (by decide) hd kk
theorem zas_6 (hC : zCtx l X cc own nL lev bud Z) {i : Nat} (hi : i < 8) {j : Nat} {x : Int32} (hj : j < 6) (hd : decode cc pc = .ok (.iastore, 1)) (kk : Z w (zu G 6 i j x) (pc + 1) lv st) : Z w G pc lv (.int x :: .int (nI j) :: .ref (za G 6 i) :: st) := z_iast hC (zm6 hi) rfl hj (by decide) (fun f2 => z_ct_uS X G 6 i f2) hd kk
theorem zal_8 (hC : zCtx l X cc own nL lev bud Z) {i : Nat} (hi : i < 6) {j : Nat} (hj : j < 320) (hd : decode cc pc = .ok (.iaload, 1)) (kk : Z w G (pc + 1) lv (.int (zg G 8 i j) :: st)) : Z w G pc lv (.int (nI j) :: .ref (za G 8 i) :: st) := z_iald hC (zm8 hi) rfl hj (by decide) hd kk
theorem zas_8 (hC : zCtx l X cc own nL lev bud Z) {i : Nat} (hi : i < 6) {j : Nat} {x : Int32} (hj : j < 320) (hd : decode cc pc = .ok (.iastore, 1)) (kk : Z w (zu G 8 i j x) (pc + 1) lv st) : Z w G pc lv (.int x :: .int (nI j) :: .ref (za G 8 i) :: st) := z_iast hC (zm8 hi) rfl hj (by decide) (fun f2 => z_ct_uS X G 8 i f2) hd kk
theorem zal_9 (hC : zCtx l X cc own nL lev bud Z) {i : Nat} (hi : i < 6) {j : Nat} (hj : j < 100) (hd : decode cc pc = .ok (.baload, 1)) (kk : Z w G (pc + 1) lv (.int (zg G 9 i j) :: st)) : Z w G pc lv (.int (nI j) :: .ref (za G 9 i) :: st) := z_zald hC (zm9 hi) rfl hj (by decide) hd kk
theorem zas_9 (hC : zCtx l X cc own nL lev bud Z) {i : Nat} (hi : i < 6) {j : Nat} (hj : j < 100) (hd : decode cc pc = .ok (.bastore, 1)) (kk : Z w (zu G 9 i j (nI 1)) (pc + 1) lv st) : Z w G pc lv (.int (nI 1) :: .int (nI j) :: .ref (za G 9 i) :: st) := z_zast hC (zm9 hi) rfl hj (by decide) (fun f2 => z_ct_uS X G 9 i f2) hd (by rw [show vp_nar .boolean (nI 1) = nI 1 from by decide +kernel]; exact kk)
theorem zal_11 (hC : zCtx l X cc own nL lev bud Z) {i : Nat} (hi : i < 6) {j : Nat} (hj : j < 12) (hd : decode cc pc = .ok (.iaload, 1)) (kk : Z w G (pc + 1) lv (.int (zg G 11 i j) :: st)) : Z w G pc lv (.int (nI j) :: .ref (za G 11 i) :: st) := z_iald hC (zm11 hi) rfl hj (by decide) hd kk
theorem zas_11 (hC : zCtx l X cc own nL lev bud Z) {i : Nat} (hi : i < 6) {j : Nat} {x : Int32} (hj : j < 12) (hd : decode cc pc = .ok (.iastore, 1)) (kk : Z w (zu G 11 i j x) (pc + 1) lv st) : Z w G pc lv (.int x :: .int (nI j) :: .ref (za G 11 i) :: st) := z_iast hC (zm11 hi) rfl hj (by decide) (fun f2 => z_ct_uS X G 11 i f2) hd kk
theorem zal_12 (hC : zCtx l X cc own nL lev bud Z) {i : Nat} (hi : i < 6) {j : Nat} (hj : j < 12) (hd : decode cc pc = .ok (.iaload, 1)) (kk : Z w G (pc + 1) lv (.int (zg G 12 i j) :: st)) : Z w G pc lv (.int (nI j) :: .ref (za G 12 i) :: st) := z_iald hC (zm12 hi) rfl hj (by decide) hd kk
theorem zas_12 (hC : zCtx l X cc own nL lev bud Z) {i : Nat} (hi : i < 6) {j : Nat} {x : Int32} (hj : j < 12) (hd : decode cc pc = .ok (.iastore, 1)) (kk : Z w (zu G 12 i j x) (pc + 1) lv st) : Z w G pc lv (.int x :: .int (nI j) :: .ref (za G 12 i) :: st) := z_iast hC (zm12 hi) rfl hj (by decide) (fun f2 => z_ct_uS X G 12 i f2) hd kk
theorem zal_13 (hC : zCtx l X cc own nL lev bud Z) {i : Nat} (hi : i < 6) {j : Nat} (hj : j < 12) (hd : decode cc pc = .ok (.iaload, 1)) (kk : Z w G (pc + 1) lv (.int (zg G 13 i j) :: st)) : Z w G pc lv (.int (nI j) :: .ref (za G 13 i) :: st) := z_iald hC (zm13 hi) rfl hj (by decide) hd kk
theorem zas_13 (hC : zCtx l X cc own nL lev bud Z) {i : Nat} (hi : i < 6) {j : Nat} {x : Int32} (hj : j < 12) (hd : decode cc pc = .ok (.iastore, 1)) (kk : Z w (zu G 13 i j x) (pc + 1) lv st) : Z w G pc lv (.int x :: .int (nI j) :: .ref (za G 13 i) :: st) := z_iast hC (zm13 hi) rfl hj (by decide) (fun f2 => z_ct_uS X G 13 i f2) hd kk
theorem zal_14 (hC : zCtx l X cc own nL lev bud Z) {i : Nat} (hi : i < 6) {j : Nat} (hj : j < 12) (hd : decode cc pc = .ok (.iaload, 1)) (kk : Z w G (pc + 1) lv (.int (zg G 14 i j) :: st)) : Z w G pc lv (.int (nI j) :: .ref (za G 14 i) :: st) := z_iald hC (zm14 hi) rfl hj (by decide) hd kk
theorem zas_14 (hC : zCtx l X cc own nL lev bud Z) {i : Nat} (hi : i < 6) {j : Nat} {x : Int32} (hj : j < 12) (hd : decode cc pc = .ok (.iastore, 1)) (kk : Z w (zu G 14 i j x) (pc + 1) lv st) : Z w G pc lv (.int x :: .int (nI j) :: .ref (za G 14 i) :: st) := z_iast hC (zm14 hi) rfl hj (by decide) (fun f2 => z_ct_uS X G 14 i f2) hd kk
theorem zal_15 (hC : zCtx l X cc own nL lev bud Z) {i : Nat} (hi : i < 6) {j : Nat} (hj : j < 12) (hd : decode cc pc = .ok (.iaload, 1)) (kk : Z w G (pc + 1) lv (.int (zg G 15 i j) :: st)) : Z w G pc lv (.int (nI j) :: .ref (za G 15 i) :: st) := z_iald hC (zm15 hi) rfl hj (by decide) hd kk
theorem zas_15 (hC : zCtx l X cc own nL lev bud Z) {i : Nat} (hi : i < 6) {j : Nat} {x : Int32} (hj : j < 12) (hd : decode cc pc = .ok (.iastore, 1)) (kk : Z w (zu G 15 i j x) (pc + 1) lv st) : Z w G pc lv (.int x :: .int (nI j) :: .ref (za G 15 i) :: st) := z_iast hC (zm15 hi) rfl hj (by decide) (fun f2 => z_ct_uS X G 15 i f2) hd kk
theorem zal_16 (hC : zCtx l X cc own nL lev bud Z) {i : Nat} (hi : i < 6) {j : Nat} (hj : j < 96) (hd : decode cc pc = .ok (.iaload, 1)) (kk : Z w G (pc + 1) lv (.int (zg G 16 i j) :: st)) : Z w G pc lv (.int (nI j) :: .ref (za G 16 i) :: st) := z_iald hC (zm16 hi) rfl hj (by decide) hd kk
theorem zas_16 (hC : zCtx l X cc own nL lev bud Z) {i : Nat} (hi : i < 6) {j : Nat} {x : Int32} (hj : j < 96) (hd : decode cc pc = .ok (.iastore, 1)) (kk : Z w (zu G 16 i j x) (pc + 1) lv st) : Z w G pc lv (.int x :: .int (nI j) :: .ref (za G 16 i) :: st) := z_iast hC (zm16 hi) rfl hj (by decide) (fun f2 => z_ct_uS X G 16 i f2) hd kk
theorem zal_21 (hC : zCtx l X cc own nL lev bud Z) {j : Nat} (hj : j < 320) (hd : decode cc pc = .ok (.iaload, 1)) (kk : Z w G (pc + 1) lv (.int (zg G 21 0 j) :: st)) : Z w G pc lv (.int (nI j) :: .ref (za G 21 0) :: st) := z_iald hC zm21 rfl hj (by decide) hd kk
theorem zas_21 (hC : zCtx l X cc own nL lev bud Z) {j : Nat} {x : Int32} (hj : j < 320) (hd : decode cc pc = .ok (.iastore, 1)) (kk : Z w (zu G 21 0 j x) (pc + 1) lv st) : Z w G pc lv (.int x :: .int (nI j) :: .ref (za G 21 0) :: st) := z_iast hC zm21 rfl hj (by decide) (fun f2 => z_ct_uS X G 21 0 f2) hd kk
theorem zal_22 (hC : zCtx l X cc own nL lev bud Z) {j : Nat} (hj : j < 6) (hd : decode cc pc = .ok (.iaload, 1)) (kk : Z w G (pc + 1) lv (.int (zg G 22 0 j) :: st)) : Z w G pc lv (.int (nI j) :: .ref (za G 22 0) :: st) := z_iald hC zm22 rfl hj (by decide) hd kk
theorem zas_22 (hC : zCtx l X cc own nL lev bud Z) {j : Nat} {x : Int32} (hj : j < 6) (hd : decode cc pc = .ok (.iastore, 1)) (kk : Z w (zu G 22 0 j x) (pc + 1) lv st) : Z w G pc lv (.int x :: .int (nI j) :: .ref (za G 22 0) :: st) := z_iast hC zm22 rfl hj (by decide) (fun f2 => z_ct_uS X G 22 0 f2) hd kk
theorem zal_23 (hC : zCtx l X cc own nL lev bud Z) {j : Nat} (hj : j < 6) (hd : decode cc pc = .ok (.iaload, 1)) (kk : Z w G (pc + 1) lv (.int (zg G 23 0 j) :: st)) : Z w G pc lv (.int (nI j) :: .ref (za G 23 0) :: st) := z_iald hC zm23 rfl hj (by decide) hd kk
theorem zas_23 (hC : zCtx l X cc own nL lev bud Z) {j : Nat} {x : Int32} (hj : j < 6) (hd : decode cc pc = .ok (.iastore, 1)) (kk : Z w (zu G 23 0 j x) (pc + 1) lv st) : Z w G pc lv (.int x :: .int (nI j) :: .ref (za G 23 0) :: st) := z_iast hC zm23 rfl hj (by decide) (fun f2 => z_ct_uS X G 23 0 f2) hd kk
theorem zal_24 (hC : zCtx l X cc own nL lev bud Z) {j : Nat} (hj : j < 72) (hd : decode cc pc = .ok (.iaload, 1)) (kk : Z w G (pc + 1) lv (.int (zg G 24 0 j) :: st)) : Z w G pc lv (.int (nI j) :: .ref (za G 24 0) :: st) := z_iald hC zm24 rfl hj (by decide) hd kk
theorem zas_24 (hC : zCtx l X cc own nL lev bud Z) {j : Nat} {x : Int32} (hj : j < 72) (hd : decode cc pc = .ok (.iastore, 1)) (kk : Z w (zu G 24 0 j x) (pc + 1) lv st) : Z w G pc lv (.int x :: .int (nI j) :: .ref (za G 24 0) :: st) := z_iast hC zm24 rfl hj (by decide) (fun f2 => z_ct_uS X G 24 0 f2) hd kk
theorem zal_25 (hC : zCtx l X cc own nL lev bud Z) {j : Nat} (hj : j < 72) (hd : decode cc pc = .ok (.iaload, 1)) (kk : Z w G (pc + 1) lv (.int (zg G 25 0 j) :: st)) : Z w G pc lv (.int (nI j) :: .ref (za G 25 0) :: st) := z_iald hC zm25 rfl hj (by decide) hd kk
theorem zas_25 (hC : zCtx l X cc own nL lev bud Z) {j : Nat} {x : Int32} (hj : j < 72) (hd : decode cc pc = .ok (.iastore, 1)) (kk : Z w (zu G 25 0 j x) (pc + 1) lv st) : Z w G pc lv (.int x :: .int (nI j) :: .ref (za G 25 0) :: st) := z_iast hC zm25 rfl hj (by decide) (fun f2 => z_ct_uS X G 25 0 f2) hd kk
theorem zal_26 (hC : zCtx l X cc own nL lev bud Z) {j : Nat} (hj : j < 72) (hd : decode cc pc = .ok (.iaload, 1)) (kk : Z w G (pc + 1) lv (.int (zg G 26 0 j) :: st)) : Z w G pc lv (.int (nI j) :: .ref (za G 26 0) :: st) := z_iald hC zm26 rfl hj (by decide) hd kk
theorem zas_26 (hC : zCtx l X cc own nL lev bud Z) {j : Nat} {x : Int32} (hj : j < 72) (hd : decode cc pc = .ok (.iastore, 1)) (kk : Z w (zu G 26 0 j x) (pc + 1) lv st) : Z w G pc lv (.int x :: .int (nI j) :: .ref (za G 26 0) :: st) := z_iast hC zm26 rfl hj (by decide) (fun f2 => z_ct_uS X G 26 0 f2) hd kk
theorem zal_27 (hC : zCtx l X cc own nL lev bud Z) {j : Nat} (hj : j < 72) (hd : decode cc pc = .ok (.iaload, 1)) (kk : Z w G (pc + 1) lv (.int (zg G 27 0 j) :: st)) : Z w G pc lv (.int (nI j) :: .ref (za G 27 0) :: st) := z_iald hC zm27 rfl hj (by decide) hd kk
theorem zas_27 (hC : zCtx l X cc own nL lev bud Z) {j : Nat} {x : Int32} (hj : j < 72) (hd : decode cc pc = .ok (.iastore, 1)) (kk : Z w (zu G 27 0 j x) (pc + 1) lv st) : Z w G pc lv (.int x :: .int (nI j) :: .ref (za G 27 0) :: st) := z_iast hC zm27 rfl hj (by decide) (fun f2 => z_ct_uS X G 27 0 f2) hd kk
theorem zal_28 (hC : zCtx l X cc own nL lev bud Z) {j : Nat} (hj : j < 72) (hd : decode cc pc = .ok (.iaload, 1)) (kk : Z w G (pc + 1) lv (.int (zg G 28 0 j) :: st)) : Z w G pc lv (.int (nI j) :: .ref (za G 28 0) :: st) := z_iald hC zm28 rfl hj (by decide) hd kk
theorem zas_28 (hC : zCtx l X cc own nL lev bud Z) {j : Nat} {x : Int32} (hj : j < 72) (hd : decode cc pc = .ok (.iastore, 1)) (kk : Z w (zu G 28 0 j x) (pc + 1) lv st) : Z w G pc lv (.int x :: .int (nI j) :: .ref (za G 28 0) :: st) := z_iast hC zm28 rfl hj (by decide) (fun f2 => z_ct_uS X G 28 0 f2) hd kk
theorem zal_29 (hC : zCtx l X cc own nL lev bud Z) {j : Nat} (hj : j < 1920) (hd : decode cc pc = .ok (.iaload, 1)) (kk : Z w G (pc + 1) lv (.int (zg G 29 0 j) :: st)) : Z w G pc lv (.int (nI j) :: .ref (za G 29 0) :: st) := z_iald hC zm29 rfl hj (by decide) hd kk
theorem zas_29 (hC : zCtx l X cc own nL lev bud Z) {j : Nat} {x : Int32} (hj : j < 1920) (hd : decode cc pc = .ok (.iastore, 1)) (kk : Z w (zu G 29 0 j x) (pc + 1) lv st) : Z w G pc lv (.int x :: .int (nI j) :: .ref (za G 29 0) :: st) := z_iast hC zm29 rfl hj (by decide) (fun f2 => z_ct_uS X G 29 0 f2) hd kk
theorem zal_30 (hC : zCtx l X cc own nL lev bud Z) {j : Nat} (hj : j < 600) (hd : decode cc pc = .ok (.baload, 1)) (kk : Z w G (pc + 1) lv (.int (zg G 30 0 j) :: st)) : Z w G pc lv (.int (nI j) :: .ref (za G 30 0) :: st) := z_zald hC zm30 rfl hj (by decide) hd kk
theorem zas_30 (hC : zCtx l X cc own nL lev bud Z) {j : Nat} (hj : j < 600) (hd : decode cc pc = .ok (.bastore, 1)) (kk : Z w (zu G 30 0 j (nI 1)) (pc + 1) lv st) : Z w G pc lv (.int (nI 1) :: .int (nI j) :: .ref (za G 30 0) :: st) := z_zast hC zm30 rfl hj (by decide) (fun f2 => z_ct_uS X G 30 0 f2) hd (by rw [show vp_nar .boolean (nI 1) = nI 1 from by decide +kernel]; exact kk)
theorem zal_31 (hC : zCtx l X cc own nL lev bud Z) {j : Nat} (hj : j < 6) (hd : decode cc pc = .ok (.baload, 1)) (kk : Z w G (pc + 1) lv (.int (zg G 31 0 j) :: st)) : Z w G pc lv (.int (nI j) :: .ref (za G 31 0) :: st) := z_zald hC zm31 rfl hj (by decide) hd kk
theorem zas_31 (hC : zCtx l X cc own nL lev bud Z) {j : Nat} (hj : j < 6) (hd : decode cc pc = .ok (.bastore, 1)) (kk : Z w (zu G 31 0 j (nI 1)) (pc + 1) lv st) : Z w G pc lv (.int (nI 1) :: .int (nI j) :: .ref (za G 31 0) :: st) := z_zast hC zm31 rfl hj (by decide) (fun f2 => z_ct_uS X G 31 0 f2) hd (by rw [show vp_nar .boolean (nI 1) = nI 1 from by decide +kernel]; exact kk)
theorem zal_34 (hC : zCtx l X cc own nL lev bud Z) {j : Nat} (hj : j < 12) (hd : decode cc pc = .ok (.iaload, 1)) (kk : Z w G (pc + 1) lv (.int (zg G 34 0 j) :: st)) : Z w G pc lv (.int (nI j) :: .ref (za G 34 0) :: st) := z_iald hC zm34 rfl hj (by decide) hd kk
theorem zas_34 (hC : zCtx l X cc own nL lev bud Z) {j : Nat} {x : Int32} (hj : j < 12) (hd : decode cc pc = .ok (.iastore, 1)) (kk : Z w (zu G 34 0 j x) (pc + 1) lv st) : Z w G pc lv (.int x :: .int (nI j) :: .ref (za G 34 0) :: st) := z_iast hC zm34 rfl hj (by decide) (fun f2 => z_ct_uS X G 34 0 f2) hd kk
theorem zal_35 (hC : zCtx l X cc own nL lev bud Z) {j : Nat} (hj : j < 12) (hd : decode cc pc = .ok (.iaload, 1)) (kk : Z w G (pc + 1) lv (.int (zg G 35 0 j) :: st)) : Z w G pc lv (.int (nI j) :: .ref (za G 35 0) :: st) := z_iald hC zm35 rfl hj (by decide) hd kk
theorem zas_35 (hC : zCtx l X cc own nL lev bud Z) {j : Nat} {x : Int32} (hj : j < 12) (hd : decode cc pc = .ok (.iastore, 1)) (kk : Z w (zu G 35 0 j x) (pc + 1) lv st) : Z w G pc lv (.int x :: .int (nI j) :: .ref (za G 35 0) :: st) := z_iast hC zm35 rfl hj (by decide) (fun f2 => z_ct_uS X G 35 0 f2) hd kk
theorem zal_36 (hC : zCtx l X cc own nL lev bud Z) {j : Nat} (hj : j < 12) (hd : decode cc pc = .ok (.iaload, 1)) (kk : Z w G (pc + 1) lv (.int (zg G 36 0 j) :: st)) : Z w G pc lv (.int (nI j) :: .ref (za G 36 0) :: st) := z_iald hC zm36 rfl hj (by decide) hd kk
theorem zas_36 (hC : zCtx l X cc own nL lev bud Z) {j : Nat} {x : Int32} (hj : j < 12) (hd : decode cc pc = .ok (.iastore, 1)) (kk : Z w (zu G 36 0 j x) (pc + 1) lv st) : Z w G pc lv (.int x :: .int (nI j) :: .ref (za G 36 0) :: st) := z_iast hC zm36 rfl hj (by decide) (fun f2 => z_ct_uS X G 36 0 f2) hd kk
theorem zal_37 (hC : zCtx l X cc own nL lev bud Z) {j : Nat} (hj : j < 12) (hd : decode cc pc = .ok (.iaload, 1)) (kk : Z w G (pc + 1) lv (.int (zg G 37 0 j) :: st)) : Z w G pc lv (.int (nI j) :: .ref (za G 37 0) :: st) := z_iald hC zm37 rfl hj (by decide) hd kk
theorem zas_37 (hC : zCtx l X cc own nL lev bud Z) {j : Nat} {x : Int32} (hj : j < 12) (hd : decode cc pc = .ok (.iastore, 1)) (kk : Z w (zu G 37 0 j x) (pc + 1) lv st) : Z w G pc lv (.int x :: .int (nI j) :: .ref (za G 37 0) :: st) := z_iast hC zm37 rfl hj (by decide) (fun f2 => z_ct_uS X G 37 0 f2) hd kk
theorem zal_39 (hC : zCtx l X cc own nL lev bud Z) {j : Nat} (hj : j < 48) (hd : decode cc pc = .ok (.iaload, 1)) (kk : Z w G (pc + 1) lv (.int (zg G 39 0 j) :: st)) : Z w G pc lv (.int (nI j) :: .ref (za G 39 0) :: st) := z_iald hC zm39 rfl hj (by decide) hd kk
theorem zas_39 (hC : zCtx l X cc own nL lev bud Z) {j : Nat} {x : Int32} (hj : j < 48) (hd : decode cc pc = .ok (.iastore, 1)) (kk : Z w (zu G 39 0 j x) (pc + 1) lv st) : Z w G pc lv (.int x :: .int (nI j) :: .ref (za G 39 0) :: st) := z_iast hC zm39 rfl hj (by decide) (fun f2 => z_ct_uS X G 39 0 f2) hd kk
theorem zal_40 (hC : zCtx l X cc own nL lev bud Z) {j : Nat} (hj : j < 8) (hd : decode cc pc = .ok (.iaload, 1)) (kk : Z w G (pc + 1) lv (.int (zg G 40 0 j) :: st)) : Z w G pc lv (.int (nI j) :: .ref (za G 40 0) :: st) := z_iald hC zm40 rfl hj (by decide) hd kk
theorem zas_40 (hC : zCtx l X cc own nL lev bud Z) {j : Nat} {x : Int32} (hj : j < 8) (hd : decode cc pc = .ok (.iastore, 1)) (kk : Z w (zu G 40 0 j x) (pc + 1) lv st) : Z w G pc lv (.int x :: .int (nI j) :: .ref (za G 40 0) :: st) := z_iast hC zm40 rfl hj (by decide) (fun f2 => z_ct_uS X G 40 0 f2) hd kk
theorem zal_41 (hC : zCtx l X cc own nL lev bud Z) {j : Nat} (hj : j < 8) (hd : decode cc pc = .ok (.iaload, 1)) (kk : Z w G (pc + 1) lv (.int (zg G 41 0 j) :: st)) : Z w G pc lv (.int (nI j) :: .ref (za G 41 0) :: st) := z_iald hC zm41 rfl hj (by decide) hd kk
theorem zas_41 (hC : zCtx l X cc own nL lev bud Z) {j : Nat} {x : Int32} (hj : j < 8) (hd : decode cc pc = .ok (.iastore, 1)) (kk : Z w (zu G 41 0 j x) (pc + 1) lv st) : Z w G pc lv (.int x :: .int (nI j) :: .ref (za G 41 0) :: st) := z_iast hC zm41 rfl hj (by decide) (fun f2 => z_ct_uS X G 41 0 f2) hd kk
theorem zal_42 (hC : zCtx l X cc own nL lev bud Z) {j : Nat} (hj : j < 8) (hd : decode cc pc = .ok (.iaload, 1)) (kk : Z w G (pc + 1) lv (.int (zg G 42 0 j) :: st)) : Z w G pc lv (.int (nI j) :: .ref (za G 42 0) :: st) := z_iald hC zm42 rfl hj (by decide) hd kk
theorem zas_42 (hC : zCtx l X cc own nL lev bud Z) {j : Nat} {x : Int32} (hj : j < 8) (hd : decode cc pc = .ok (.iastore, 1)) (kk : Z w (zu G 42 0 j x) (pc + 1) lv st) : Z w G pc lv (.int x :: .int (nI j) :: .ref (za G 42 0) :: st) := z_iast hC zm42 rfl hj (by decide) (fun f2 => z_ct_uS X G 42 0 f2) hd kk
theorem zal_43 (hC : zCtx l X cc own nL lev bud Z) {j : Nat} (hj : j < 6) (hd : decode cc pc = .ok (.iaload, 1)) (kk : Z w G (pc + 1) lv (.int (zg G 43 0 j) :: st)) : Z w G pc lv (.int (nI j) :: .ref (za G 43 0) :: st) := z_iald hC zm43 rfl hj (by decide) hd kk
theorem zas_43 (hC : zCtx l X cc own nL lev bud Z) {j : Nat} {x : Int32} (hj : j < 6) (hd : decode cc pc = .ok (.iastore, 1)) (kk : Z w (zu G 43 0 j x) (pc + 1) lv st) : Z w G pc lv (.int x :: .int (nI j) :: .ref (za G 43 0) :: st) := z_iast hC zm43 rfl hj (by decide) (fun f2 => z_ct_uS X G 43 0 f2) hd kk
theorem zal_45 (hC : zCtx l X cc own nL lev bud Z) {j : Nat} (hj : j < 64) (hd : decode cc pc = .ok (.iaload, 1)) (kk : Z w G (pc + 1) lv (.int (zg G 45 0 j) :: st)) : Z w G pc lv (.int (nI j) :: .ref (za G 45 0) :: st) := z_iald hC zm45 rfl hj (by decide) hd kk
theorem zas_45 (hC : zCtx l X cc own nL lev bud Z) {j : Nat} {x : Int32} (hj : j < 64) (hd : decode cc pc = .ok (.iastore, 1)) (kk : Z w (zu G 45 0 j x) (pc + 1) lv st) : Z w G pc lv (.int x :: .int (nI j) :: .ref (za G 45 0) :: st) := z_iast hC zm45 rfl hj (by decide) (fun f2 => z_ct_uS X G 45 0 f2) hd kk
theorem zal_46 (hC : zCtx l X cc own nL lev bud Z) {j : Nat} (hj : j < 64) (hd : decode cc pc = .ok (.iaload, 1)) (kk : Z w G (pc + 1) lv (.int (zg G 46 0 j) :: st)) : Z w G pc lv (.int (nI j) :: .ref (za G 46 0) :: st) := z_iald hC zm46 rfl hj (by decide) hd kk
theorem zas_46 (hC : zCtx l X cc own nL lev bud Z) {j : Nat} {x : Int32} (hj : j < 64) (hd : decode cc pc = .ok (.iastore, 1)) (kk : Z w (zu G 46 0 j x) (pc + 1) lv st) : Z w G pc lv (.int x :: .int (nI j) :: .ref (za G 46 0) :: st) := z_iast hC zm46 rfl hj (by decide) (fun f2 => z_ct_uS X G 46 0 f2) hd kk
theorem zal_47 (hC : zCtx l X cc own nL lev bud Z) {j : Nat} (hj : j < 8) (hd : decode cc pc = .ok (.iaload, 1)) (kk : Z w G (pc + 1) lv (.int (zg G 47 0 j) :: st)) : Z w G pc lv (.int (nI j) :: .ref (za G 47 0) :: st) := z_iald hC zm47 rfl hj (by decide) hd kk
theorem zas_47 (hC : zCtx l X cc own nL lev bud Z) {j : Nat} {x : Int32} (hj : j < 8) (hd : decode cc pc = .ok (.iastore, 1)) (kk : Z w (zu G 47 0 j x) (pc + 1) lv st) : Z w G pc lv (.int x :: .int (nI j) :: .ref (za G 47 0) :: st) := z_iast hC zm47 rfl hj (by decide) (fun f2 => z_ct_uS X G 47 0 f2) hd kk
theorem zal_50 (hC : zCtx l X cc own nL lev bud Z) {j : Nat} (hj : j < 8) (hd : decode cc pc = .ok (.iaload, 1)) (kk : Z w G (pc + 1) lv (.int (zg G 50 0 j) :: st)) : Z w G pc lv (.int (nI j) :: .ref (za G 50 0) :: st) := z_iald hC zm50 rfl hj (by decide) hd kk
theorem zas_50 (hC : zCtx l X cc own nL lev bud Z) {j : Nat} {x : Int32} (hj : j < 8) (hd : decode cc pc = .ok (.iastore, 1)) (kk : Z w (zu G 50 0 j x) (pc + 1) lv st) : Z w G pc lv (.int x :: .int (nI j) :: .ref (za G 50 0) :: st) := z_iast hC zm50 rfl hj (by decide) (fun f2 => z_ct_uS X G 50 0 f2) hd kk
theorem zal_1 (hC : zCtx l X cc own nL lev bud Z) {j : Nat} (hj : j < 8) (hd : decode cc pc = .ok (.aaload, 1)) (kk : Z w G (pc + 1) lv (.ref (za G 4 j) :: st)) : Z w G pc lv (.int (nI j) :: .ref (za G 1 0) :: st) := z_aald (t0 := 2) (C := RX0) hC zm1 rfl rfl hj (by decide) (if_pos hj) hd kk
theorem zlen_1 (hC : zCtx l X cc own nL lev bud Z) (hd : decode cc pc = .ok (.arraylength, 1)) (kk : Z w G (pc + 1) lv (.int (nI 8) :: st)) : Z w G pc lv (.ref (za G 1 0) :: st) := z_alen (t0 := 2) (ty := .object RX0) hC zm1 rfl rfl rfl hd kk
theorem zal_2 (hC : zCtx l X cc own nL lev bud Z) {j : Nat} (hj : j < 6) (hd : decode cc pc = .ok (.aaload, 1)) (kk : Z w G (pc + 1) lv (.ref (za G 7 j) :: st)) : Z w G pc lv (.int (nI j) :: .ref (za G 2 0) :: st) := z_aald (t0 := 3) (C := RX1) hC zm2 rfl rfl hj (by decide) (if_pos hj) hd kk
theorem zlen_2 (hC : zCtx l X cc own nL lev bud Z) (hd : decode cc pc = .ok (.arraylength, 1)) (kk : Z w G (pc + 1) lv (.int (nI 6) :: st)) : Z w G pc lv (.ref (za G 2 0) :: st) := z_alen (t0 := 3) (ty := .object RX1) hC zm2 rfl rfl rfl hd kk
theorem zal_3 (hC : zCtx l X cc own nL lev bud Z) {j : Nat} (hj : j < zn G 1) (h12 : j < 12) (hd : decode cc pc = .ok (.aaload, 1)) (kk : Z w G (pc + 1) lv (.ref (za G 17 j) :: st)) : Z w G pc lv (.int (nI j) :: .ref (za G 3 0) :: st) := z_aald (t0 := 4) (C := RX2) hC zm3 rfl rfl h12 (by decide) (if_pos hj) hd kk
theorem zlen_6 (hC : zCtx l X cc own nL lev bud Z) {i : Nat} (hi : i < 8) (hd : decode cc pc = .ok (.arraylength, 1)) (kk : Z w G (pc + 1) lv (.int (nI 6) :: st)) : Z w G pc lv (.ref (za G 6 i) :: st) := z_alen (t0 := 0) (ty := .int) hC (zm6 hi) rfl rfl rfl hd kk
theorem z_mmax (hC : zCtx l X cc own nL lev bud Z) {idx : Nat} {x y : Int32} (hk : Cond.methodLink own idx yJ9_max_7cf53 ∈ zall) (h1 : 1 ≤ lev) (hst : (st.map fun v => v.category).sum ≤ 8) (hw : w ≤ bud) (hd : decode cc pc = .ok (.invokestatic idx, 3)) (kk : Z w G (pc + 3) lv (.int (if x < y then y else x) :: st)) : Z w G pc lv (.int y :: .int x :: st) := by
  obtain ⟨p, e, R, s, m, args, below, meth, c, c0, s0, Q, A, H0, rfl, hx, hb, hml, hown, hts, hSt, hA, hl1, hl2, hl3, hl4⟩ := hC
  exact fun H locs ls hP hD hS hl => va_mmax hx hb (hml.trans hl.1.symm) hown (hts _ hk) (hts _ zi_J9_max_7cf53.1) (hts _ zini_J9) (hts _ zm_J9_max_7cf53.1) (by omega) (by omega) (by omega) (by omega) hd (kk H locs ls hP hD hS hl)
theorem z_mmin (hC : zCtx l X cc own nL lev bud Z) {idx : Nat} {x y : Int32} (hk : Cond.methodLink own idx yJ9_min_7cf53 ∈ zall) (h1 : 1 ≤ lev) (hst : (st.map fun v => v.category).sum ≤ 8) (hw : w ≤ bud) (hd : decode cc pc = .ok (.invokestatic idx, 3)) (kk : Z w G (pc + 3) lv (.int (if y < x then y else x) :: st)) : Z w G pc lv (.int y :: .int x :: st) := by
  obtain ⟨p, e, R, s, m, args, below, meth, c, c0, s0, Q, A, H0, rfl, hx, hb, hml, hown, hts, hSt, hA, hl1, hl2, hl3, hl4⟩ := hC
  exact fun H locs ls hP hD hS hl => va_mmin hx hb (hml.trans hl.1.symm) hown (hts _ hk) (hts _ zi_J9_min_7cf53.1) (hts _ zini_J9) (hts _ zm_J9_min_7cf53.1) (by omega) (by omega) (by omega) (by omega) hd (kk H locs ls hP hD hS hl)
theorem zk_copy : Cond.methodLink RX0 34 arraycopyName ∈ zall := zmem (n := 190) rfl rfl
theorem zk_cpyN : Cond.native arraycopyName ∈ zall := zmem (n := 192) rfl rfl
theorem zk_cpyS : Cond.static arraycopyName ∈ zall := zmem (n := 191) rfl rfl
theorem z_copy5 (hC : zCtx l X cc RX0 nL lev bud Z) {i a b : Nat} (hi : i < 8) (ha : a + 8 ≤ 40) (hb8 : b + 8 ≤ 40) (h1 : 1 ≤ lev) (hst : (st.map fun v => v.category).sum ≤ 8) (hd : decode cc pc = .ok (.invokestatic 34, 3)) (kk : Z w (zuA G 5 i (va_cpy (zg G 5 i) (zg G 5 i) a b 8)) (pc + 3) lv st) : Z w G pc lv (.int (nI 8) :: .int (nI b) :: .ref (za G 5 i) :: .int (nI a) :: .ref (za G 5 i) :: st) := by
  obtain ⟨p, e, R, s, m, args, below, meth, c, c0, s0, Q, A, H0, rfl, hx, hb, hml, hown, hts, hSt, hA, hl1, hl2, hl3, hl4⟩ := hC
  intro H locs ls hP hD hS hl
  obtain ⟨q0, hq0, hq⟩ := z_pl (X := X) (zm5 hi)
  have hq : (z_ls X G)[q0]? = some (za G 5 i, .inl (X.2 0, 40, .inl (zg G 5 i))) := hq
  have e8 : (nI 8).toNatClampNeg = 8 := nI_clamp (by decide)
  have ea : (nI a).toNatClampNeg = a := nI_clamp (by omega)
  have eb : (nI b).toNatClampNeg = b := nI_clamp (by omega)
  refine va_copyi hx hb (hml.trans hl.1.symm) hown (hts _ zk_copy) (hts _ zk_cpyN) (hts _ zk_cpyS) (hts _ zini_J10) hSt.1 hP hD hS q0 q0 0 0 hq hq rfl rfl rfl (nI_pos (by omega)) (nI_pos (by omega)) (nI_pos (by decide)) (by rw [e8, ea]; exact ha) (by rw [e8, eb]; exact hb8) (fun _ _ => rfl) (by omega) ?_ hd (fun H1 locs1 hP1 hD1 hS1 => ?_)
  · have : nativeFrameWords "java/lang/System" "arraycopy" 5 ≤ 3900 := Nat.le_of_ble_eq_true rfl
    omega
  · rw [e8, ea, eb] at hP1 hD1
    have hset := z_set (G' := zuA G 5 i (va_cpy (zg G 5 i) (zg G 5 i) a b 8)) hD hq0 rfl rfl (z_ct_uS X G 5 i _) (fun k1 i1 _ => z_ct_uA X G 5 i _ k1 i1)
    exact kk H1 locs1 ls (hset ▸ hP1) (hset ▸ hD1) hS1 hl
end ZS
end
section
/-! pure words for the class's own methods -/
def zin (x : Int32) (n : Nat) : Bool := decide (0 ≤ x.toInt ∧ x.toInt < n)
theorem zin_t {a n : Nat} (h : a < n) (hn : n ≤ 2 ^ 31) : zin (nI a) n = true := by
  unfold zin
  rw [nI_toInt (by omega)]
  simp
  omega
theorem z0_toInt : (0 : Int32).toInt = 0 := rfl
theorem zin_f0 {x : Int32} {n : Nat} (h : x < 0) : zin x n = false := by
  have h1 := Int32.lt_iff_toInt_lt.mp h
  rw [z0_toInt] at h1
  unfold zin
  simp
  omega
theorem zin_f1 {x : Int32} {m : Nat} (hm : m < 2 ^ 31) (h : nI m < x) : zin x (m + 1) = false := by
  have h1 := Int32.lt_iff_toInt_lt.mp h
  rw [nI_toInt hm] at h1
  unfold zin
  simp
  omega
theorem zin_c {x : Int32} {m : Nat} (hm : m < 2 ^ 31) (h1 : ¬ x < 0) (h2 : ¬ nI m < x) : ∃ a, a < m + 1 ∧ x = nI a := by
  obtain ⟨j, hj, rfl⟩ := nI_of h1
  rw [nI_ltI hm hj] at h2
  exact ⟨j, by omega, rfl⟩
theorem zsub1 {n : Nat} (hn : n < 2 ^ 30) : (nI n - nI 1).toInt = (n : Int) - 1 := pk_sub_toInt hn (by decide)
theorem zin_f2 {x : Int32} {n : Nat} (hn : n < 2 ^ 30) (h : nI n - nI 1 < x) : zin x n = false := by
  have h1 := Int32.lt_iff_toInt_lt.mp h
  rw [zsub1 hn] at h1
  unfold zin
  simp
  omega
theorem zin_c2 {x : Int32} {n : Nat} (hn : n < 2 ^ 30) (h1 : ¬ x < 0) (h2 : ¬ nI n - nI 1 < x) : ∃ a, a < n ∧ x = nI a := by
  obtain ⟨j, hj, rfl⟩ := nI_of h1
  rw [Int32.lt_iff_toInt_lt, zsub1 hn, nI_toInt hj] at h2
  exact ⟨j, by omega, rfl⟩
def zspan (x y : Int32) : Bool := decide (0 ≤ x.toInt ∧ x.toInt ≤ y.toInt ∧ y.toInt < 40)
theorem zspan_t {a b : Nat} (h : a ≤ b) (hb : b < 40) : zspan (nI a) (nI b) = true := by
  unfold zspan
  rw [nI_toInt (by omega), nI_toInt (by omega)]
  simp
  omega
theorem zspan_f1 {x y : Int32} (h : zin x 40 = false) : zspan x y = false := by
  unfold zin at h
  unfold zspan
  simp at h ⊢
  omega
theorem zspan_f2 {x y : Int32} (h : zin y 40 = false) : zspan x y = false := by
  unfold zin at h
  unfold zspan
  simp at h ⊢
  omega
theorem zspan_f3 {x y : Int32} (h : y < x) : zspan x y = false := by
  have h1 := Int32.lt_iff_toInt_lt.mp h
  unfold zspan
  simp
  omega
/-- bits of a loop over places -/
def bo (c : Nat → Bool) : Nat → Int32
  | 0 => nI 0
  | n + 1 => if c n = true then bo c n ||| (nI 1 <<< (nI n &&& 31)) else bo c n
theorem bo_t {c : Nat → Bool} {n : Nat} (h : c n = true) : bo c (n + 1) = bo c n ||| (nI 1 <<< (nI n &&& 31)) := if_pos h
theorem bo_f {c : Nat → Bool} {n : Nat} (h : c n = false) : bo c (n + 1) = bo c n := if_neg (by rw [h]; decide)
/-- the greatest, from -9 on -/
def mxP (f : Nat → Int32) : Nat → Int32
  | 0 => (-9 : Int32)
  | n + 1 => if mxP f n < f n then f n else mxP f n
/-- a sum from a on, up to but not at n -/
def smF (f : Nat → Int32) (a : Nat) : Nat → Int32
  | 0 => nI 0
  | n + 1 => smF f a n + f (a + n)
def smT (f : Nat → Int32) (a n : Nat) : Int32 := smF f a (n - a)
theorem smT_0 (f : Nat → Int32) (a : Nat) : smT f a a = nI 0 := by simp [smT, smF]
theorem smT_s (f : Nat → Int32) {a n : Nat} (h : a ≤ n) : smT f a (n + 1) = smT f a n + f n := by
  unfold smT
  rw [show n + 1 - a = (n - a) + 1 by omega]
  show smF f a (n - a) + f (a + (n - a)) = _
  rw [show a + (n - a) = n by omega]
def orF (f : Nat → Int32) : Nat → Int32
  | 0 => nI 0
  | n + 1 => orF f n ||| f n
def anF (c : Nat → Bool) : Nat → Bool
  | 0 => false
  | n + 1 => anF c n || c n
theorem anF_f {c : Nat → Bool} : ∀ {n : Nat}, (∀ k, k < n → c k = false) → anF c n = false
  | 0, _ => rfl
  | n + 1, h => by
    show (anF c n || c n) = false
    rw [anF_f (fun k hk => h k (by omega)), h n (by omega)]
    rfl
theorem anF_t {c : Nat → Bool} {k : Nat} (hc : c k = true) : ∀ {n : Nat}, k < n → anF c n = true
  | 0, h => by omega
  | n + 1, h => by
    show (anF c n || c n) = true
    by_cases hk : k = n
    · rw [← hk, hc]; simp
    · rw [anF_t hc (by omega)]; rfl
def alF (c : Nat → Bool) : Nat → Bool
  | 0 => true
  | n + 1 => alF c n && c n
theorem alF_t {c : Nat → Bool} : ∀ {n : Nat}, (∀ k, k < n → c k = true) → alF c n = true
  | 0, _ => rfl
  | n + 1, h => by
    show (alF c n && c n) = true
    rw [alF_t (fun k hk => h k (by omega)), h n (by omega)]
    rfl
theorem alF_f {c : Nat → Bool} {k : Nat} (hc : c k = false) : ∀ {n : Nat}, k < n → alF c n = false
  | 0, h => by omega
  | n + 1, h => by
    show (alF c n && c n) = false
    by_cases hk : k = n
    · rw [← hk, hc]; simp
    · rw [alF_f hc (by omega)]; rfl
def ctF (c : Nat → Bool) : Nat → Nat
  | 0 => 0
  | n + 1 => if c n = true then ctF c n + 1 else ctF c n
theorem ctF_t {c : Nat → Bool} {n : Nat} (h : c n = true) : ctF c (n + 1) = ctF c n + 1 := if_pos h
theorem ctF_f {c : Nat → Bool} {n : Nat} (h : c n = false) : ctF c (n + 1) = ctF c n := if_neg (by rw [h]; decide)
theorem ctF_le {c : Nat → Bool} : ∀ n : Nat, ctF c n ≤ n
  | 0 => Nat.le_refl 0
  | n + 1 => by
    have := ctF_le (c := c) n
    unfold ctF
    split <;> omega
/-- what a statement sees: its ends that are in its set -/
def sbX (e : Nat → Int32) (st f : Int32) (b : Nat) : Nat → Int32
  | 0 => nI 0
  | n + 1 => if (st >>> (nI n &&& 31)) &&& nI 1 = 0 then sbX e st f b n else if e (b + n) / nI 8 = f then sbX e st f b n ||| (nI 1 <<< ((e (b + n) - e (b + n) / nI 8 * nI 8) &&& 31)) else sbX e st f b n
/-- the door's words -/
def xDif (G : zG) (i v u : Nat) : Int32 := bo (fun a => decide (¬ zg G 5 i (v * 8 + a) = zg G 5 i (u * 8 + a))) 8
def xLat (G : zG) (i : Nat) : Int32 := mxP (zg G 6 i) 6
def xShut (G : zG) (i : Nat) (d : Int32) : Bool := decide (¬ zg G 4 i 2 = (-9 : Int32) ∧ zg G 4 i 2 ≤ d)
/-- the house's words -/
def xSilent (G : zG) (h : Nat) : Bool := decide (zg G 10 h 6 = 0 ∧ zg G 7 h 3 = 0)
def xSum (G : zG) (h f a n : Nat) : Int32 := smT (fun d => zg G 8 h (f * 40 + d)) a n
/-- the text's words -/
def xSees (G : zG) (h s : Nat) (f : Int32) : Int32 := sbX (zg G 16 h) (zg G 15 h s) f (s * 8) 8
def xUsed (G : zG) (h : Nat) (f : Int32) : Int32 := orF (fun s => xSees G h s f) (zg G 10 h 6).toNatClampNeg
def xOnly (G : zG) (h : Nat) (f al : Int32) : Bool := anF (fun s => decide (¬ xSees G h s f = 0 ∧ xSees G h s f &&& (al ^^^ (-1)) = 0)) (zg G 10 h 6).toNatClampNeg
def xTurn (x d : Int32) : Int32 := ((x <<< (d &&& 31)) ||| (x >>> ((nI 8 - d) &&& 31))) &&& nI 255
def xSteps (G : zG) (h : Nat) : Nat → Nat → Int32 → Int32
  | 0, _, _ => nI 0
  | n + 1, s, a => if a = 0 then nI 0 else if zg G 11 h s = 0 then nI 1
    else if zg G 11 h s = nI 1 then nI 10 + xSteps G h n (zg G 12 h s).toNatClampNeg (xTurn a (zg G 14 h s))
    else (nI 100 + xSteps G h n (zg G 12 h s).toNatClampNeg (a &&& ((nI 1 <<< (zg G 14 h s &&& 31)) - nI 1))) + xSteps G h n (zg G 13 h s).toNatClampNeg (a &&& (((nI 1 <<< (zg G 14 h s &&& 31)) - nI 1) ^^^ (-1)))
theorem sbX_s (e : Nat → Int32) (st f : Int32) (b n : Nat) : sbX e st f b (n + 1) = if (st >>> (nI n &&& 31)) &&& nI 1 = 0 then sbX e st f b n else if e (b + n) / nI 8 = f then sbX e st f b n ||| (nI 1 <<< ((e (b + n) - e (b + n) / nI 8 * nI 8) &&& 31)) else sbX e st f b n := rfl
def endF (g : Nat → Int32) (b : Nat) (f : Nat → Int32) (n : Nat) : Nat → Int32 := fun j => if b ≤ j ∧ j < b + n then f (j - b) else g j
theorem endF_0 (g : Nat → Int32) (b : Nat) (f : Nat → Int32) : endF g b f 0 = g := by
  funext j
  unfold endF
  rw [if_neg (by omega)]
theorem zuA_id (G : zG) (k i : Nat) {f : Nat → Int32} (h : f = zg G k i) : zuA G k i f = G := by
  subst h
  refine Prod.ext ?_ rfl
  funext k' i'
  show (if k' = k ∧ i' = i then zg G k i else G.1 k' i') = G.1 k' i'
  by_cases h : k' = k ∧ i' = i
  · rw [if_pos h, h.1, h.2]
    rfl
  · rw [if_neg h]
theorem zG0 {Z : zZ} {w : Nat} {G G2 : zG} {pc : Nat} {lv : List (Option Value)} {st : List Value} (h : G2 = G) (k : Z w G2 pc lv st) : Z w G pc lv st := h ▸ k
theorem zuA_zuA (G : zG) (k i : Nat) (f g : Nat → Int32) : zuA (zuA G k i f) k i g = zuA G k i g := by
  refine Prod.ext ?_ rfl
  funext k' i'
  show (if k' = k ∧ i' = i then g else (if k' = k ∧ i' = i then f else G.1 k' i')) = if k' = k ∧ i' = i then g else G.1 k' i'
  by_cases h : k' = k ∧ i' = i
  · rw [if_pos h, if_pos h]
  · rw [if_neg h, if_neg h, if_neg h]
theorem zuA_put (G : zG) (k i b n : Nat) (f : Nat → Int32) : zuA G k i (endF (zg G k i) b f (n + 1)) = zu (zuA G k i (endF (zg G k i) b f n)) k i (b + n) (f n) := by
  unfold zu
  rw [zuA_zuA, zg_zuA, if_pos ⟨rfl, rfl⟩]
  congr 1
  funext j
  unfold endF upd
  by_cases h1 : j = b + n
  · subst h1
    rw [if_pos (by omega), if_pos rfl]
    congr 1
    omega
  · rw [if_neg h1]
    by_cases h2 : b ≤ j ∧ j < b + n
    · rw [if_pos (by omega)]
      exact (if_pos h2).symm
    · rw [if_neg (by omega)]
      exact (if_neg h2).symm
theorem endF_lo (G : zG) (k i m : Nat) (f : Nat → Int32) {n j : Nat} (h : j < m * 8) : zg (zuA G k i (endF (zg G k i) (m * 8) f n)) k i j = zg G k i j := by
  rw [zg_zuA, if_pos ⟨rfl, rfl⟩]
  unfold endF
  rw [if_neg (by omega)]
theorem zmax7 {d : Nat} (hd : d < 2 ^ 30) : (if nI d - nI 7 < nI 0 then nI 0 else nI d - nI 7) = nI (d - 7) := by
  by_cases h : d < 7
  · rw [if_pos (show nI d - nI 7 < nI 0 by rw [nI_0]; exact pk_sneg (by decide) h), show d - 7 = 0 by omega]
  · rw [pk_sub (by omega), if_neg (nI_nlt (by omega) (by omega))]
theorem zmin39 {d : Nat} (hd : d < 2 ^ 30) : (if nI 39 < nI d then nI 39 else nI d) = nI (min d 39) := by
  by_cases h : 39 < d
  · rw [if_pos (nI_lt h (by omega)), show min d 39 = 39 by omega]
  · rw [if_neg (nI_nlt (by omega) (by decide)), show min d 39 = d by omega]
end
section
set_option maxHeartbeats 2000000 in
theorem c_X4_isWithin (l : Launch) (X : zX) (G : zG) {x : Int32} {m : Nat} (hm : m < 2 ^ 31) : zC l yX4_isWithin cX4_isWithin 2 (some FieldType.boolean) 1 0 X [.int x, .int (nI m)] G (zPi (fun r G2 => (∃ a, a < m + 1 ∧ x = nI a ∧ r = nI 1 ∧ G = G2) ∨ (zin x (m + 1) = false ∧ r = nI 0 ∧ G = G2))) := by
  refine zC_of zpn_X4 (zcat rfl) (Nat.le_of_ble_eq_true rfl) ?_
  intro Z hC hE
  replace hC : zCtx l X cX4_isWithin RX4 2 1 0 Z := hC
  change Z 0 G 0 [some (.int x), some (.int (nI m))] []
  refine z_il0 hC dX4_isWithin_0 ?_
  refine z_if_lt hC 13 dX4_isWithin_1 rfl (fun h1 => ?_) (fun h1 => ?_)
  · refine z_iconst hC dX4_isWithin_13 zi_0 ?_
    exact z_retz0 hE (by omega) dX4_isWithin_14 (Or.inr ⟨zin_f0 h1, rfl, rfl⟩)
  · refine z_il0 hC dX4_isWithin_4 ?_
    refine z_il1 hC dX4_isWithin_5 ?_
    refine z_icmp_gt hC 13 dX4_isWithin_6 rfl (fun h6 => ?_) (fun h6 => ?_)
    · refine z_iconst hC dX4_isWithin_13 zi_0 ?_
      exact z_retz0 hE (by omega) dX4_isWithin_14 (Or.inr ⟨zin_f1 hm h6, rfl, rfl⟩)
    · refine z_iconst hC dX4_isWithin_9 zi_1 ?_
      refine z_goto hC 14 dX4_isWithin_10 rfl ?_
      exact z_retz1 hE (by omega) dX4_isWithin_14 (by obtain ⟨a, ha, e⟩ := zin_c hm h1 h6; exact Or.inl ⟨a, ha, e, rfl, rfl⟩)

set_option maxHeartbeats 2000000 in
theorem c_X4_isWithinS (l : Launch) (X : zX) (G : zG) {x : Int32} {n : Nat} (hn : n < 2 ^ 30) : zC l yX4_isWithin cX4_isWithin 2 (some FieldType.boolean) 1 0 X [.int x, .int (nI n - nI 1)] G (zPi (fun r G2 => (∃ a, a < n ∧ x = nI a ∧ r = nI 1 ∧ G = G2) ∨ (zin x n = false ∧ r = nI 0 ∧ G = G2))) := by
  refine zC_of zpn_X4 (zcat rfl) (Nat.le_of_ble_eq_true rfl) ?_
  intro Z hC hE
  replace hC : zCtx l X cX4_isWithin RX4 2 1 0 Z := hC
  change Z 0 G 0 [some (.int x), some (.int (nI n - nI 1))] []
  refine z_il0 hC dX4_isWithin_0 ?_
  refine z_if_lt hC 13 dX4_isWithin_1 rfl (fun h1 => ?_) (fun h1 => ?_)
  · refine z_iconst hC dX4_isWithin_13 zi_0 ?_
    exact z_retz0 hE (by omega) dX4_isWithin_14 (Or.inr ⟨zin_f0 h1, rfl, rfl⟩)
  · refine z_il0 hC dX4_isWithin_4 ?_
    refine z_il1 hC dX4_isWithin_5 ?_
    refine z_icmp_gt hC 13 dX4_isWithin_6 rfl (fun h6 => ?_) (fun h6 => ?_)
    · refine z_iconst hC dX4_isWithin_13 zi_0 ?_
      exact z_retz0 hE (by omega) dX4_isWithin_14 (Or.inr ⟨zin_f2 hn h6, rfl, rfl⟩)
    · refine z_iconst hC dX4_isWithin_9 zi_1 ?_
      refine z_goto hC 14 dX4_isWithin_10 rfl ?_
      exact z_retz1 hE (by omega) dX4_isWithin_14 (by obtain ⟨a, ha, e⟩ := zin_c2 hn h1 h6; exact Or.inl ⟨a, ha, e, rfl, rfl⟩)

set_option maxHeartbeats 2000000 in
theorem c_X4_isFace (l : Launch) (X : zX) (G : zG) {x : Int32} : zC l yX4_isFace cX4_isFace 1 (some FieldType.boolean) 2 0 X [.int x] G (zPi (fun r G2 => (∃ a, a < 8 ∧ x = nI a ∧ r = nI 1 ∧ G = G2) ∨ (zin x 8 = false ∧ r = nI 0 ∧ G = G2))) := by
  refine zC_of zpn_X4 (zcat rfl) (Nat.le_of_ble_eq_true rfl) ?_
  intro Z hC hE
  replace hC : zCtx l X cX4_isFace RX4 1 2 0 Z := hC
  change Z 0 G 0 [some (.int x)] []
  refine z_il0 hC dX4_isFace_0 ?_
  refine z_bipush hC dX4_isFace_1 zb_7 ?_
  refine z_cSi2 hC (c_X4_isWithin l X _ (by omega)) zm_X4_isWithin zi_X4_isWithin zk_X4_58 (by omega) (by decide) (by omega) (Nat.le_of_ble_eq_true rfl) dX4_isFace_3 ?_
  rintro _ _ (⟨xN, hx, rfl, rfl, rfl⟩ | ⟨nx, rfl, rfl⟩)
  · exact z_retz1 hE (by omega) dX4_isFace_6 (Or.inl ⟨xN, hx, rfl, rfl, rfl⟩)
  · exact z_retz0 hE (by omega) dX4_isFace_6 (Or.inr ⟨nx, rfl, rfl⟩)

set_option maxHeartbeats 2000000 in
theorem c_X4_isDay (l : Launch) (X : zX) (G : zG) {x : Int32} : zC l yX4_isDay cX4_isDay 1 (some FieldType.boolean) 2 0 X [.int x] G (zPi (fun r G2 => (∃ a, a < 40 ∧ x = nI a ∧ r = nI 1 ∧ G = G2) ∨ (zin x 40 = false ∧ r = nI 0 ∧ G = G2))) := by
  refine zC_of zpn_X4 (zcat rfl) (Nat.le_of_ble_eq_true rfl) ?_
  intro Z hC hE
  replace hC : zCtx l X cX4_isDay RX4 1 2 0 Z := hC
  change Z 0 G 0 [some (.int x)] []
  refine z_il0 hC dX4_isDay_0 ?_
  refine z_bipush hC dX4_isDay_1 zb_39 ?_
  refine z_cSi2 hC (c_X4_isWithin l X _ (by omega)) zm_X4_isWithin zi_X4_isWithin zk_X4_58 (by omega) (by decide) (by omega) (Nat.le_of_ble_eq_true rfl) dX4_isDay_3 ?_
  rintro _ _ (⟨xN, hx, rfl, rfl, rfl⟩ | ⟨nx, rfl, rfl⟩)
  · exact z_retz1 hE (by omega) dX4_isDay_6 (Or.inl ⟨xN, hx, rfl, rfl, rfl⟩)
  · exact z_retz0 hE (by omega) dX4_isDay_6 (Or.inr ⟨nx, rfl, rfl⟩)

set_option maxHeartbeats 2000000 in
theorem c_X4_isSpan (l : Launch) (X : zX) (G : zG) {x y : Int32} : zC l yX4_isSpan cX4_isSpan 2 (some FieldType.boolean) 3 0 X [.int x, .int y] G (zPi (fun r G2 => (∃ a b, a ≤ b ∧ b < 40 ∧ x = nI a ∧ y = nI b ∧ r = nI 1 ∧ G = G2) ∨ (zspan x y = false ∧ r = nI 0 ∧ G = G2))) := by
  refine zC_of zpn_X4 (zcat rfl) (Nat.le_of_ble_eq_true rfl) ?_
  intro Z hC hE
  replace hC : zCtx l X cX4_isSpan RX4 2 3 0 Z := hC
  change Z 0 G 0 [some (.int x), some (.int y)] []
  refine z_il0 hC dX4_isSpan_0 ?_
  refine z_cSi1 hC (c_X4_isDay l X _) zm_X4_isDay zi_X4_isDay zk_X4_121 (by omega) (by decide) (by omega) (Nat.le_of_ble_eq_true rfl) dX4_isSpan_1 ?_
  rintro _ _ (⟨xN, hx, rfl, rfl, rfl⟩ | ⟨nx, rfl, rfl⟩)
  · refine z_if_eq hC 23 dX4_isSpan_4 rfl (fun h => absurd h (by decide)) (fun _ => ?_)
    refine z_il1 hC dX4_isSpan_7 ?_
    refine z_cSi1 hC (c_X4_isDay l X _) zm_X4_isDay zi_X4_isDay zk_X4_121 (by omega) (by decide) (by omega) (Nat.le_of_ble_eq_true rfl) dX4_isSpan_8 ?_
    rintro _ _ (⟨yN, hy, rfl, rfl, rfl⟩ | ⟨ny, rfl, rfl⟩)
    · refine z_if_eq hC 23 dX4_isSpan_11 rfl (fun h => absurd h (by decide)) (fun _ => ?_)
      refine z_il0 hC dX4_isSpan_14 ?_
      refine z_il1 hC dX4_isSpan_15 ?_
      refine z_icmp_gt hC 23 dX4_isSpan_16 rfl (fun h16 => ?_) (fun h16 => ?_)
      · refine z_iconst hC dX4_isSpan_23 zi_0 ?_
        exact z_retz0 hE (by omega) dX4_isSpan_24 (Or.inr ⟨zspan_f3 h16, rfl, rfl⟩)
      · refine z_iconst hC dX4_isSpan_19 zi_1 ?_
        refine z_goto hC 24 dX4_isSpan_20 rfl ?_
        exact z_retz1 hE (by omega) dX4_isSpan_24 (Or.inl ⟨xN, yN, Nat.le_of_not_lt (fun h => h16 ((nI_ltI (by omega) (by omega)).mpr h)), hy, rfl, rfl, rfl, rfl⟩)
    · refine z_if_eq hC 23 dX4_isSpan_11 rfl (fun _ => ?_) (fun h => absurd h (by decide))
      refine z_iconst hC dX4_isSpan_23 zi_0 ?_
      exact z_retz0 hE (by omega) dX4_isSpan_24 (Or.inr ⟨zspan_f2 ny, rfl, rfl⟩)
  · refine z_if_eq hC 23 dX4_isSpan_4 rfl (fun _ => ?_) (fun h => absurd h (by decide))
    refine z_iconst hC dX4_isSpan_23 zi_0 ?_
    exact z_retz0 hE (by omega) dX4_isSpan_24 (Or.inr ⟨zspan_f1 nx, rfl, rfl⟩)

set_option maxHeartbeats 2000000 in
theorem c_X4_isVersion (l : Launch) (X : zX) (G : zG) {r0 : Nat} (hr0 : r0 = za G 0 0) {x : Int32} {vc : Nat} (hvc : zg G 0 0 4 = nI vc) (h5 : vc ≤ 5) : zC l yX4_isVersion cX4_isVersion 2 (some FieldType.boolean) 2 0 X [.ref r0, .int x] G (zPi (fun r G2 => (∃ a, a < vc ∧ x = nI a ∧ r = nI 1 ∧ G = G2) ∨ (zin x vc = false ∧ r = nI 0 ∧ G = G2))) := by
  subst hr0
  refine zC_of zpn_X4 (zcat rfl) (Nat.le_of_ble_eq_true rfl) ?_
  intro Z hC hE
  replace hC : zCtx l X cX4_isVersion RX4 2 2 0 Z := hC
  change Z 0 G 0 [some (.ref (za G 0 0)), some (.int x)] []
  refine z_il1 hC dX4_isVersion_0 ?_
  refine z_al0 hC dX4_isVersion_1 ?_
  refine zgf_X4_31 hC dX4_isVersion_2 ?_
  refine z_top hvc ?_
  refine z_iconst hC dX4_isVersion_5 zi_1 ?_
  refine z_isub hC dX4_isVersion_6 ?_
  refine z_cSi2 hC (c_X4_isWithinS l X _ (by omega)) zm_X4_isWithin zi_X4_isWithin zk_X4_58 (by omega) (by decide) (by omega) (Nat.le_of_ble_eq_true rfl) dX4_isVersion_7 ?_
  rintro _ _ (⟨xN, hx, rfl, rfl, rfl⟩ | ⟨nx, rfl, rfl⟩)
  · exact z_retz1 hE (by omega) dX4_isVersion_10 (Or.inl ⟨xN, hx, rfl, rfl, rfl⟩)
  · exact z_retz0 hE (by omega) dX4_isVersion_10 (Or.inr ⟨nx, rfl, rfl⟩)

set_option maxHeartbeats 2000000 in
theorem c_X4_doorAt (l : Launch) (X : zX) (G : zG) {r0 : Nat} (hr0 : r0 = za G 0 0) {x : Int32} : zC l yX4_doorAt cX4_doorAt 2 (some (FieldType.object "WhoCalls$Door")) 3 0 X [.ref r0, .int x] G (zPa (fun r G2 => (∃ a, a < 8 ∧ x = nI a ∧ r = .ref (za G 4 a) ∧ G = G2) ∨ (zin x 8 = false ∧ r = .null ∧ G = G2))) := by
  subst hr0
  refine zC_of zpn_X4 (zcat rfl) (Nat.le_of_ble_eq_true rfl) ?_
  intro Z hC hE
  replace hC : zCtx l X cX4_doorAt RX4 2 3 0 Z := hC
  change Z 0 G 0 [some (.ref (za G 0 0)), some (.int x)] []
  refine z_il1 hC dX4_doorAt_0 ?_
  refine z_cSi1 hC (c_X4_isFace l X _) zm_X4_isFace zi_X4_isFace zk_X4_80 (by omega) (by decide) (by omega) (Nat.le_of_ble_eq_true rfl) dX4_doorAt_1 ?_
  rintro _ _ (⟨xN, hx, rfl, rfl, rfl⟩ | ⟨nx, rfl, rfl⟩)
  · refine z_if_eq hC 16 dX4_doorAt_4 rfl (fun h => absurd h (by decide)) (fun _ => ?_)
    refine z_al0 hC dX4_doorAt_7 ?_
    refine zgf_X4_11 hC dX4_doorAt_8 ?_
    refine z_il1 hC dX4_doorAt_11 ?_
    refine zal_1 hC (hx) dX4_doorAt_12 ?_
    refine z_goto hC 17 dX4_doorAt_13 rfl ?_
    exact z_retaR hE (by omega) dX4_doorAt_17 (Or.inl ⟨xN, hx, rfl, rfl, rfl⟩)
  · refine z_if_eq hC 16 dX4_doorAt_4 rfl (fun _ => ?_) (fun h => absurd h (by decide))
    refine z_null hC dX4_doorAt_16 ?_
    exact z_retaN hE (by omega) dX4_doorAt_17 (Or.inr ⟨nx, rfl, rfl⟩)

set_option maxHeartbeats 2000000 in
theorem c_X4_houseAt (l : Launch) (X : zX) (G : zG) {r0 : Nat} (hr0 : r0 = za G 0 0) {x : Int32} : zC l yX4_houseAt cX4_houseAt 2 (some (FieldType.object "WhoCalls$House")) 2 0 X [.ref r0, .int x] G (zPa (fun r G2 => (∃ a, a < 6 ∧ x = nI a ∧ r = .ref (za G 7 a) ∧ G = G2) ∨ (zin x 6 = false ∧ r = .null ∧ G = G2))) := by
  subst hr0
  refine zC_of zpn_X4 (zcat rfl) (Nat.le_of_ble_eq_true rfl) ?_
  intro Z hC hE
  replace hC : zCtx l X cX4_houseAt RX4 2 2 0 Z := hC
  change Z 0 G 0 [some (.ref (za G 0 0)), some (.int x)] []
  refine z_il1 hC dX4_houseAt_0 ?_
  refine z_iconst hC dX4_houseAt_1 zi_5 ?_
  refine z_cSi2 hC (c_X4_isWithin l X _ (by omega)) zm_X4_isWithin zi_X4_isWithin zk_X4_58 (by omega) (by decide) (by omega) (Nat.le_of_ble_eq_true rfl) dX4_houseAt_2 ?_
  rintro _ _ (⟨xN, hx, rfl, rfl, rfl⟩ | ⟨nx, rfl, rfl⟩)
  · refine z_if_eq hC 17 dX4_houseAt_5 rfl (fun h => absurd h (by decide)) (fun _ => ?_)
    refine z_al0 hC dX4_houseAt_8 ?_
    refine zgf_X4_17 hC dX4_houseAt_9 ?_
    refine z_il1 hC dX4_houseAt_12 ?_
    refine zal_2 hC (hx) dX4_houseAt_13 ?_
    refine z_goto hC 18 dX4_houseAt_14 rfl ?_
    exact z_retaR hE (by omega) dX4_houseAt_18 (Or.inl ⟨xN, hx, rfl, rfl, rfl⟩)
  · refine z_if_eq hC 17 dX4_houseAt_5 rfl (fun _ => ?_) (fun h => absurd h (by decide))
    refine z_null hC dX4_houseAt_17 ?_
    exact z_retaN hE (by omega) dX4_houseAt_18 (Or.inr ⟨nx, rfl, rfl⟩)

set_option maxHeartbeats 2000000 in
theorem c_X4_ruleAt (l : Launch) (X : zX) (G : zG) {r0 : Nat} (hr0 : r0 = za G 0 0) {x : Int32} {rc : Nat} (hrc : zg G 0 0 3 = nI rc) (hr12 : rc ≤ 12) (hn0 : zn G 0 = rc) (hn1 : zn G 1 = rc) : zC l yX4_ruleAt cX4_ruleAt 2 (some (FieldType.object "WhoCalls$Rule")) 2 0 X [.ref r0, .int x] G (zPa (fun r G2 => (∃ a, a < rc ∧ x = nI a ∧ r = .ref (za G 17 a) ∧ G = G2) ∨ (zin x rc = false ∧ r = .null ∧ G = G2))) := by
  subst hr0
  refine zC_of zpn_X4 (zcat rfl) (Nat.le_of_ble_eq_true rfl) ?_
  intro Z hC hE
  replace hC : zCtx l X cX4_ruleAt RX4 2 2 0 Z := hC
  change Z 0 G 0 [some (.ref (za G 0 0)), some (.int x)] []
  refine z_il1 hC dX4_ruleAt_0 ?_
  refine z_al0 hC dX4_ruleAt_1 ?_
  refine zgf_X4_27 hC dX4_ruleAt_2 ?_
  refine z_top hrc ?_
  refine z_iconst hC dX4_ruleAt_5 zi_1 ?_
  refine z_isub hC dX4_ruleAt_6 ?_
  refine z_cSi2 hC (c_X4_isWithinS l X _ (by omega)) zm_X4_isWithin zi_X4_isWithin zk_X4_58 (by omega) (by decide) (by omega) (Nat.le_of_ble_eq_true rfl) dX4_ruleAt_7 ?_
  rintro _ _ (⟨xN, hx, rfl, rfl, rfl⟩ | ⟨nx, rfl, rfl⟩)
  · refine z_if_eq hC 22 dX4_ruleAt_10 rfl (fun h => absurd h (by decide)) (fun _ => ?_)
    refine z_al0 hC dX4_ruleAt_13 ?_
    refine zgf_X4_23 hC dX4_ruleAt_14 ?_
    refine z_il1 hC dX4_ruleAt_17 ?_
    refine zal_3 hC (by omega) (by omega) dX4_ruleAt_18 ?_
    refine z_goto hC 23 dX4_ruleAt_19 rfl ?_
    exact z_retaR hE (by omega) dX4_ruleAt_23 (Or.inl ⟨xN, hx, rfl, rfl, rfl⟩)
  · refine z_if_eq hC 22 dX4_ruleAt_10 rfl (fun _ => ?_) (fun h => absurd h (by decide))
    refine z_null hC dX4_ruleAt_22 ?_
    exact z_retaN hE (by omega) dX4_ruleAt_23 (Or.inr ⟨nx, rfl, rfl⟩)
end
section
set_option maxHeartbeats 2000000 in
theorem c_X0_answerTo (l : Launch) (X : zX) (G : zG) {i v a : Nat} {r0 : Nat} (hr0 : r0 = za G 4 i)  (hi : i < 8) (hv : v < 5) (ha : a < 8) : zC l yX0_answerTo cX0_answerTo 3 (some FieldType.int) 1 0 X [.ref r0, .int (nI v), .int (nI a)] G (zPi (fun r G2 => r = zg G 5 i (v * 8 + a) ∧ G = G2)) := by
  subst hr0
  refine zC_of zpn_X0 (zcat rfl) (Nat.le_of_ble_eq_true rfl) ?_
  intro Z hC hE
  replace hC : zCtx l X cX0_answerTo RX0 3 1 0 Z := hC
  change Z 0 G 0 [some (.ref (za G 4 i)), some (.int (nI v)), some (.int (nI a))] []
  refine z_al0 hC dX0_answerTo_0 ?_
  refine zgf_X0_9 hC hi dX0_answerTo_1 ?_
  refine z_il1 hC dX0_answerTo_4 ?_
  refine z_bipush hC dX0_answerTo_5 zb_8 ?_
  refine z_imulN hC dX0_answerTo_7 ?_
  refine z_il2 hC dX0_answerTo_8 ?_
  refine z_iaddN hC dX0_answerTo_9 ?_
  refine zal_5 hC hi (by omega) dX0_answerTo_10 ?_
  exact z_reti hE (by omega) dX0_answerTo_11 (⟨rfl, rfl⟩)

set_option maxHeartbeats 2000000 in
theorem c_X0_copyAnswers (l : Launch) (X : zX) (G : zG) {i v u : Nat} {r0 : Nat} (hr0 : r0 = za G 4 i)  (hi : i < 8) (hv : v < 5) (hu : u < 5) : zC l yX0_copyAnswers cX0_copyAnswers 3 none 1 0 X [.ref r0, .int (nI v), .int (nI u)] G (zPv (fun G2 => G2 = zuA G 5 i (va_cpy (zg G 5 i) (zg G 5 i) (v * 8) (u * 8) 8))) := by
  subst hr0
  refine zC_of zpn_X0 (zcat rfl) (Nat.le_of_ble_eq_true rfl) ?_
  intro Z hC hE
  replace hC : zCtx l X cX0_copyAnswers RX0 3 1 0 Z := hC
  change Z 0 G 0 [some (.ref (za G 4 i)), some (.int (nI v)), some (.int (nI u))] []
  refine z_al0 hC dX0_copyAnswers_0 ?_
  refine zgf_X0_9 hC hi dX0_copyAnswers_1 ?_
  refine z_il1 hC dX0_copyAnswers_4 ?_
  refine z_bipush hC dX0_copyAnswers_5 zb_8 ?_
  refine z_imulN hC dX0_copyAnswers_7 ?_
  refine z_al0 hC dX0_copyAnswers_8 ?_
  refine zgf_X0_9 hC hi dX0_copyAnswers_9 ?_
  refine z_il2 hC dX0_copyAnswers_12 ?_
  refine z_bipush hC dX0_copyAnswers_13 zb_8 ?_
  refine z_imulN hC dX0_copyAnswers_15 ?_
  refine z_bipush hC dX0_copyAnswers_16 zb_8 ?_
  refine z_copy5 hC hi (by omega) (by omega) (by omega) (Nat.le_of_ble_eq_true rfl) dX0_copyAnswers_18 ?_
  exact z_retv hE (by omega) dX0_copyAnswers_21 (rfl)

set_option maxHeartbeats 2000000 in
theorem c_X0_differing (l : Launch) (X : zX) (G : zG) {i v u : Nat} {r0 : Nat} (hr0 : r0 = za G 4 i)  (hi : i < 8) (hv : v < 5) (hu : u < 5) : zC l yX0_differing cX0_differing 5 (some FieldType.int) 2 0 X [.ref r0, .int (nI v), .int (nI u)] G (zPi (fun r G2 => r = xDif G i v u ∧ G = G2)) := by
  subst hr0
  refine zC_of zpn_X0 (zcat rfl) (Nat.le_of_ble_eq_true rfl) ?_
  intro Z hC hE
  replace hC : zCtx l X cX0_differing RX0 5 2 0 Z := hC
  change Z 0 G 0 [some (.ref (za G 4 i)), some (.int (nI v)), some (.int (nI u)), none, none] []
  refine z_iconst hC dX0_differing_0 zi_0 ?_
  refine z_is3 hC dX0_differing_1 (by decide) ?_
  refine z_iconst hC dX0_differing_2 zi_0 ?_
  refine z_is4 hC dX0_differing_3 (by decide) ?_
  refine z_loop (N := 8) (fun n => Z 0 G 5 [some (.ref (za G 4 i)), some (.int (nI v)), some (.int (nI u)), some (.int (bo (fun a => decide (¬ zg G 5 i (v * 8 + a) = zg G 5 i (u * 8 + a))) n)), some (.int (nI n))] []) ?_ ?_ 0 (Nat.zero_le _)
  · change Z 0 G 5 [some (.ref (za G 4 i)), some (.int (nI v)), some (.int (nI u)), some (.int (bo (fun a => decide (¬ zg G 5 i (v * 8 + a) = zg G 5 i (u * 8 + a))) 8)), some (.int (nI 8))] []
    refine z_il4 hC dX0_differing_5 ?_
    refine z_bipush hC dX0_differing_7 zb_8 ?_
    refine z_icmp_ge hC 42 dX0_differing_9 rfl (fun _ => ?_) (fun h => absurd (nI_le (Nat.le_refl _) (by omega)) h)
    refine z_il3 hC dX0_differing_42 ?_
    exact z_reti hE (by omega) dX0_differing_43 (⟨rfl, rfl⟩)
  · intro n hn ih
    change Z 0 G 5 [some (.ref (za G 4 i)), some (.int (nI v)), some (.int (nI u)), some (.int (bo (fun a => decide (¬ zg G 5 i (v * 8 + a) = zg G 5 i (u * 8 + a))) n)), some (.int (nI n))] []
    replace ih : Z 0 G 5 [some (.ref (za G 4 i)), some (.int (nI v)), some (.int (nI u)), some (.int (bo (fun a => decide (¬ zg G 5 i (v * 8 + a) = zg G 5 i (u * 8 + a))) (n + 1))), some (.int (nI (n + 1)))] [] := ih
    refine z_il4 hC dX0_differing_5 ?_
    refine z_bipush hC dX0_differing_7 zb_8 ?_
    refine z_icmp_ge hC 42 dX0_differing_9 rfl (fun h => absurd h (nI_ge hn (by omega))) (fun _ => ?_)
    refine z_al0 hC dX0_differing_12 ?_
    refine z_il1 hC dX0_differing_13 ?_
    refine z_il4 hC dX0_differing_14 ?_
    refine z_cVi2 hC (c_X0_answerTo l X _ (by rfl) hi (by omega) (by omega)) zm_X0_answerTo zi_X0_answerTo (zo_4 hi) zk_X0_40 (by omega) (by decide) (by omega) (Nat.le_of_ble_eq_true rfl) dX0_differing_16 ?_
    rintro _ _ ⟨rfl, rfl⟩
    refine z_al0 hC dX0_differing_19 ?_
    refine z_il2 hC dX0_differing_20 ?_
    refine z_il4 hC dX0_differing_21 ?_
    refine z_cVi2 hC (c_X0_answerTo l X _ (by rfl) hi (by omega) (by omega)) zm_X0_answerTo zi_X0_answerTo (zo_4 hi) zk_X0_40 (by omega) (by decide) (by omega) (Nat.le_of_ble_eq_true rfl) dX0_differing_23 ?_
    rintro _ _ ⟨rfl, rfl⟩
    refine z_icmp_eq hC 36 dX0_differing_26 rfl (fun h26 => ?_) (fun h26 => ?_)
    · refine z_inc4 hC dX0_differing_36 (by decide) ?_
      refine z_goto hC 5 dX0_differing_39 rfl ?_
      rw [bo_f (by simp [h26])] at ih
      exact ih
    · refine z_il3 hC dX0_differing_29 ?_
      refine z_iconst hC dX0_differing_30 zi_1 ?_
      refine z_il4 hC dX0_differing_31 ?_
      refine z_ishl hC dX0_differing_33 ?_
      refine z_ior hC dX0_differing_34 ?_
      refine z_is3 hC dX0_differing_35 (by decide) ?_
      refine z_inc4 hC dX0_differing_36 (by decide) ?_
      refine z_goto hC 5 dX0_differing_39 rfl ?_
      rw [bo_t (by simp [h26])] at ih
      exact ih

set_option maxHeartbeats 2000000 in
theorem c_X0_latestPromise (l : Launch) (X : zX) (G : zG) {i : Nat} {r0 : Nat} (hr0 : r0 = za G 4 i)  (hi : i < 8) : zC l yX0_latestPromise cX0_latestPromise 6 (some FieldType.int) 2 0 X [.ref r0] G (zPi (fun r G2 => r = xLat G i ∧ G = G2)) := by
  subst hr0
  refine zC_of zpn_X0 (zcat rfl) (Nat.le_of_ble_eq_true rfl) ?_
  intro Z hC hE
  replace hC : zCtx l X cX0_latestPromise RX0 6 2 0 Z := hC
  change Z 0 G 0 [some (.ref (za G 4 i)), none, none, none, none, none] []
  refine z_bipush hC dX0_latestPromise_0 zb_m9 ?_
  refine z_is1 hC dX0_latestPromise_2 (by decide) ?_
  refine z_al0 hC dX0_latestPromise_3 ?_
  refine zgf_X0_15 hC hi dX0_latestPromise_4 ?_
  refine z_as2 hC dX0_latestPromise_7 (by decide) ?_
  refine z_al2 hC dX0_latestPromise_8 ?_
  refine zlen_6 hC hi dX0_latestPromise_9 ?_
  refine z_is3 hC dX0_latestPromise_10 (by decide) ?_
  refine z_iconst hC dX0_latestPromise_11 zi_0 ?_
  refine z_is4 hC dX0_latestPromise_12 (by decide) ?_
  refine z_loop (N := 6) (fun n => Z 0 G 14 [some (.ref (za G 4 i)), some (.int (mxP (zg G 6 i) n)), some (.ref (za G 6 i)), some (.int (nI 6)), some (.int (nI n)), none] []) ?_ ?_ 0 (Nat.zero_le _)
  · change Z 0 G 14 [some (.ref (za G 4 i)), some (.int (mxP (zg G 6 i) 6)), some (.ref (za G 6 i)), some (.int (nI 6)), some (.int (nI 6)), none] []
    refine z_il4 hC dX0_latestPromise_14 ?_
    refine z_il3 hC dX0_latestPromise_16 ?_
    refine z_icmp_ge hC 39 dX0_latestPromise_17 rfl (fun _ => ?_) (fun h => absurd (nI_le (Nat.le_refl _) (by omega)) h)
    refine z_il1 hC dX0_latestPromise_39 ?_
    exact z_reti hE (by omega) dX0_latestPromise_40 (⟨rfl, rfl⟩)
  · intro n hn ih
    change Z 0 G 14 [some (.ref (za G 4 i)), some (.int (mxP (zg G 6 i) n)), some (.ref (za G 6 i)), some (.int (nI 6)), some (.int (nI n)), none] []
    replace ih : Z 0 G 14 [some (.ref (za G 4 i)), some (.int (mxP (zg G 6 i) (n + 1))), some (.ref (za G 6 i)), some (.int (nI 6)), some (.int (nI (n + 1))), none] [] := ih
    refine z_il4 hC dX0_latestPromise_14 ?_
    refine z_il3 hC dX0_latestPromise_16 ?_
    refine z_icmp_ge hC 39 dX0_latestPromise_17 rfl (fun h => absurd h (nI_ge hn (by omega))) (fun _ => ?_)
    refine z_al2 hC dX0_latestPromise_20 ?_
    refine z_il4 hC dX0_latestPromise_21 ?_
    refine zal_6 hC hi (by omega) dX0_latestPromise_23 ?_
    refine z_is5 hC dX0_latestPromise_24 (by decide) ?_
    refine z_il1 hC dX0_latestPromise_26 ?_
    refine z_il5 hC dX0_latestPromise_27 ?_
    refine z_mmax hC zk_X0_44 (by omega) (Nat.le_of_ble_eq_true rfl) (by omega) dX0_latestPromise_29 ?_
    refine z_is1 hC dX0_latestPromise_32 (by decide) ?_
    refine z_inc4 hC dX0_latestPromise_33 (by decide) ?_
    refine z_goto hC 14 dX0_latestPromise_36 rfl ?_
    refine z_dr5 hC ?_
    exact ih

set_option maxHeartbeats 2000000 in
theorem c_X0_isPromised (l : Launch) (X : zX) (G : zG) {i : Nat} {r0 : Nat} (hr0 : r0 = za G 4 i)  (hi : i < 8) {d : Int32} : zC l yX0_isPromised cX0_isPromised 2 (some FieldType.boolean) 3 0 X [.ref r0, .int d] G (zPi (fun r G2 => (d ≤ xLat G i ∧ r = nI 1 ∧ G = G2) ∨ (xLat G i < d ∧ r = nI 0 ∧ G = G2))) := by
  subst hr0
  refine zC_of zpn_X0 (zcat rfl) (Nat.le_of_ble_eq_true rfl) ?_
  intro Z hC hE
  replace hC : zCtx l X cX0_isPromised RX0 2 3 0 Z := hC
  change Z 0 G 0 [some (.ref (za G 4 i)), some (.int d)] []
  refine z_al0 hC dX0_isPromised_0 ?_
  refine z_cVi0 hC (c_X0_latestPromise l X _ (by rfl) hi) zm_X0_latestPromise zi_X0_latestPromise (zo_4 hi) zk_X0_49 (by omega) (by decide) (by omega) (Nat.le_of_ble_eq_true rfl) dX0_isPromised_1 ?_
  rintro _ _ ⟨rfl, rfl⟩
  refine z_il1 hC dX0_isPromised_4 ?_
  refine z_icmp_lt hC 12 dX0_isPromised_5 rfl (fun h5 => ?_) (fun h5 => ?_)
  · refine z_iconst hC dX0_isPromised_12 zi_0 ?_
    exact z_retz0 hE (by omega) dX0_isPromised_13 (Or.inr ⟨h5, rfl, rfl⟩)
  · refine z_iconst hC dX0_isPromised_8 zi_1 ?_
    refine z_goto hC 13 dX0_isPromised_9 rfl ?_
    exact z_retz1 hE (by omega) dX0_isPromised_13 (Or.inl ⟨Int32.not_lt.mp h5, rfl, rfl⟩)

set_option maxHeartbeats 2000000 in
theorem c_X0_isShutOn (l : Launch) (X : zX) (G : zG) {i : Nat} {r0 : Nat} (hr0 : r0 = za G 4 i)  (hi : i < 8) {d : Int32} : zC l yX0_isShutOn cX0_isShutOn 2 (some FieldType.boolean) 1 0 X [.ref r0, .int d] G (zPi (fun r G2 => (xShut G i d = true ∧ r = nI 1 ∧ G = G2) ∨ (xShut G i d = false ∧ r = nI 0 ∧ G = G2))) := by
  subst hr0
  refine zC_of zpn_X0 (zcat rfl) (Nat.le_of_ble_eq_true rfl) ?_
  intro Z hC hE
  replace hC : zCtx l X cX0_isShutOn RX0 2 1 0 Z := hC
  change Z 0 G 0 [some (.ref (za G 4 i)), some (.int d)] []
  refine z_al0 hC dX0_isShutOn_0 ?_
  refine zgf_X0_18 hC hi dX0_isShutOn_1 ?_
  refine z_bipush hC dX0_isShutOn_4 zb_m9 ?_
  refine z_icmp_eq hC 21 dX0_isShutOn_6 rfl (fun h6 => ?_) (fun h6 => ?_)
  · refine z_iconst hC dX0_isShutOn_21 zi_0 ?_
    exact z_retz0 hE (by omega) dX0_isShutOn_22 (Or.inr ⟨by simp [xShut, h6], rfl, rfl⟩)
  · refine z_al0 hC dX0_isShutOn_9 ?_
    refine zgf_X0_18 hC hi dX0_isShutOn_10 ?_
    refine z_il1 hC dX0_isShutOn_13 ?_
    refine z_icmp_gt hC 21 dX0_isShutOn_14 rfl (fun h14 => ?_) (fun h14 => ?_)
    · refine z_iconst hC dX0_isShutOn_21 zi_0 ?_
      exact z_retz0 hE (by omega) dX0_isShutOn_22 (Or.inr ⟨by simp [xShut, Int32.not_le.mpr h14], rfl, rfl⟩)
    · refine z_iconst hC dX0_isShutOn_17 zi_1 ?_
      refine z_goto hC 22 dX0_isShutOn_18 rfl ?_
      exact z_retz1 hE (by omega) dX0_isShutOn_22 (Or.inl ⟨by simp [xShut, h6, Int32.not_lt.mp h14], rfl, rfl⟩)

set_option maxHeartbeats 2000000 in
theorem c_X3_has (l : Launch) (X : zX) (G : zG) {i : Nat} {r0 : Nat} (hr0 : r0 = za G 10 i)  (hi : i < 6) {x : Int32} {n : Nat} (hsz : zg G 10 i 6 = nI n) (h12 : n ≤ 12) : zC l yX3_has cX3_has 2 (some FieldType.boolean) 2 0 X [.ref r0, .int x] G (zPi (fun r G2 => (∃ a, a < n ∧ x = nI a ∧ r = nI 1 ∧ G = G2) ∨ (zin x n = false ∧ r = nI 0 ∧ G = G2))) := by
  subst hr0
  refine zC_of zpn_X3 (zcat rfl) (Nat.le_of_ble_eq_true rfl) ?_
  intro Z hC hE
  replace hC : zCtx l X cX3_has RX3 2 2 0 Z := hC
  change Z 0 G 0 [some (.ref (za G 10 i)), some (.int x)] []
  refine z_il1 hC dX3_has_0 ?_
  refine z_al0 hC dX3_has_1 ?_
  refine zgf_X3_30 hC hi dX3_has_2 ?_
  refine z_top hsz ?_
  refine z_iconst hC dX3_has_5 zi_1 ?_
  refine z_isub hC dX3_has_6 ?_
  refine z_cSNi2 hC (c_X4_isWithinS l X _ (by omega)) zm_X4_isWithin zi_X4_isWithin zkn_X3_34 (by omega) (by decide) (by omega) (Nat.le_of_ble_eq_true rfl) dX3_has_7 ?_
  rintro _ _ (⟨xN, hx, rfl, rfl, rfl⟩ | ⟨nx, rfl, rfl⟩)
  · exact z_retz1 hE (by omega) dX3_has_10 (Or.inl ⟨xN, hx, rfl, rfl, rfl⟩)
  · exact z_retz0 hE (by omega) dX3_has_10 (Or.inr ⟨nx, rfl, rfl⟩)

set_option maxHeartbeats 2000000 in
theorem c_X3_added (l : Launch) (X : zX) (G : zG) {i : Nat} {r0 : Nat} (hr0 : r0 = za G 10 i)  (hi : i < 6) {k f g d t : Int32} {n : Nat} (hsz : zg G 10 i 6 = nI n) (h12 : n < 12) : zC l yX3_added cX3_added 6 (some FieldType.int) 1 0 X [.ref r0, .int k, .int f, .int g, .int d, .int t] G (zPi (fun r G2 => r = nI n ∧ G2 = zu (zu (zu (zu (zu (zu G 11 i n k) 12 i n f) 13 i n g) 14 i n d) 15 i n t) 10 i 6 (nI (n + 1)))) := by
  subst hr0
  refine zC_of zpn_X3 (zcat rfl) (Nat.le_of_ble_eq_true rfl) ?_
  intro Z hC hE
  replace hC : zCtx l X cX3_added RX3 6 1 0 Z := hC
  change Z 0 G 0 [some (.ref (za G 10 i)), some (.int k), some (.int f), some (.int g), some (.int d), some (.int t)] []
  refine z_al0 hC dX3_added_0 ?_
  refine zgf_X3_9 hC hi dX3_added_1 ?_
  refine z_al0 hC dX3_added_4 ?_
  refine zgf_X3_30 hC hi dX3_added_5 ?_
  refine z_top hsz ?_
  refine z_il1 hC dX3_added_8 ?_
  refine zas_11 hC hi (by omega) dX3_added_9 ?_
  refine z_al0 hC dX3_added_10 ?_
  refine zgf_X3_15 hC hi dX3_added_11 ?_
  refine z_al0 hC dX3_added_14 ?_
  refine zgf_X3_30 hC hi dX3_added_15 ?_
  refine z_top ((by simp [zg_zu, hsz]) : _ = nI n) ?_
  refine z_il2 hC dX3_added_18 ?_
  refine zas_12 hC hi (by omega) dX3_added_19 ?_
  refine z_al0 hC dX3_added_20 ?_
  refine zgf_X3_18 hC hi dX3_added_21 ?_
  refine z_al0 hC dX3_added_24 ?_
  refine zgf_X3_30 hC hi dX3_added_25 ?_
  refine z_top ((by simp [zg_zu, hsz]) : _ = nI n) ?_
  refine z_il3 hC dX3_added_28 ?_
  refine zas_13 hC hi (by omega) dX3_added_29 ?_
  refine z_al0 hC dX3_added_30 ?_
  refine zgf_X3_21 hC hi dX3_added_31 ?_
  refine z_al0 hC dX3_added_34 ?_
  refine zgf_X3_30 hC hi dX3_added_35 ?_
  refine z_top ((by simp [zg_zu, hsz]) : _ = nI n) ?_
  refine z_il4 hC dX3_added_38 ?_
  refine zas_14 hC hi (by omega) dX3_added_40 ?_
  refine z_al0 hC dX3_added_41 ?_
  refine zgf_X3_24 hC hi dX3_added_42 ?_
  refine z_al0 hC dX3_added_45 ?_
  refine zgf_X3_30 hC hi dX3_added_46 ?_
  refine z_top ((by simp [zg_zu, hsz]) : _ = nI n) ?_
  refine z_il5 hC dX3_added_49 ?_
  refine zas_15 hC hi (by omega) dX3_added_51 ?_
  refine z_al0 hC dX3_added_52 ?_
  refine z_dup hC dX3_added_53 rfl ?_
  refine zgf_X3_30 hC hi dX3_added_54 ?_
  refine z_top ((by simp [zg_zu, hsz]) : _ = nI n) ?_
  refine z_iconst hC dX3_added_57 zi_1 ?_
  refine z_iaddN hC dX3_added_58 ?_
  refine zpf_X3_30 hC hi dX3_added_59 ?_
  refine z_al0 hC dX3_added_62 ?_
  refine zgf_X3_30 hC hi dX3_added_63 ?_
  refine z_top ((by simp [zg_zu]) : _ = nI (n + 1)) ?_
  refine z_iconst hC dX3_added_66 zi_1 ?_
  refine z_isubN hC dX3_added_67 (by omega) ?_
  exact z_reti hE (by omega) dX3_added_68 (⟨by simp, rfl⟩)

set_option maxHeartbeats 2000000 in
theorem c_X3_addCall (l : Launch) (X : zX) (G : zG) {i : Nat} {r0 : Nat} (hr0 : r0 = za G 10 i)  (hi : i < 6) {f : Nat} (hf : f < 8) {t : Int32} {m : Nat} (hsz : zg G 10 i 6 = nI m) (h12 : m ≤ 12) : zC l yX3_addCall cX3_addCall 4 (some FieldType.int) 2 0 X [.ref r0, .int (nI f), .int t] G (zPi (fun r G2 => (m < 12 ∧ r = nI m ∧ G2 = zu (zu (zu (zu (zu (zu (zuA G 16 i (endF (zg G 16 i) (m * 8) (fun v => nI (f * 8 + v)) 8)) 11 i m (nI 0)) 12 i m (nI 0)) 13 i m (nI 0)) 14 i m (nI 0)) 15 i m t) 10 i 6 (nI (m + 1))) ∨ (m = 12 ∧ r = -3 ∧ G2 = G))) := by
  subst hr0
  refine zC_of zpn_X3 (zcat rfl) (Nat.le_of_ble_eq_true rfl) ?_
  intro Z hC hE
  replace hC : zCtx l X cX3_addCall RX3 4 2 0 Z := hC
  change Z 0 G 0 [some (.ref (za G 10 i)), some (.int (nI f)), some (.int t), none] []
  refine z_al0 hC dX3_addCall_0 ?_
  refine zgf_X3_30 hC hi dX3_addCall_1 ?_
  refine z_top hsz ?_
  refine z_bipush hC dX3_addCall_4 zb_12 ?_
  refine z_icmp_lt hC 12 dX3_addCall_6 rfl (fun h6 => ?_) (fun h6 => ?_)
  · have hm : m < 12 := (nI_ltI (by omega) (by decide)).mp h6
    refine z_iconst hC dX3_addCall_12 zi_0 ?_
    refine z_is3 hC dX3_addCall_13 (by decide) ?_
    refine zG0 (zuA_id G 16 i (endF_0 (zg G 16 i) (m * 8) (fun v => nI (f * 8 + v)))) ?_
    refine z_loop (N := 8) (fun n => Z 0 (zuA G 16 i (endF (zg G 16 i) (m * 8) (fun v => nI (f * 8 + v)) n)) 14 [some (.ref (za G 10 i)), some (.int (nI f)), some (.int t), some (.int (nI n))] []) ?_ ?_ 0 (Nat.zero_le _)
    · change Z 0 (zuA G 16 i (endF (zg G 16 i) (m * 8) (fun v => nI (f * 8 + v)) 8)) 14 [some (.ref (za G 10 i)), some (.int (nI f)), some (.int t), some (.int (nI 8))] []
      refine z_il3 hC dX3_addCall_14 ?_
      refine z_bipush hC dX3_addCall_15 zb_8 ?_
      refine z_icmp_ge hC 46 dX3_addCall_17 rfl (fun _ => ?_) (fun h => absurd (nI_le (Nat.le_refl _) (by omega)) h)
      refine z_al0 hC dX3_addCall_46 ?_
      refine z_iconst hC dX3_addCall_47 zi_0 ?_
      refine z_iconst hC dX3_addCall_48 zi_0 ?_
      refine z_iconst hC dX3_addCall_49 zi_0 ?_
      refine z_iconst hC dX3_addCall_50 zi_0 ?_
      refine z_il2 hC dX3_addCall_51 ?_
      refine z_cVi5 hC (c_X3_added l X _ (by rfl) hi (n := m) (by simp [zg_zuA, hsz]) hm) zm_X3_added zi_X3_added (zo_10 hi) zk_X3_38 (by omega) (by decide) (by omega) (Nat.le_of_ble_eq_true rfl) dX3_addCall_52 ?_
      rintro _ _ ⟨rfl, rfl⟩
      exact z_reti hE (by omega) dX3_addCall_55 (Or.inl ⟨hm, rfl, rfl⟩)
    · intro n hn ih
      change Z 0 (zuA G 16 i (endF (zg G 16 i) (m * 8) (fun v => nI (f * 8 + v)) n)) 14 [some (.ref (za G 10 i)), some (.int (nI f)), some (.int t), some (.int (nI n))] []
      replace ih : Z 0 (zuA G 16 i (endF (zg G 16 i) (m * 8) (fun v => nI (f * 8 + v)) (n + 1))) 14 [some (.ref (za G 10 i)), some (.int (nI f)), some (.int t), some (.int (nI (n + 1)))] [] := ih
      refine z_il3 hC dX3_addCall_14 ?_
      refine z_bipush hC dX3_addCall_15 zb_8 ?_
      refine z_icmp_ge hC 46 dX3_addCall_17 rfl (fun h => absurd h (nI_ge hn (by omega))) (fun _ => ?_)
      refine z_al0 hC dX3_addCall_20 ?_
      refine zgf_X3_27 hC hi dX3_addCall_21 ?_
      refine z_al0 hC dX3_addCall_24 ?_
      refine zgf_X3_30 hC hi dX3_addCall_25 ?_
      refine z_top ((by simp [zg_zuA, hsz]) : _ = nI m) ?_
      refine z_bipush hC dX3_addCall_28 zb_8 ?_
      refine z_imulN hC dX3_addCall_30 ?_
      refine z_il3 hC dX3_addCall_31 ?_
      refine z_iaddN hC dX3_addCall_32 ?_
      refine z_il1 hC dX3_addCall_33 ?_
      refine z_bipush hC dX3_addCall_34 zb_8 ?_
      refine z_imulN hC dX3_addCall_36 ?_
      refine z_il3 hC dX3_addCall_37 ?_
      refine z_iaddN hC dX3_addCall_38 ?_
      refine zas_16 hC hi (by omega) dX3_addCall_39 ?_
      refine z_inc3 hC dX3_addCall_40 (by decide) ?_
      refine z_goto hC 14 dX3_addCall_43 rfl ?_
      rw [zuA_put] at ih
      exact ih
  · refine z_bipush hC dX3_addCall_9 zb_m3 ?_
    exact z_reti hE (by omega) dX3_addCall_11 (Or.inr ⟨by have h7 : ¬ m < 12 := fun h => h6 ((nI_ltI (by omega) (by decide)).mpr h); omega, rfl, rfl⟩)

set_option maxHeartbeats 2000000 in
theorem c_X3_addWrap (l : Launch) (X : zX) (G : zG) {i : Nat} {r0 : Nat} (hr0 : r0 = za G 10 i)  (hi : i < 6) {s d : Nat} {t : Int32} {m : Nat} (hsz : zg G 10 i 6 = nI m) (h12 : m ≤ 12) (hs : s < m) (hd : d < 8) : zC l yX3_addWrap cX3_addWrap 5 (some FieldType.int) 2 0 X [.ref r0, .int (nI s), .int (nI d), .int t] G (zPi (fun r G2 => (m < 12 ∧ r = nI m ∧ G2 = zu (zu (zu (zu (zu (zu (zuA G 16 i (endF (zg G 16 i) (m * 8) (fun v => zg G 16 i (s * 8 + (v + d) % 8)) 8)) 11 i m (nI 1)) 12 i m (nI s)) 13 i m (nI s)) 14 i m (nI d)) 15 i m t) 10 i 6 (nI (m + 1))) ∨ (m = 12 ∧ r = -3 ∧ G2 = G))) := by
  subst hr0
  refine zC_of zpn_X3 (zcat rfl) (Nat.le_of_ble_eq_true rfl) ?_
  intro Z hC hE
  replace hC : zCtx l X cX3_addWrap RX3 5 2 0 Z := hC
  change Z 0 G 0 [some (.ref (za G 10 i)), some (.int (nI s)), some (.int (nI d)), some (.int t), none] []
  refine z_al0 hC dX3_addWrap_0 ?_
  refine zgf_X3_30 hC hi dX3_addWrap_1 ?_
  refine z_top hsz ?_
  refine z_bipush hC dX3_addWrap_4 zb_12 ?_
  refine z_icmp_lt hC 12 dX3_addWrap_6 rfl (fun h6 => ?_) (fun h6 => ?_)
  · have hm : m < 12 := (nI_ltI (by omega) (by decide)).mp h6
    refine z_iconst hC dX3_addWrap_12 zi_0 ?_
    refine z_is4 hC dX3_addWrap_13 (by decide) ?_
    refine zG0 (zuA_id G 16 i (endF_0 (zg G 16 i) (m * 8) (fun v => zg G 16 i (s * 8 + (v + d) % 8)))) ?_
    refine z_loop (N := 8) (fun n => Z 0 (zuA G 16 i (endF (zg G 16 i) (m * 8) (fun v => zg G 16 i (s * 8 + (v + d) % 8)) n)) 15 [some (.ref (za G 10 i)), some (.int (nI s)), some (.int (nI d)), some (.int t), some (.int (nI n))] []) ?_ ?_ 0 (Nat.zero_le _)
    · change Z 0 (zuA G 16 i (endF (zg G 16 i) (m * 8) (fun v => zg G 16 i (s * 8 + (v + d) % 8)) 8)) 15 [some (.ref (za G 10 i)), some (.int (nI s)), some (.int (nI d)), some (.int t), some (.int (nI 8))] []
      refine z_il4 hC dX3_addWrap_15 ?_
      refine z_bipush hC dX3_addWrap_17 zb_8 ?_
      refine z_icmp_ge hC 60 dX3_addWrap_19 rfl (fun _ => ?_) (fun h => absurd (nI_le (Nat.le_refl _) (by omega)) h)
      refine z_al0 hC dX3_addWrap_60 ?_
      refine z_iconst hC dX3_addWrap_61 zi_1 ?_
      refine z_il1 hC dX3_addWrap_62 ?_
      refine z_il1 hC dX3_addWrap_63 ?_
      refine z_il2 hC dX3_addWrap_64 ?_
      refine z_il3 hC dX3_addWrap_65 ?_
      refine z_cVi5 hC (c_X3_added l X _ (by rfl) hi (n := m) (by simp [zg_zuA, hsz]) hm) zm_X3_added zi_X3_added (zo_10 hi) zk_X3_38 (by omega) (by decide) (by omega) (Nat.le_of_ble_eq_true rfl) dX3_addWrap_66 ?_
      rintro _ _ ⟨rfl, rfl⟩
      exact z_reti hE (by omega) dX3_addWrap_69 (Or.inl ⟨hm, rfl, rfl⟩)
    · intro n hn ih
      change Z 0 (zuA G 16 i (endF (zg G 16 i) (m * 8) (fun v => zg G 16 i (s * 8 + (v + d) % 8)) n)) 15 [some (.ref (za G 10 i)), some (.int (nI s)), some (.int (nI d)), some (.int t), some (.int (nI n))] []
      replace ih : Z 0 (zuA G 16 i (endF (zg G 16 i) (m * 8) (fun v => zg G 16 i (s * 8 + (v + d) % 8)) (n + 1))) 15 [some (.ref (za G 10 i)), some (.int (nI s)), some (.int (nI d)), some (.int t), some (.int (nI (n + 1)))] [] := ih
      refine z_il4 hC dX3_addWrap_15 ?_
      refine z_bipush hC dX3_addWrap_17 zb_8 ?_
      refine z_icmp_ge hC 60 dX3_addWrap_19 rfl (fun h => absurd h (nI_ge hn (by omega))) (fun _ => ?_)
      refine z_al0 hC dX3_addWrap_22 ?_
      refine zgf_X3_27 hC hi dX3_addWrap_23 ?_
      refine z_al0 hC dX3_addWrap_26 ?_
      refine zgf_X3_30 hC hi dX3_addWrap_27 ?_
      refine z_top ((by simp [zg_zuA, hsz]) : _ = nI m) ?_
      refine z_bipush hC dX3_addWrap_30 zb_8 ?_
      refine z_imulN hC dX3_addWrap_32 ?_
      refine z_il4 hC dX3_addWrap_33 ?_
      refine z_iaddN hC dX3_addWrap_35 ?_
      refine z_al0 hC dX3_addWrap_36 ?_
      refine zgf_X3_27 hC hi dX3_addWrap_37 ?_
      refine z_il1 hC dX3_addWrap_40 ?_
      refine z_bipush hC dX3_addWrap_41 zb_8 ?_
      refine z_imulN hC dX3_addWrap_43 ?_
      refine z_il4 hC dX3_addWrap_44 ?_
      refine z_il2 hC dX3_addWrap_46 ?_
      refine z_iaddN hC dX3_addWrap_47 ?_
      refine z_bipush hC dX3_addWrap_48 zb_8 ?_
      refine z_iremN hC dX3_addWrap_50 (by omega) (by omega) (by omega) ?_
      refine z_iaddN hC dX3_addWrap_51 ?_
      refine zal_16 hC hi (by omega) dX3_addWrap_52 ?_
      refine z_top (endF_lo G 16 i m _ (by omega)) ?_
      refine zas_16 hC hi (by omega) dX3_addWrap_53 ?_
      refine z_inc4 hC dX3_addWrap_54 (by decide) ?_
      refine z_goto hC 15 dX3_addWrap_57 rfl ?_
      rw [zuA_put] at ih
      exact ih
  · refine z_bipush hC dX3_addWrap_9 zb_m3 ?_
    exact z_reti hE (by omega) dX3_addWrap_11 (Or.inr ⟨by have h7 : ¬ m < 12 := fun h => h6 ((nI_ltI (by omega) (by decide)).mpr h); omega, rfl, rfl⟩)

set_option maxHeartbeats 2000000 in
theorem c_X3_addSplit (l : Launch) (X : zX) (G : zG) {i : Nat} {r0 : Nat} (hr0 : r0 = za G 10 i)  (hi : i < 6) {s u b : Nat} {t : Int32} {m : Nat} (hsz : zg G 10 i 6 = nI m) (h12 : m ≤ 12) (hs : s < m) (hu : u < m) (hb : b < 8) : zC l yX3_addSplit cX3_addSplit 6 (some FieldType.int) 2 0 X [.ref r0, .int (nI s), .int (nI u), .int (nI b), .int t] G (zPi (fun r G2 => (m < 12 ∧ r = nI m ∧ G2 = zu (zu (zu (zu (zu (zu (zuA G 16 i (endF (zg G 16 i) (m * 8) (fun v => zg G 16 i ((if v < b then s else u) * 8 + v)) 8)) 11 i m (nI 2)) 12 i m (nI s)) 13 i m (nI u)) 14 i m (nI b)) 15 i m t) 10 i 6 (nI (m + 1))) ∨ (m = 12 ∧ r = -3 ∧ G2 = G))) := by
  subst hr0
  refine zC_of zpn_X3 (zcat rfl) (Nat.le_of_ble_eq_true rfl) ?_
  intro Z hC hE
  replace hC : zCtx l X cX3_addSplit RX3 6 2 0 Z := hC
  change Z 0 G 0 [some (.ref (za G 10 i)), some (.int (nI s)), some (.int (nI u)), some (.int (nI b)), some (.int t), none] []
  refine z_al0 hC dX3_addSplit_0 ?_
  refine zgf_X3_30 hC hi dX3_addSplit_1 ?_
  refine z_top hsz ?_
  refine z_bipush hC dX3_addSplit_4 zb_12 ?_
  refine z_icmp_lt hC 12 dX3_addSplit_6 rfl (fun h6 => ?_) (fun h6 => ?_)
  · have hm : m < 12 := (nI_ltI (by omega) (by decide)).mp h6
    refine z_iconst hC dX3_addSplit_12 zi_0 ?_
    refine z_is5 hC dX3_addSplit_13 (by decide) ?_
    refine zG0 (zuA_id G 16 i (endF_0 (zg G 16 i) (m * 8) (fun v => zg G 16 i ((if v < b then s else u) * 8 + v)))) ?_
    refine z_loop (N := 8) (fun n => Z 0 (zuA G 16 i (endF (zg G 16 i) (m * 8) (fun v => zg G 16 i ((if v < b then s else u) * 8 + v)) n)) 15 [some (.ref (za G 10 i)), some (.int (nI s)), some (.int (nI u)), some (.int (nI b)), some (.int t), some (.int (nI n))] []) ?_ ?_ 0 (Nat.zero_le _)
    · change Z 0 (zuA G 16 i (endF (zg G 16 i) (m * 8) (fun v => zg G 16 i ((if v < b then s else u) * 8 + v)) 8)) 15 [some (.ref (za G 10 i)), some (.int (nI s)), some (.int (nI u)), some (.int (nI b)), some (.int t), some (.int (nI 8))] []
      refine z_il5 hC dX3_addSplit_15 ?_
      refine z_bipush hC dX3_addSplit_17 zb_8 ?_
      refine z_icmp_ge hC 65 dX3_addSplit_19 rfl (fun _ => ?_) (fun h => absurd (nI_le (Nat.le_refl _) (by omega)) h)
      refine z_al0 hC dX3_addSplit_65 ?_
      refine z_iconst hC dX3_addSplit_66 zi_2 ?_
      refine z_il1 hC dX3_addSplit_67 ?_
      refine z_il2 hC dX3_addSplit_68 ?_
      refine z_il3 hC dX3_addSplit_69 ?_
      refine z_il4 hC dX3_addSplit_70 ?_
      refine z_cVi5 hC (c_X3_added l X _ (by rfl) hi (n := m) (by simp [zg_zuA, hsz]) hm) zm_X3_added zi_X3_added (zo_10 hi) zk_X3_38 (by omega) (by decide) (by omega) (Nat.le_of_ble_eq_true rfl) dX3_addSplit_72 ?_
      rintro _ _ ⟨rfl, rfl⟩
      exact z_reti hE (by omega) dX3_addSplit_75 (Or.inl ⟨hm, rfl, rfl⟩)
    · intro n hn ih
      change Z 0 (zuA G 16 i (endF (zg G 16 i) (m * 8) (fun v => zg G 16 i ((if v < b then s else u) * 8 + v)) n)) 15 [some (.ref (za G 10 i)), some (.int (nI s)), some (.int (nI u)), some (.int (nI b)), some (.int t), some (.int (nI n))] []
      replace ih : Z 0 (zuA G 16 i (endF (zg G 16 i) (m * 8) (fun v => zg G 16 i ((if v < b then s else u) * 8 + v)) (n + 1))) 15 [some (.ref (za G 10 i)), some (.int (nI s)), some (.int (nI u)), some (.int (nI b)), some (.int t), some (.int (nI (n + 1)))] [] := ih
      refine z_il5 hC dX3_addSplit_15 ?_
      refine z_bipush hC dX3_addSplit_17 zb_8 ?_
      refine z_icmp_ge hC 65 dX3_addSplit_19 rfl (fun h => absurd h (nI_ge hn (by omega))) (fun _ => ?_)
      refine z_al0 hC dX3_addSplit_22 ?_
      refine zgf_X3_27 hC hi dX3_addSplit_23 ?_
      refine z_al0 hC dX3_addSplit_26 ?_
      refine zgf_X3_30 hC hi dX3_addSplit_27 ?_
      refine z_top ((by simp [zg_zuA, hsz]) : _ = nI m) ?_
      refine z_bipush hC dX3_addSplit_30 zb_8 ?_
      refine z_imulN hC dX3_addSplit_32 ?_
      refine z_il5 hC dX3_addSplit_33 ?_
      refine z_iaddN hC dX3_addSplit_35 ?_
      refine z_al0 hC dX3_addSplit_36 ?_
      refine zgf_X3_27 hC hi dX3_addSplit_37 ?_
      refine z_il5 hC dX3_addSplit_40 ?_
      refine z_il3 hC dX3_addSplit_42 ?_
      refine z_icmp_ge hC 50 dX3_addSplit_43 rfl (fun h43 => ?_) (fun h43 => ?_)
      · have hq : ¬ n < b := fun h => absurd h43 (nI_ge h (by omega))
        refine z_il2 hC dX3_addSplit_50 ?_
        refine z_bipush hC dX3_addSplit_51 zb_8 ?_
        refine z_imulN hC dX3_addSplit_53 ?_
        refine z_il5 hC dX3_addSplit_54 ?_
        refine z_iaddN hC dX3_addSplit_56 ?_
        refine zal_16 hC hi (by omega) dX3_addSplit_57 ?_
        refine z_top (endF_lo G 16 i m _ (by omega)) ?_
        refine zas_16 hC hi (by omega) dX3_addSplit_58 ?_
        refine z_inc5 hC dX3_addSplit_59 (by decide) ?_
        refine z_goto hC 15 dX3_addSplit_62 rfl ?_
        rw [zuA_put, if_neg hq] at ih
        exact ih
      · have hq : n < b := Nat.lt_of_not_le (fun h => h43 ((nI_leI (by omega) (by omega)).mpr h))
        refine z_il1 hC dX3_addSplit_46 ?_
        refine z_goto hC 51 dX3_addSplit_47 rfl ?_
        refine z_bipush hC dX3_addSplit_51 zb_8 ?_
        refine z_imulN hC dX3_addSplit_53 ?_
        refine z_il5 hC dX3_addSplit_54 ?_
        refine z_iaddN hC dX3_addSplit_56 ?_
        refine zal_16 hC hi (by omega) dX3_addSplit_57 ?_
        refine z_top (endF_lo G 16 i m _ (by omega)) ?_
        refine zas_16 hC hi (by omega) dX3_addSplit_58 ?_
        refine z_inc5 hC dX3_addSplit_59 (by decide) ?_
        refine z_goto hC 15 dX3_addSplit_62 rfl ?_
        rw [zuA_put, if_pos hq] at ih
        exact ih
  · refine z_bipush hC dX3_addSplit_9 zb_m3 ?_
    exact z_reti hE (by omega) dX3_addSplit_11 (Or.inr ⟨by have h7 : ¬ m < 12 := fun h => h6 ((nI_ltI (by omega) (by decide)).mpr h); omega, rfl, rfl⟩)

set_option maxHeartbeats 2000000 in
theorem c_X3_seenBy (l : Launch) (X : zX) (G : zG) {i s : Nat} {r0 : Nat} (hr0 : r0 = za G 10 i)  (hi : i < 6) (hs : s < 12) {f : Int32} : zC l yX3_seenBy cX3_seenBy 6 (some FieldType.int) 1 0 X [.ref r0, .int (nI s), .int f] G (zPi (fun r G2 => r = xSees G i s f ∧ G = G2)) := by
  subst hr0
  refine zC_of zpn_X3 (zcat rfl) (Nat.le_of_ble_eq_true rfl) ?_
  intro Z hC hE
  replace hC : zCtx l X cX3_seenBy RX3 6 1 0 Z := hC
  change Z 0 G 0 [some (.ref (za G 10 i)), some (.int (nI s)), some (.int f), none, none, none] []
  refine z_iconst hC dX3_seenBy_0 zi_0 ?_
  refine z_is3 hC dX3_seenBy_1 (by decide) ?_
  refine z_iconst hC dX3_seenBy_2 zi_0 ?_
  refine z_is4 hC dX3_seenBy_3 (by decide) ?_
  refine z_loop (N := 8) (fun n => Z 0 G 5 [some (.ref (za G 10 i)), some (.int (nI s)), some (.int f), some (.int (sbX (zg G 16 i) (zg G 15 i s) f (s * 8) n)), some (.int (nI n)), none] []) ?_ ?_ 0 (Nat.zero_le _)
  · change Z 0 G 5 [some (.ref (za G 10 i)), some (.int (nI s)), some (.int f), some (.int (sbX (zg G 16 i) (zg G 15 i s) f (s * 8) 8)), some (.int (nI 8)), none] []
    refine z_il4 hC dX3_seenBy_5 ?_
    refine z_bipush hC dX3_seenBy_7 zb_8 ?_
    refine z_icmp_ge hC 65 dX3_seenBy_9 rfl (fun _ => ?_) (fun h => absurd (nI_le (Nat.le_refl _) (by omega)) h)
    refine z_il3 hC dX3_seenBy_65 ?_
    exact z_reti hE (by omega) dX3_seenBy_66 (⟨rfl, rfl⟩)
  · intro n hn ih
    change Z 0 G 5 [some (.ref (za G 10 i)), some (.int (nI s)), some (.int f), some (.int (sbX (zg G 16 i) (zg G 15 i s) f (s * 8) n)), some (.int (nI n)), none] []
    replace ih : Z 0 G 5 [some (.ref (za G 10 i)), some (.int (nI s)), some (.int f), some (.int (sbX (zg G 16 i) (zg G 15 i s) f (s * 8) (n + 1))), some (.int (nI (n + 1))), none] [] := ih
    refine z_il4 hC dX3_seenBy_5 ?_
    refine z_bipush hC dX3_seenBy_7 zb_8 ?_
    refine z_icmp_ge hC 65 dX3_seenBy_9 rfl (fun h => absurd h (nI_ge hn (by omega))) (fun _ => ?_)
    refine z_al0 hC dX3_seenBy_12 ?_
    refine zgf_X3_27 hC hi dX3_seenBy_13 ?_
    refine z_il1 hC dX3_seenBy_16 ?_
    refine z_bipush hC dX3_seenBy_17 zb_8 ?_
    refine z_imulN hC dX3_seenBy_19 ?_
    refine z_il4 hC dX3_seenBy_20 ?_
    refine z_iaddN hC dX3_seenBy_22 ?_
    refine zal_16 hC hi (by omega) dX3_seenBy_23 ?_
    refine z_is5 hC dX3_seenBy_24 (by decide) ?_
    refine z_al0 hC dX3_seenBy_26 ?_
    refine zgf_X3_24 hC hi dX3_seenBy_27 ?_
    refine z_il1 hC dX3_seenBy_30 ?_
    refine zal_15 hC hi (by omega) dX3_seenBy_31 ?_
    refine z_il4 hC dX3_seenBy_32 ?_
    refine z_ishr hC dX3_seenBy_34 ?_
    refine z_iconst hC dX3_seenBy_35 zi_1 ?_
    refine z_iand hC dX3_seenBy_36 ?_
    refine z_if_eq hC 59 dX3_seenBy_37 rfl (fun h37 => ?_) (fun h37 => ?_)
    · refine z_inc4 hC dX3_seenBy_59 (by decide) ?_
      refine z_goto hC 5 dX3_seenBy_62 rfl ?_
      refine z_dr5 hC ?_
      rw [sbX_s, if_pos h37] at ih
      exact ih
    · refine z_il5 hC dX3_seenBy_40 ?_
      refine z_bipush hC dX3_seenBy_42 zb_8 ?_
      refine z_idiv hC dX3_seenBy_44 (nI_ne0 (by decide) (by decide)) ?_
      refine z_il2 hC dX3_seenBy_45 ?_
      refine z_icmp_ne hC 59 dX3_seenBy_46 rfl (fun h46 => ?_) (fun h46 => ?_)
      · refine z_inc4 hC dX3_seenBy_59 (by decide) ?_
        refine z_goto hC 5 dX3_seenBy_62 rfl ?_
        refine z_dr5 hC ?_
        rw [sbX_s, if_neg h37, if_neg h46] at ih
        exact ih
      · refine z_il3 hC dX3_seenBy_49 ?_
        refine z_iconst hC dX3_seenBy_50 zi_1 ?_
        refine z_il5 hC dX3_seenBy_51 ?_
        refine z_bipush hC dX3_seenBy_53 zb_8 ?_
        refine z_irem hC dX3_seenBy_55 (nI_ne0 (by decide) (by decide)) ?_
        refine z_ishl hC dX3_seenBy_56 ?_
        refine z_ior hC dX3_seenBy_57 ?_
        refine z_is3 hC dX3_seenBy_58 (by decide) ?_
        refine z_inc4 hC dX3_seenBy_59 (by decide) ?_
        refine z_goto hC 5 dX3_seenBy_62 rfl ?_
        refine z_dr5 hC ?_
        rw [sbX_s, if_neg h37, if_pos h46] at ih
        exact ih

set_option maxHeartbeats 2000000 in
theorem c_X3_used (l : Launch) (X : zX) (G : zG) {i : Nat} {r0 : Nat} (hr0 : r0 = za G 10 i)  (hi : i < 6) {f : Int32} {n : Nat} (hsz : zg G 10 i 6 = nI n) (h12 : n ≤ 12) : zC l yX3_used cX3_used 4 (some FieldType.int) 2 0 X [.ref r0, .int f] G (zPi (fun r G2 => r = xUsed G i f ∧ G = G2)) := by
  subst hr0
  refine zC_of zpn_X3 (zcat rfl) (Nat.le_of_ble_eq_true rfl) ?_
  intro Z hC hE
  replace hC : zCtx l X cX3_used RX3 4 2 0 Z := hC
  change Z 0 G 0 [some (.ref (za G 10 i)), some (.int f), none, none] []
  refine z_iconst hC dX3_used_0 zi_0 ?_
  refine z_is2 hC dX3_used_1 (by decide) ?_
  refine z_iconst hC dX3_used_2 zi_0 ?_
  refine z_is3 hC dX3_used_3 (by decide) ?_
  refine z_loop (N := n) (fun k => Z 0 G 4 [some (.ref (za G 10 i)), some (.int f), some (.int (orF (fun s => xSees G i s f) k)), some (.int (nI k))] []) ?_ ?_ 0 (Nat.zero_le _)
  · change Z 0 G 4 [some (.ref (za G 10 i)), some (.int f), some (.int (orF (fun s => xSees G i s f) n)), some (.int (nI n))] []
    refine z_il3 hC dX3_used_4 ?_
    refine z_al0 hC dX3_used_5 ?_
    refine zgf_X3_30 hC hi dX3_used_6 ?_
    refine z_top hsz ?_
    refine z_icmp_ge hC 27 dX3_used_9 rfl (fun _ => ?_) (fun h => absurd (nI_le (Nat.le_refl _) (by omega)) h)
    refine z_il2 hC dX3_used_27 ?_
    exact z_reti hE (by omega) dX3_used_28 (⟨by simp only [xUsed, hsz, nI_clamp (show n < 2 ^ 31 by omega)], rfl⟩)
  · intro k hn ih
    change Z 0 G 4 [some (.ref (za G 10 i)), some (.int f), some (.int (orF (fun s => xSees G i s f) k)), some (.int (nI k))] []
    replace ih : Z 0 G 4 [some (.ref (za G 10 i)), some (.int f), some (.int (orF (fun s => xSees G i s f) (k + 1))), some (.int (nI (k + 1)))] [] := ih
    refine z_il3 hC dX3_used_4 ?_
    refine z_al0 hC dX3_used_5 ?_
    refine zgf_X3_30 hC hi dX3_used_6 ?_
    refine z_top hsz ?_
    refine z_icmp_ge hC 27 dX3_used_9 rfl (fun h => absurd h (nI_ge hn (by omega))) (fun _ => ?_)
    refine z_il2 hC dX3_used_12 ?_
    refine z_al0 hC dX3_used_13 ?_
    refine z_il3 hC dX3_used_14 ?_
    refine z_il1 hC dX3_used_15 ?_
    refine z_cVi2 hC (c_X3_seenBy l X _ (by rfl) hi (by omega)) zm_X3_seenBy zi_X3_seenBy (zo_10 hi) zk_X3_42 (by omega) (by decide) (by omega) (Nat.le_of_ble_eq_true rfl) dX3_used_16 ?_
    rintro _ _ ⟨rfl, rfl⟩
    refine z_ior hC dX3_used_19 ?_
    refine z_is2 hC dX3_used_20 (by decide) ?_
    refine z_inc3 hC dX3_used_21 (by decide) ?_
    refine z_goto hC 4 dX3_used_24 rfl ?_
    exact ih

set_option maxHeartbeats 2000000 in
theorem c_X3_someSeesOnly (l : Launch) (X : zX) (G : zG) {i : Nat} {r0 : Nat} (hr0 : r0 = za G 10 i)  (hi : i < 6) {f al : Int32} {n : Nat} (hsz : zg G 10 i 6 = nI n) (h12 : n ≤ 12) : zC l yX3_someSeesOnly cX3_someSeesOnly 5 (some FieldType.boolean) 2 0 X [.ref r0, .int f, .int al] G (zPi (fun r G2 => (xOnly G i f al = true ∧ r = nI 1 ∧ G = G2) ∨ (xOnly G i f al = false ∧ r = nI 0 ∧ G = G2))) := by
  subst hr0
  refine zC_of zpn_X3 (zcat rfl) (Nat.le_of_ble_eq_true rfl) ?_
  intro Z hC hE
  replace hC : zCtx l X cX3_someSeesOnly RX3 5 2 0 Z := hC
  change Z 0 G 0 [some (.ref (za G 10 i)), some (.int f), some (.int al), none, none] []
  refine z_iconst hC dX3_someSeesOnly_0 zi_0 ?_
  refine z_is3 hC dX3_someSeesOnly_1 (by decide) ?_
  refine z_loop (N := n) (fun k => (∀ j, j < k → (fun s => decide (¬ xSees G i s f = 0 ∧ xSees G i s f &&& (al ^^^ (-1)) = 0)) j = false) → Z 0 G 2 [some (.ref (za G 10 i)), some (.int f), some (.int al), some (.int (nI k)), none] []) ?_ ?_ 0 (Nat.zero_le _) lt_0
  · intro hv
    change Z 0 G 2 [some (.ref (za G 10 i)), some (.int f), some (.int al), some (.int (nI n)), none] []
    refine z_il3 hC dX3_someSeesOnly_2 ?_
    refine z_al0 hC dX3_someSeesOnly_3 ?_
    refine zgf_X3_30 hC hi dX3_someSeesOnly_4 ?_
    refine z_top hsz ?_
    refine z_icmp_ge hC 40 dX3_someSeesOnly_7 rfl (fun _ => ?_) (fun h => absurd (nI_le (Nat.le_refl _) (by omega)) h)
    refine z_iconst hC dX3_someSeesOnly_40 zi_0 ?_
    exact z_retz0 hE (by omega) dX3_someSeesOnly_41 (Or.inr ⟨by simp only [xOnly, hsz, nI_clamp (show n < 2 ^ 31 by omega)]; exact anF_f hv, rfl, rfl⟩)
  · intro k hn ih hv
    change Z 0 G 2 [some (.ref (za G 10 i)), some (.int f), some (.int al), some (.int (nI k)), none] []
    replace ih : (∀ j, j < (k + 1) → (fun s => decide (¬ xSees G i s f = 0 ∧ xSees G i s f &&& (al ^^^ (-1)) = 0)) j = false) → Z 0 G 2 [some (.ref (za G 10 i)), some (.int f), some (.int al), some (.int (nI (k + 1))), none] [] := ih
    refine z_il3 hC dX3_someSeesOnly_2 ?_
    refine z_al0 hC dX3_someSeesOnly_3 ?_
    refine zgf_X3_30 hC hi dX3_someSeesOnly_4 ?_
    refine z_top hsz ?_
    refine z_icmp_ge hC 40 dX3_someSeesOnly_7 rfl (fun h => absurd h (nI_ge hn (by omega))) (fun _ => ?_)
    refine z_al0 hC dX3_someSeesOnly_10 ?_
    refine z_il3 hC dX3_someSeesOnly_11 ?_
    refine z_il1 hC dX3_someSeesOnly_12 ?_
    refine z_cVi2 hC (c_X3_seenBy l X _ (by rfl) hi (by omega)) zm_X3_seenBy zi_X3_seenBy (zo_10 hi) zk_X3_42 (by omega) (by decide) (by omega) (Nat.le_of_ble_eq_true rfl) dX3_someSeesOnly_13 ?_
    rintro _ _ ⟨rfl, rfl⟩
    refine z_is4 hC dX3_someSeesOnly_16 (by decide) ?_
    refine z_il4 hC dX3_someSeesOnly_18 ?_
    refine z_if_eq hC 34 dX3_someSeesOnly_20 rfl (fun h20 => ?_) (fun h20 => ?_)
    · refine z_inc3 hC dX3_someSeesOnly_34 (by decide) ?_
      refine z_goto hC 2 dX3_someSeesOnly_37 rfl ?_
      refine z_dr4 hC ?_
      exact ih (lt_s hv (decide_eq_false (fun h => h.1 h20)))
    · refine z_il4 hC dX3_someSeesOnly_23 ?_
      refine z_il2 hC dX3_someSeesOnly_25 ?_
      refine z_iconst hC dX3_someSeesOnly_26 zi_m1 ?_
      refine z_ixor hC dX3_someSeesOnly_27 ?_
      refine z_iand hC dX3_someSeesOnly_28 ?_
      refine z_if_ne hC 34 dX3_someSeesOnly_29 rfl (fun h29 => ?_) (fun h29 => ?_)
      · refine z_inc3 hC dX3_someSeesOnly_34 (by decide) ?_
        refine z_goto hC 2 dX3_someSeesOnly_37 rfl ?_
        refine z_dr4 hC ?_
        exact ih (lt_s hv (decide_eq_false (fun h => h29 h.2)))
      · refine z_iconst hC dX3_someSeesOnly_32 zi_1 ?_
        exact z_retz1 hE (by omega) dX3_someSeesOnly_33 (Or.inl ⟨by simp only [xOnly, hsz, nI_clamp (show n < 2 ^ 31 by omega)]; exact anF_t (k := k) (decide_eq_true ⟨h20, h29⟩) hn, rfl, rfl⟩)

set_option maxHeartbeats 2000000 in
theorem c_X3_turned (l : Launch) (X : zX) (G : zG) {x d : Int32} : zC l yX3_turned cX3_turned 2 (some FieldType.int) 1 0 X [.int x, .int d] G (zPi (fun r G2 => r = xTurn x d ∧ G = G2)) := by
  refine zC_of zpn_X3 (zcat rfl) (Nat.le_of_ble_eq_true rfl) ?_
  intro Z hC hE
  replace hC : zCtx l X cX3_turned RX3 2 1 0 Z := hC
  change Z 0 G 0 [some (.int x), some (.int d)] []
  refine z_il0 hC dX3_turned_0 ?_
  refine z_il1 hC dX3_turned_1 ?_
  refine z_ishl hC dX3_turned_2 ?_
  refine z_il0 hC dX3_turned_3 ?_
  refine z_bipush hC dX3_turned_4 zb_8 ?_
  refine z_il1 hC dX3_turned_6 ?_
  refine z_isub hC dX3_turned_7 ?_
  refine z_ishr hC dX3_turned_8 ?_
  refine z_ior hC dX3_turned_9 ?_
  refine z_sipush hC dX3_turned_10 zs_255 ?_
  refine z_iand hC dX3_turned_13 ?_
  exact z_reti hE (by omega) dX3_turned_14 (⟨rfl, rfl⟩)

set_option maxHeartbeats 2000000 in
theorem c_X1_addCount (l : Launch) (X : zX) (G : zG) {i f d mk : Nat} {r0 : Nat} (hr0 : r0 = za G 7 i)  (hi : i < 6) (hf : f < 8) (hd : d < 40) (hmk : mk < 100) {x : Int32} : zC l yX1_addCount cX1_addCount 5 none 1 0 X [.ref r0, .int (nI f), .int (nI d), .int x, .int (nI mk)] G (zPv (fun G2 => G2 = zu (zu (zu G 9 i mk (nI 1)) 7 i 3 (nI 1)) 8 i (f * 40 + d) (zg G 8 i (f * 40 + d) + x))) := by
  subst hr0
  refine zC_of zpn_X1 (zcat rfl) (Nat.le_of_ble_eq_true rfl) ?_
  intro Z hC hE
  replace hC : zCtx l X cX1_addCount RX1 5 1 0 Z := hC
  change Z 0 G 0 [some (.ref (za G 7 i)), some (.int (nI f)), some (.int (nI d)), some (.int x), some (.int (nI mk))] []
  refine z_al0 hC dX1_addCount_0 ?_
  refine zgf_X1_22 hC hi dX1_addCount_1 ?_
  refine z_il4 hC dX1_addCount_4 ?_
  refine z_iconst hC dX1_addCount_6 zi_1 ?_
  refine zas_9 hC hi (by omega) dX1_addCount_7 ?_
  refine z_al0 hC dX1_addCount_8 ?_
  refine z_iconst hC dX1_addCount_9 zi_1 ?_
  refine zpf_X1_26 hC hi dX1_addCount_10 ?_
  refine z_al0 hC dX1_addCount_13 ?_
  refine zgf_X1_18 hC hi dX1_addCount_14 ?_
  refine z_il1 hC dX1_addCount_17 ?_
  refine z_bipush hC dX1_addCount_18 zb_40 ?_
  refine z_imulN hC dX1_addCount_20 ?_
  refine z_il2 hC dX1_addCount_21 ?_
  refine z_iaddN hC dX1_addCount_22 ?_
  refine z_dup2 hC dX1_addCount_23 rfl rfl ?_
  refine zal_8 hC hi (by omega) dX1_addCount_24 ?_
  refine z_top ((by simp [zg_zu]) : _ = zg G 8 i (f * 40 + d)) ?_
  refine z_il3 hC dX1_addCount_25 ?_
  refine z_iadd hC dX1_addCount_26 ?_
  refine zas_8 hC hi (by omega) dX1_addCount_27 ?_
  exact z_retv hE (by omega) dX1_addCount_28 (rfl)

set_option maxHeartbeats 2000000 in
theorem c_X1_counted (l : Launch) (X : zX) (G : zG) {i f a b : Nat} {r0 : Nat} (hr0 : r0 = za G 7 i)  (hi : i < 6) (hf : f < 8) (hab : a ≤ b + 1) (hb : b < 40) : zC l yX1_counted cX1_counted 6 (some FieldType.int) 1 0 X [.ref r0, .int (nI f), .int (nI a), .int (nI b)] G (zPi (fun r G2 => r = xSum G i f a (b + 1) ∧ G = G2)) := by
  subst hr0
  refine zC_of zpn_X1 (zcat rfl) (Nat.le_of_ble_eq_true rfl) ?_
  intro Z hC hE
  replace hC : zCtx l X cX1_counted RX1 6 1 0 Z := hC
  change Z 0 G 0 [some (.ref (za G 7 i)), some (.int (nI f)), some (.int (nI a)), some (.int (nI b)), none, none] []
  refine z_iconst hC dX1_counted_0 zi_0 ?_
  refine z_is4 hC dX1_counted_1 (by decide) ?_
  refine z_il2 hC dX1_counted_3 ?_
  refine z_is5 hC dX1_counted_4 (by decide) ?_
  rw [← smT_0 (fun d => zg G 8 i (f * 40 + d)) a]
  refine z_loop (N := (b + 1)) (fun n => a ≤ n → Z 0 G 6 [some (.ref (za G 7 i)), some (.int (nI f)), some (.int (nI a)), some (.int (nI b)), some (.int (smT (fun d => zg G 8 i (f * 40 + d)) a n)), some (.int (nI n))] []) ?_ ?_ a (hab) (Nat.le_refl _)
  · intro hv
    change Z 0 G 6 [some (.ref (za G 7 i)), some (.int (nI f)), some (.int (nI a)), some (.int (nI b)), some (.int (smT (fun d => zg G 8 i (f * 40 + d)) a (b + 1))), some (.int (nI (b + 1)))] []
    refine z_il5 hC dX1_counted_6 ?_
    refine z_il3 hC dX1_counted_8 ?_
    refine z_icmp_gt hC 35 dX1_counted_9 rfl (fun _ => ?_) (fun h => absurd (nI_lt (Nat.lt_succ_self _) (by omega)) h)
    refine z_il4 hC dX1_counted_35 ?_
    exact z_reti hE (by omega) dX1_counted_37 (⟨rfl, rfl⟩)
  · intro n hn ih hv
    change Z 0 G 6 [some (.ref (za G 7 i)), some (.int (nI f)), some (.int (nI a)), some (.int (nI b)), some (.int (smT (fun d => zg G 8 i (f * 40 + d)) a n)), some (.int (nI n))] []
    replace ih : a ≤ (n + 1) → Z 0 G 6 [some (.ref (za G 7 i)), some (.int (nI f)), some (.int (nI a)), some (.int (nI b)), some (.int (smT (fun d => zg G 8 i (f * 40 + d)) a (n + 1))), some (.int (nI (n + 1)))] [] := ih
    refine z_il5 hC dX1_counted_6 ?_
    refine z_il3 hC dX1_counted_8 ?_
    refine z_icmp_gt hC 35 dX1_counted_9 rfl (fun h => absurd h (Int32.not_lt.mpr (nI_le (Nat.le_of_lt_succ hn) (by omega)))) (fun _ => ?_)
    refine z_il4 hC dX1_counted_12 ?_
    refine z_al0 hC dX1_counted_14 ?_
    refine zgf_X1_18 hC hi dX1_counted_15 ?_
    refine z_il1 hC dX1_counted_18 ?_
    refine z_bipush hC dX1_counted_19 zb_40 ?_
    refine z_imulN hC dX1_counted_21 ?_
    refine z_il5 hC dX1_counted_22 ?_
    refine z_iaddN hC dX1_counted_24 ?_
    refine zal_8 hC hi (by omega) dX1_counted_25 ?_
    refine z_iadd hC dX1_counted_26 ?_
    refine z_is4 hC dX1_counted_27 (by decide) ?_
    refine z_inc5 hC dX1_counted_29 (by decide) ?_
    refine z_goto hC 6 dX1_counted_32 rfl ?_
    have ih2 := ih (by omega)
    rw [smT_s _ hv] at ih2
    exact ih2

set_option maxHeartbeats 2000000 in
theorem c_X1_calledAround (l : Launch) (X : zX) (G : zG) {i f d : Nat} {r0 : Nat} (hr0 : r0 = za G 7 i)  (hi : i < 6) (hf : f < 8) (hd : d ≤ 40) : zC l yX1_calledAround cX1_calledAround 3 (some FieldType.boolean) 2 0 X [.ref r0, .int (nI f), .int (nI d)] G (zPi (fun r G2 => (0 < xSum G i f (d - 7) (min d 39 + 1) ∧ r = nI 1 ∧ G = G2) ∨ (¬ 0 < xSum G i f (d - 7) (min d 39 + 1) ∧ r = nI 0 ∧ G = G2))) := by
  subst hr0
  refine zC_of zpn_X1 (zcat rfl) (Nat.le_of_ble_eq_true rfl) ?_
  intro Z hC hE
  replace hC : zCtx l X cX1_calledAround RX1 3 2 0 Z := hC
  change Z 0 G 0 [some (.ref (za G 7 i)), some (.int (nI f)), some (.int (nI d))] []
  refine z_al0 hC dX1_calledAround_0 ?_
  refine z_il1 hC dX1_calledAround_1 ?_
  refine z_il2 hC dX1_calledAround_2 ?_
  refine z_bipush hC dX1_calledAround_3 zb_7 ?_
  refine z_isub hC dX1_calledAround_5 ?_
  refine z_iconst hC dX1_calledAround_6 zi_0 ?_
  refine z_mmax hC zk_X1_37 (by omega) (Nat.le_of_ble_eq_true rfl) (by omega) dX1_calledAround_7 ?_
  refine z_top (zmax7 (by omega)) ?_
  refine z_il2 hC dX1_calledAround_10 ?_
  refine z_bipush hC dX1_calledAround_11 zb_39 ?_
  refine z_mmin hC zk_X1_43 (by omega) (Nat.le_of_ble_eq_true rfl) (by omega) dX1_calledAround_13 ?_
  refine z_top (zmin39 (by omega)) ?_
  refine z_cVi3 hC (c_X1_counted l X _ (by rfl) hi (by omega) (by omega) (by omega)) zm_X1_counted zi_X1_counted (zo_7 hi) zk_X1_46 (by omega) (by decide) (by omega) (Nat.le_of_ble_eq_true rfl) dX1_calledAround_16 ?_
  rintro _ _ ⟨rfl, rfl⟩
  refine z_if_le hC 26 dX1_calledAround_19 rfl (fun h19 => ?_) (fun h19 => ?_)
  · refine z_iconst hC dX1_calledAround_26 zi_0 ?_
    exact z_retz0 hE (by omega) dX1_calledAround_27 (Or.inr ⟨Int32.not_lt.mpr h19, rfl, rfl⟩)
  · refine z_iconst hC dX1_calledAround_22 zi_1 ?_
    refine z_goto hC 27 dX1_calledAround_23 rfl ?_
    exact z_retz1 hE (by omega) dX1_calledAround_27 (Or.inl ⟨Int32.not_le.mp h19, rfl, rfl⟩)

set_option maxHeartbeats 2000000 in
theorem c_X1_isSilent (l : Launch) (X : zX) (G : zG) {i : Nat} {r0 : Nat} (hr0 : r0 = za G 7 i)  (hi : i < 6) : zC l yX1_isSilent cX1_isSilent 1 (some FieldType.boolean) 1 0 X [.ref r0] G (zPi (fun r G2 => (xSilent G i = true ∧ r = nI 1 ∧ G = G2) ∨ (xSilent G i = false ∧ r = nI 0 ∧ G = G2))) := by
  subst hr0
  refine zC_of zpn_X1 (zcat rfl) (Nat.le_of_ble_eq_true rfl) ?_
  intro Z hC hE
  replace hC : zCtx l X cX1_isSilent RX1 1 1 0 Z := hC
  change Z 0 G 0 [some (.ref (za G 7 i))] []
  refine z_al0 hC dX1_isSilent_0 ?_
  refine zgf_X1_12 hC hi dX1_isSilent_1 ?_
  refine zgf_X1_50 hC hi dX1_isSilent_4 ?_
  refine z_if_ne hC 21 dX1_isSilent_7 rfl (fun h7 => ?_) (fun h7 => ?_)
  · refine z_iconst hC dX1_isSilent_21 zi_0 ?_
    exact z_retz0 hE (by omega) dX1_isSilent_22 (Or.inr ⟨by simp [xSilent, h7], rfl, rfl⟩)
  · refine z_al0 hC dX1_isSilent_10 ?_
    refine zgf_X1_26 hC hi dX1_isSilent_11 ?_
    refine z_if_ne hC 21 dX1_isSilent_14 rfl (fun h14 => ?_) (fun h14 => ?_)
    · refine z_iconst hC dX1_isSilent_21 zi_0 ?_
      exact z_retz0 hE (by omega) dX1_isSilent_22 (Or.inr ⟨by simp [xSilent, h14], rfl, rfl⟩)
    · refine z_iconst hC dX1_isSilent_17 zi_1 ?_
      refine z_goto hC 22 dX1_isSilent_18 rfl ?_
      exact z_retz1 hE (by omega) dX1_isSilent_22 (Or.inl ⟨by simp [xSilent, h7, h14], rfl, rfl⟩)
end
section
/-! pure words for the class's inner methods -/
def zTx (G : zG) (h sz : Nat) : Prop := ∀ s, s < sz → (zg G 11 h s = nI 0) ∨ (zg G 11 h s = nI 1 ∧ ∃ f, f < s ∧ zg G 12 h s = nI f) ∨ (zg G 11 h s = nI 2 ∧ ∃ f g, f < s ∧ g < s ∧ zg G 12 h s = nI f ∧ zg G 13 h s = nI g)
theorem z01 : ¬ (nI 1 : Int32) = 0 := by decide +kernel
theorem z02 : ¬ (nI 2 : Int32) = 0 := by decide +kernel
theorem z12 : ¬ (nI 2 : Int32) = nI 1 := by decide +kernel
theorem xSteps_a0 (G : zG) (h n s : Nat) {a : Int32} (ha : a = 0) : xSteps G h (n + 1) s a = nI 0 := if_pos ha
theorem xSteps_k0 {G : zG} {h n s : Nat} {a : Int32} (ha : ¬ a = 0) (hk : zg G 11 h s = nI 0) : xSteps G h (n + 1) s a = nI 1 := by
  unfold xSteps
  rw [if_neg ha, if_pos (by rw [hk]; rfl)]
theorem xSteps_k1 {G : zG} {h n s f : Nat} {a : Int32} (ha : ¬ a = 0) (hk : zg G 11 h s = nI 1) (ef : zg G 12 h s = nI f) (hf : f < 2 ^ 31) : xSteps G h (n + 1) s a = nI 10 + xSteps G h n f (xTurn a (zg G 14 h s)) := by
  show (if a = 0 then nI 0 else if zg G 11 h s = 0 then nI 1 else if zg G 11 h s = nI 1 then nI 10 + xSteps G h n (zg G 12 h s).toNatClampNeg (xTurn a (zg G 14 h s)) else _) = _
  rw [if_neg ha, if_neg (by rw [hk]; exact z01), if_pos hk, ef, nI_clamp hf]
theorem xSteps_k2 {G : zG} {h n s f g : Nat} {a : Int32} (ha : ¬ a = 0) (hk : zg G 11 h s = nI 2) (ef : zg G 12 h s = nI f) (hf : f < 2 ^ 31) (eg : zg G 13 h s = nI g) (hg : g < 2 ^ 31) : xSteps G h (n + 1) s a = (nI 100 + xSteps G h n f (a &&& ((nI 1 <<< (zg G 14 h s &&& 31)) - nI 1))) + xSteps G h n g (a &&& (((nI 1 <<< (zg G 14 h s &&& 31)) - nI 1) ^^^ (-1))) := by
  show (if a = 0 then nI 0 else if zg G 11 h s = 0 then nI 1 else if zg G 11 h s = nI 1 then _ else (nI 100 + xSteps G h n (zg G 12 h s).toNatClampNeg _) + xSteps G h n (zg G 13 h s).toNatClampNeg _) = _
  rw [if_neg ha, if_neg (by rw [hk]; exact z02), if_neg (by rw [hk]; exact z12), ef, nI_clamp hf, eg, nI_clamp hg]
/-- a rule holds from v to u -/
def xHeld (G : zG) (f : Nat) (set : Int32) (t d v u : Nat) : Bool := alF (fun a => decide ((set >>> (nI a &&& 31)) &&& nI 1 = 0 ∨ zg G 5 f (v * 8 + a) = zg G 5 t (u * 8 + (a + d) % 8))) 8
def xHrs (G : zG) (f : Int32) : Nat → Int32
  | 0 => nI 0
  | n + 1 => if xUsed G n f = 0 then xHrs G f n else xHrs G f n + zg G 7 n 5
theorem xHrs_t {G : zG} {f : Int32} {n : Nat} (h : xUsed G n f = 0) : xHrs G f (n + 1) = xHrs G f n := if_pos h
theorem xHrs_f {G : zG} {f : Int32} {n : Nat} (h : ¬ xUsed G n f = 0) : xHrs G f (n + 1) = xHrs G f n + zg G 7 n 5 := if_neg h
def xKept (G : zG) (i : Nat) (loss : Int32) : Bool := decide (zg G 0 0 5 + nI 1 ≤ xLat G i ∨ zg G 4 i 4 < loss)
/-- switches over small numbers -/
theorem zsw3 (x : Int32) : x = nI 0 ∨ x = nI 1 ∨ x = nI 2 ∨ (x.toInt < 0 ∨ 2 < x.toInt) := by
  by_cases h : x.toInt < 0 ∨ 2 < x.toInt
  · exact Or.inr (Or.inr (Or.inr h))
  · obtain ⟨j, hj, rfl⟩ := nI_of (x := x) (fun q => h (Or.inl (by have := Int32.lt_iff_toInt_lt.mp q; rw [z0_toInt] at this; exact this)))
    rw [nI_toInt hj] at h
    have h3 : j = 0 ∨ j = 1 ∨ j = 2 := by omega
    rcases h3 with rfl | rfl | rfl
    · exact Or.inl rfl
    · exact Or.inr (Or.inl rfl)
    · exact Or.inr (Or.inr (Or.inl rfl))
theorem zsw4 (x : Int32) : x = nI 0 ∨ x = nI 1 ∨ x = nI 2 ∨ x = nI 3 ∨ (x.toInt < 0 ∨ 3 < x.toInt) := by
  by_cases h : x.toInt < 0 ∨ 3 < x.toInt
  · exact Or.inr (Or.inr (Or.inr (Or.inr h)))
  · obtain ⟨j, hj, rfl⟩ := nI_of (x := x) (fun q => h (Or.inl (by have := Int32.lt_iff_toInt_lt.mp q; rw [z0_toInt] at this; exact this)))
    rw [nI_toInt hj] at h
    have h3 : j = 0 ∨ j = 1 ∨ j = 2 ∨ j = 3 := by omega
    rcases h3 with rfl | rfl | rfl | rfl
    · exact Or.inl rfl
    · exact Or.inr (Or.inl rfl)
    · exact Or.inr (Or.inr (Or.inl rfl))
    · exact Or.inr (Or.inr (Or.inr (Or.inl rfl)))
theorem zsw5 (x : Int32) : x = nI 0 ∨ x = nI 1 ∨ x = nI 2 ∨ x = nI 3 ∨ x = nI 4 ∨ (x.toInt < 0 ∨ 4 < x.toInt) := by
  by_cases h : x.toInt < 0 ∨ 4 < x.toInt
  · exact Or.inr (Or.inr (Or.inr (Or.inr (Or.inr h))))
  · obtain ⟨j, hj, rfl⟩ := nI_of (x := x) (fun q => h (Or.inl (by have := Int32.lt_iff_toInt_lt.mp q; rw [z0_toInt] at this; exact this)))
    rw [nI_toInt hj] at h
    have h3 : j = 0 ∨ j = 1 ∨ j = 2 ∨ j = 3 ∨ j = 4 := by omega
    rcases h3 with rfl | rfl | rfl | rfl | rfl
    · exact Or.inl rfl
    · exact Or.inr (Or.inl rfl)
    · exact Or.inr (Or.inr (Or.inl rfl))
    · exact Or.inr (Or.inr (Or.inr (Or.inl rfl)))
    · exact Or.inr (Or.inr (Or.inr (Or.inr (Or.inl rfl))))
/-- the count of ones, as the library counts -/
def xBc (x : Int32) : Int32 :=
  let a := x - ((x.toUInt32 >>> ((nI 1).toUInt32 &&& Int32.toUInt32 31)).toInt32 &&& (1431655765 : Int32))
  let b := (a &&& (858993459 : Int32)) + ((a.toUInt32 >>> ((nI 2).toUInt32 &&& Int32.toUInt32 31)).toInt32 &&& (858993459 : Int32))
  let c := (b + (b.toUInt32 >>> ((nI 4).toUInt32 &&& Int32.toUInt32 31)).toInt32) &&& (252645135 : Int32)
  let d := c + (c.toUInt32 >>> ((nI 8).toUInt32 &&& Int32.toUInt32 31)).toInt32
  let e := d + (d.toUInt32 >>> ((nI 16).toUInt32 &&& Int32.toUInt32 31)).toInt32
  e &&& nI 63
theorem zb_16 : (Int8.ofInt 16).toInt32 = nI 16 := by decide +kernel
theorem zb_63 : (Int8.ofInt 63).toInt32 = nI 63 := by decide +kernel
theorem zb_11 : (Int8.ofInt 11).toInt32 = nI 11 := by decide +kernel
theorem zpn_J6 : plainName RJ6 = true := by decide +kernel
theorem zpn_J7 : plainName RJ7 = true := by decide +kernel
end
section
set_option maxHeartbeats 2000000 in
theorem c_X4_isWithinT (l : Launch) (X : zX) (G : zG) {a m : Nat} (h0 : a ≤ m) (hm : m < 2 ^ 31) : zC l yX4_isWithin cX4_isWithin 2 (some FieldType.boolean) 1 0 X [.int (nI a), .int (nI m)] G (zPi (fun r G2 => r = nI 1 ∧ G = G2)) := by
  refine zC_of zpn_X4 (zcat rfl) (Nat.le_of_ble_eq_true rfl) ?_
  intro Z hC hE
  replace hC : zCtx l X cX4_isWithin RX4 2 1 0 Z := hC
  change Z 0 G 0 [some (.int (nI a)), some (.int (nI m))] []
  refine z_il0 hC dX4_isWithin_0 ?_
  refine z_if_lt hC 13 dX4_isWithin_1 rfl (fun h => absurd h (nI_pos (by omega))) (fun _ => ?_)
  refine z_il0 hC dX4_isWithin_4 ?_
  refine z_il1 hC dX4_isWithin_5 ?_
  refine z_icmp_gt hC 13 dX4_isWithin_6 rfl (fun h => absurd h (nI_nlt h0 (by omega))) (fun _ => ?_)
  refine z_iconst hC dX4_isWithin_9 zi_1 ?_
  refine z_goto hC 14 dX4_isWithin_10 rfl ?_
  exact z_retz1 hE (by omega) dX4_isWithin_14 (⟨rfl, rfl⟩)

set_option maxHeartbeats 2000000 in
theorem c_X4_isWithinST (l : Launch) (X : zX) (G : zG) {a n : Nat} (h0 : a < n) (hm : n < 2 ^ 30) : zC l yX4_isWithin cX4_isWithin 2 (some FieldType.boolean) 1 0 X [.int (nI a), .int (nI n - nI 1)] G (zPi (fun r G2 => r = nI 1 ∧ G = G2)) := by
  refine zC_of zpn_X4 (zcat rfl) (Nat.le_of_ble_eq_true rfl) ?_
  intro Z hC hE
  replace hC : zCtx l X cX4_isWithin RX4 2 1 0 Z := hC
  change Z 0 G 0 [some (.int (nI a)), some (.int (nI n - nI 1))] []
  refine z_il0 hC dX4_isWithin_0 ?_
  refine z_if_lt hC 13 dX4_isWithin_1 rfl (fun h => absurd h (nI_pos (by omega))) (fun _ => ?_)
  refine z_il0 hC dX4_isWithin_4 ?_
  refine z_il1 hC dX4_isWithin_5 ?_
  refine z_icmp_gt hC 13 dX4_isWithin_6 rfl (fun h => absurd h (by rw [pk_sub (by omega)]; exact nI_nlt (by omega) (by omega))) (fun _ => ?_)
  refine z_iconst hC dX4_isWithin_9 zi_1 ?_
  refine z_goto hC 14 dX4_isWithin_10 rfl ?_
  exact z_retz1 hE (by omega) dX4_isWithin_14 (⟨rfl, rfl⟩)

set_option maxHeartbeats 2000000 in
theorem c_X4_isFaceT (l : Launch) (X : zX) (G : zG) {a : Nat} (h0 : a < 8) : zC l yX4_isFace cX4_isFace 1 (some FieldType.boolean) 2 0 X [.int (nI a)] G (zPi (fun r G2 => r = nI 1 ∧ G = G2)) := by
  refine zC_of zpn_X4 (zcat rfl) (Nat.le_of_ble_eq_true rfl) ?_
  intro Z hC hE
  replace hC : zCtx l X cX4_isFace RX4 1 2 0 Z := hC
  change Z 0 G 0 [some (.int (nI a))] []
  refine z_il0 hC dX4_isFace_0 ?_
  refine z_bipush hC dX4_isFace_1 zb_7 ?_
  refine z_cSi2 hC (c_X4_isWithinT l X _ (by omega) (by omega)) zm_X4_isWithin zi_X4_isWithin zk_X4_58 (by omega) (by decide) (by omega) (Nat.le_of_ble_eq_true rfl) dX4_isFace_3 ?_
  rintro _ _ ⟨rfl, rfl⟩
  exact z_retz1 hE (by omega) dX4_isFace_6 (⟨rfl, rfl⟩)

set_option maxHeartbeats 2000000 in
theorem c_X4_doorAtT (l : Launch) (X : zX) (G : zG) {r0 : Nat} (hr0 : r0 = za G 0 0) {a : Nat} (h0 : a < 8) : zC l yX4_doorAt cX4_doorAt 2 (some (FieldType.object "WhoCalls$Door")) 3 0 X [.ref r0, .int (nI a)] G (zPa (fun r G2 => r = .ref (za G 4 a) ∧ G = G2)) := by
  subst hr0
  refine zC_of zpn_X4 (zcat rfl) (Nat.le_of_ble_eq_true rfl) ?_
  intro Z hC hE
  replace hC : zCtx l X cX4_doorAt RX4 2 3 0 Z := hC
  change Z 0 G 0 [some (.ref (za G 0 0)), some (.int (nI a))] []
  refine z_il1 hC dX4_doorAt_0 ?_
  refine z_cSi1 hC (c_X4_isFaceT l X _ (by omega)) zm_X4_isFace zi_X4_isFace zk_X4_80 (by omega) (by decide) (by omega) (Nat.le_of_ble_eq_true rfl) dX4_doorAt_1 ?_
  rintro _ _ ⟨rfl, rfl⟩
  refine z_if_eq hC 16 dX4_doorAt_4 rfl (fun h => absurd h (by decide)) (fun _ => ?_)
  refine z_al0 hC dX4_doorAt_7 ?_
  refine zgf_X4_11 hC dX4_doorAt_8 ?_
  refine z_il1 hC dX4_doorAt_11 ?_
  refine zal_1 hC (h0) dX4_doorAt_12 ?_
  refine z_goto hC 17 dX4_doorAt_13 rfl ?_
  exact z_retaR hE (by omega) dX4_doorAt_17 (⟨rfl, rfl⟩)

set_option maxHeartbeats 2000000 in
theorem c_X4_houseAtT (l : Launch) (X : zX) (G : zG) {r0 : Nat} (hr0 : r0 = za G 0 0) {a : Nat} (h0 : a < 6) : zC l yX4_houseAt cX4_houseAt 2 (some (FieldType.object "WhoCalls$House")) 2 0 X [.ref r0, .int (nI a)] G (zPa (fun r G2 => r = .ref (za G 7 a) ∧ G = G2)) := by
  subst hr0
  refine zC_of zpn_X4 (zcat rfl) (Nat.le_of_ble_eq_true rfl) ?_
  intro Z hC hE
  replace hC : zCtx l X cX4_houseAt RX4 2 2 0 Z := hC
  change Z 0 G 0 [some (.ref (za G 0 0)), some (.int (nI a))] []
  refine z_il1 hC dX4_houseAt_0 ?_
  refine z_iconst hC dX4_houseAt_1 zi_5 ?_
  refine z_cSi2 hC (c_X4_isWithinT l X _ (by omega) (by omega)) zm_X4_isWithin zi_X4_isWithin zk_X4_58 (by omega) (by decide) (by omega) (Nat.le_of_ble_eq_true rfl) dX4_houseAt_2 ?_
  rintro _ _ ⟨rfl, rfl⟩
  refine z_if_eq hC 17 dX4_houseAt_5 rfl (fun h => absurd h (by decide)) (fun _ => ?_)
  refine z_al0 hC dX4_houseAt_8 ?_
  refine zgf_X4_17 hC dX4_houseAt_9 ?_
  refine z_il1 hC dX4_houseAt_12 ?_
  refine zal_2 hC (h0) dX4_houseAt_13 ?_
  refine z_goto hC 18 dX4_houseAt_14 rfl ?_
  exact z_retaR hE (by omega) dX4_houseAt_18 (⟨rfl, rfl⟩)

set_option maxHeartbeats 2000000 in
theorem c_X4_ruleAtT (l : Launch) (X : zX) (G : zG) {r0 : Nat} (hr0 : r0 = za G 0 0) {a rc : Nat} (h0 : a < rc) (hrc : zg G 0 0 3 = nI rc) (hr12 : rc ≤ 12) (hn0 : zn G 0 = rc) (hn1 : zn G 1 = rc) : zC l yX4_ruleAt cX4_ruleAt 2 (some (FieldType.object "WhoCalls$Rule")) 2 0 X [.ref r0, .int (nI a)] G (zPa (fun r G2 => r = .ref (za G 17 a) ∧ G = G2)) := by
  subst hr0
  refine zC_of zpn_X4 (zcat rfl) (Nat.le_of_ble_eq_true rfl) ?_
  intro Z hC hE
  replace hC : zCtx l X cX4_ruleAt RX4 2 2 0 Z := hC
  change Z 0 G 0 [some (.ref (za G 0 0)), some (.int (nI a))] []
  refine z_il1 hC dX4_ruleAt_0 ?_
  refine z_al0 hC dX4_ruleAt_1 ?_
  refine zgf_X4_27 hC dX4_ruleAt_2 ?_
  refine z_top hrc ?_
  refine z_iconst hC dX4_ruleAt_5 zi_1 ?_
  refine z_isub hC dX4_ruleAt_6 ?_
  refine z_cSi2 hC (c_X4_isWithinST l X _ (by omega) (by omega)) zm_X4_isWithin zi_X4_isWithin zk_X4_58 (by omega) (by decide) (by omega) (Nat.le_of_ble_eq_true rfl) dX4_ruleAt_7 ?_
  rintro _ _ ⟨rfl, rfl⟩
  refine z_if_eq hC 22 dX4_ruleAt_10 rfl (fun h => absurd h (by decide)) (fun _ => ?_)
  refine z_al0 hC dX4_ruleAt_13 ?_
  refine zgf_X4_23 hC dX4_ruleAt_14 ?_
  refine z_il1 hC dX4_ruleAt_17 ?_
  refine zal_3 hC (by omega) (by omega) dX4_ruleAt_18 ?_
  refine z_goto hC 23 dX4_ruleAt_19 rfl ?_
  exact z_retaR hE (by omega) dX4_ruleAt_23 (⟨rfl, rfl⟩)

set_option maxHeartbeats 2000000 in
theorem c_X3_hasT (l : Launch) (X : zX) (G : zG) {i : Nat} {r0 : Nat} (hr0 : r0 = za G 10 i)  (hi : i < 6) {a n : Nat} (h0 : a < n) (hsz : zg G 10 i 6 = nI n) (h12 : n ≤ 12) : zC l yX3_has cX3_has 2 (some FieldType.boolean) 2 0 X [.ref r0, .int (nI a)] G (zPi (fun r G2 => r = nI 1 ∧ G = G2)) := by
  subst hr0
  refine zC_of zpn_X3 (zcat rfl) (Nat.le_of_ble_eq_true rfl) ?_
  intro Z hC hE
  replace hC : zCtx l X cX3_has RX3 2 2 0 Z := hC
  change Z 0 G 0 [some (.ref (za G 10 i)), some (.int (nI a))] []
  refine z_il1 hC dX3_has_0 ?_
  refine z_al0 hC dX3_has_1 ?_
  refine zgf_X3_30 hC hi dX3_has_2 ?_
  refine z_top hsz ?_
  refine z_iconst hC dX3_has_5 zi_1 ?_
  refine z_isub hC dX3_has_6 ?_
  refine z_cSNi2 hC (c_X4_isWithinST l X _ (by omega) (by omega)) zm_X4_isWithin zi_X4_isWithin zkn_X3_34 (by omega) (by decide) (by omega) (Nat.le_of_ble_eq_true rfl) dX3_has_7 ?_
  rintro _ _ ⟨rfl, rfl⟩
  exact z_retz1 hE (by omega) dX3_has_10 (⟨rfl, rfl⟩)

set_option maxHeartbeats 2000000 in
theorem c_X3_steps_aux (l : Launch) (X : zX) (G : zG) {i sz : Nat} (hi : i < 6) (hsz : zg G 10 i 6 = nI sz) (h12 : sz ≤ 12) (hT : zTx G i sz) : ∀ (n : Nat) {r0 : Nat} (_ : r0 = za G 10 i) {s k : Nat} {a : Int32} (_ : s < n) (_ : k + n ≤ 12) (_ : s < sz), zC l yX3_steps cX3_steps 6 (some FieldType.int) (n + 2) 0 X [.ref r0, .int (nI s), .int a, .int (nI k)] G (zPi (fun r G2 => r = xSteps G i n s a ∧ G = G2)) := by
  intro n
  induction n with
  | zero => intro r0 hr0 s k a h1 h2 h3; omega
  | succ n ih =>
    intro r0 hr0 s k a hsn hkn hs
    subst hr0
    refine zC_of zpn_X3 (zcat rfl) (Nat.le_of_ble_eq_true rfl) ?_
    intro Z hC hE
    replace hC : zCtx l X cX3_steps RX3 6 (n + 1 + 2) 0 Z := hC
    change Z 0 G 0 [some (.ref (za G 10 i)), some (.int (nI s)), some (.int a), some (.int (nI k)), none, none] []
    refine z_il2 hC dX3_steps_0 ?_
    refine z_if_eq hC 18 dX3_steps_1 rfl (fun h1 => ?_) (fun h1 => ?_)
    · refine z_iconst hC dX3_steps_18 zi_0 ?_
      exact z_reti hE (by omega) dX3_steps_19 (⟨(xSteps_a0 G i n s h1).symm, rfl⟩)
    · refine z_il3 hC dX3_steps_4 ?_
      refine z_bipush hC dX3_steps_5 zb_12 ?_
      refine z_icmp_ge hC 18 dX3_steps_7 rfl (fun h => absurd h (nI_ge (show k < 12 by omega) (by decide))) (fun _ => ?_)
      refine z_al0 hC dX3_steps_10 ?_
      refine z_il1 hC dX3_steps_11 ?_
      refine z_cVi1 hC (c_X3_hasT l X _ (by rfl) hi hs hsz h12) zm_X3_has zi_X3_has (zo_10 hi) zk_X3_50 (by omega) (by decide) (by omega) (Nat.le_of_ble_eq_true rfl) dX3_steps_12 ?_
      rintro _ _ ⟨rfl, rfl⟩
      refine z_if_ne hC 20 dX3_steps_15 rfl (fun _ => ?_) (fun h => absurd h (by decide))
      refine z_al0 hC dX3_steps_20 ?_
      refine zgf_X3_21 hC hi dX3_steps_21 ?_
      refine z_il1 hC dX3_steps_24 ?_
      refine zal_14 hC hi (by omega) dX3_steps_25 ?_
      refine z_is4 hC dX3_steps_26 (by decide) ?_
      refine z_al0 hC dX3_steps_28 ?_
      refine zgf_X3_9 hC hi dX3_steps_29 ?_
      refine z_il1 hC dX3_steps_32 ?_
      refine zal_11 hC hi (by omega) dX3_steps_33 ?_
      rcases hT s hs with h0 | ⟨hk, f, hf, ef⟩ | ⟨hk, f, g, hf, hg, ef, eg⟩
      · refine z_top h0 ?_
        refine z_look (off := 26) hC 60 dX3_steps_34 (by decide +kernel) (by decide +kernel) rfl ?_
        refine z_iconst hC dX3_steps_60 zi_1 ?_
        exact z_reti hE (by omega) dX3_steps_61 (⟨(xSteps_k0 h1 h0).symm, rfl⟩)
      · refine z_top hk ?_
        refine z_look (off := 28) hC 62 dX3_steps_34 (by decide +kernel) (by decide +kernel) rfl ?_
        refine z_bipush hC dX3_steps_62 zb_10 ?_
        refine z_al0 hC dX3_steps_64 ?_
        refine z_al0 hC dX3_steps_65 ?_
        refine zgf_X3_15 hC hi dX3_steps_66 ?_
        refine z_il1 hC dX3_steps_69 ?_
        refine zal_12 hC hi (by omega) dX3_steps_70 ?_
        refine z_top ef ?_
        refine z_il2 hC dX3_steps_71 ?_
        refine z_il4 hC dX3_steps_72 ?_
        refine z_cSi2 hC (c_X3_turned l X _) zm_X3_turned zi_X3_turned zk_X3_54 (by omega) (by decide) (by omega) (Nat.le_of_ble_eq_true rfl) dX3_steps_74 ?_
        rintro _ _ ⟨rfl, rfl⟩
        refine z_il3 hC dX3_steps_77 ?_
        refine z_iconst hC dX3_steps_78 zi_1 ?_
        refine z_iaddN hC dX3_steps_79 ?_
        refine z_cSi4 hC (ih (by rfl) (by omega) (by omega) (by omega)) zm_X3_steps zi_X3_steps zk_X3_46 (by omega) (by decide) (by omega) (Nat.le_of_ble_eq_true rfl) dX3_steps_80 ?_
        rintro _ _ ⟨rfl, rfl⟩
        refine z_iadd hC dX3_steps_83 ?_
        exact z_reti hE (by omega) dX3_steps_84 (⟨(xSteps_k1 h1 hk ef (by omega)).symm, rfl⟩)
      · refine z_top hk ?_
        refine z_look (off := 51) hC 85 dX3_steps_34 (by decide +kernel) (by decide +kernel) rfl ?_
        refine z_iconst hC dX3_steps_85 zi_1 ?_
        refine z_il4 hC dX3_steps_86 ?_
        refine z_ishl hC dX3_steps_88 ?_
        refine z_iconst hC dX3_steps_89 zi_1 ?_
        refine z_isub hC dX3_steps_90 ?_
        refine z_is5 hC dX3_steps_91 (by decide) ?_
        refine z_bipush hC dX3_steps_93 zb_100 ?_
        refine z_al0 hC dX3_steps_95 ?_
        refine z_al0 hC dX3_steps_96 ?_
        refine zgf_X3_15 hC hi dX3_steps_97 ?_
        refine z_il1 hC dX3_steps_100 ?_
        refine zal_12 hC hi (by omega) dX3_steps_101 ?_
        refine z_top ef ?_
        refine z_il2 hC dX3_steps_102 ?_
        refine z_il5 hC dX3_steps_103 ?_
        refine z_iand hC dX3_steps_105 ?_
        refine z_il3 hC dX3_steps_106 ?_
        refine z_iconst hC dX3_steps_107 zi_1 ?_
        refine z_iaddN hC dX3_steps_108 ?_
        refine z_cSi4 hC (ih (by rfl) (by omega) (by omega) (by omega)) zm_X3_steps zi_X3_steps zk_X3_46 (by omega) (by decide) (by omega) (Nat.le_of_ble_eq_true rfl) dX3_steps_109 ?_
        rintro _ _ ⟨rfl, rfl⟩
        refine z_iadd hC dX3_steps_112 ?_
        refine z_al0 hC dX3_steps_113 ?_
        refine z_al0 hC dX3_steps_114 ?_
        refine zgf_X3_18 hC hi dX3_steps_115 ?_
        refine z_il1 hC dX3_steps_118 ?_
        refine zal_13 hC hi (by omega) dX3_steps_119 ?_
        refine z_top eg ?_
        refine z_il2 hC dX3_steps_120 ?_
        refine z_il5 hC dX3_steps_121 ?_
        refine z_iconst hC dX3_steps_123 zi_m1 ?_
        refine z_ixor hC dX3_steps_124 ?_
        refine z_iand hC dX3_steps_125 ?_
        refine z_il3 hC dX3_steps_126 ?_
        refine z_iconst hC dX3_steps_127 zi_1 ?_
        refine z_iaddN hC dX3_steps_128 ?_
        refine z_cSi4 hC (ih (by rfl) (by omega) (by omega) (by omega)) zm_X3_steps zi_X3_steps zk_X3_46 (by omega) (by decide) (by omega) (Nat.le_of_ble_eq_true rfl) dX3_steps_129 ?_
        rintro _ _ ⟨rfl, rfl⟩
        refine z_iadd hC dX3_steps_132 ?_
        exact z_reti hE (by omega) dX3_steps_133 (⟨(xSteps_k2 h1 hk ef (by omega) eg (by omega)).symm, rfl⟩)

set_option maxHeartbeats 2000000 in
theorem c_X3_stepsOf (l : Launch) (X : zX) (G : zG) {i : Nat} {r0 : Nat} (hr0 : r0 = za G 10 i)  (hi : i < 6) {s sz : Nat} (hs : s < sz) (hsz : zg G 10 i 6 = nI sz) (h12 : sz ≤ 12) (hT : zTx G i sz) : zC l yX3_stepsOf cX3_stepsOf 2 (some FieldType.int) 15 0 X [.ref r0, .int (nI s)] G (zPi (fun r G2 => r = xSteps G i 12 s (zg G 15 i s) ∧ G = G2)) := by
  subst hr0
  refine zC_of zpn_X3 (zcat rfl) (Nat.le_of_ble_eq_true rfl) ?_
  intro Z hC hE
  replace hC : zCtx l X cX3_stepsOf RX3 2 15 0 Z := hC
  change Z 0 G 0 [some (.ref (za G 10 i)), some (.int (nI s))] []
  refine z_al0 hC dX3_stepsOf_0 ?_
  refine z_il1 hC dX3_stepsOf_1 ?_
  refine z_al0 hC dX3_stepsOf_2 ?_
  refine zgf_X3_24 hC hi dX3_stepsOf_3 ?_
  refine z_il1 hC dX3_stepsOf_6 ?_
  refine zal_15 hC hi (by omega) dX3_stepsOf_7 ?_
  refine z_iconst hC dX3_stepsOf_8 zi_0 ?_
  refine z_cSi4 hC (c_X3_steps_aux l X _ hi hsz h12 hT 12 (by rfl) (by omega) (by omega) (by omega)) zm_X3_steps zi_X3_steps zk_X3_46 (by omega) (by decide) (by omega) (Nat.le_of_ble_eq_true rfl) dX3_stepsOf_9 ?_
  rintro _ _ ⟨rfl, rfl⟩
  exact z_reti hE (by omega) dX3_stepsOf_12 (⟨rfl, rfl⟩)

set_option maxHeartbeats 2000000 in
theorem c_X4_isHeld (l : Launch) (X : zX) (G : zG) {r0 : Nat} (hr0 : r0 = za G 0 0) {q v u f t d : Nat} (hq : q < zn G 0) (hv5 : v < 5) (hu5 : u < 5) (hf8 : f < 8) (ht8 : t < 8) (hd8 : d < 8) (ef : zg G 17 q 0 = nI f) (et : zg G 17 q 2 = nI t) (ed : zg G 17 q 3 = nI d) : zC l yX4_isHeld cX4_isHeld 8 (some FieldType.boolean) 4 0 X [.ref r0, .ref (za G 17 q), .int (nI v), .int (nI u)] G (zPi (fun r G2 => (xHeld G f (zg G 17 q 1) t d v u = true ∧ r = nI 1 ∧ G = G2) ∨ (xHeld G f (zg G 17 q 1) t d v u = false ∧ r = nI 0 ∧ G = G2))) := by
  subst hr0
  refine zC_of zpn_X4 (zcat rfl) (Nat.le_of_ble_eq_true rfl) ?_
  intro Z hC hE
  replace hC : zCtx l X cX4_isHeld RX4 8 4 0 Z := hC
  change Z 0 G 0 [some (.ref (za G 0 0)), some (.ref (za G 17 q)), some (.int (nI v)), some (.int (nI u)), none, none, none, none] []
  refine z_al0 hC dX4_isHeld_0 ?_
  refine z_al1 hC dX4_isHeld_1 ?_
  refine zgf_X4_168 hC hq dX4_isHeld_2 ?_
  refine z_top ef ?_
  refine z_cVa1 hC (c_X4_doorAtT l X _ (by rfl) (by omega)) zm_X4_doorAt zi_X4_doorAt zo_0 zk_X4_50 (by omega) (by decide) (by omega) (Nat.le_of_ble_eq_true rfl) dX4_isHeld_5 ?_
  rintro _ _ ⟨rfl, rfl⟩
  refine z_as4 hC dX4_isHeld_8 (by decide) ?_
  refine z_al0 hC dX4_isHeld_10 ?_
  refine z_al1 hC dX4_isHeld_11 ?_
  refine zgf_X4_174 hC hq dX4_isHeld_12 ?_
  refine z_top et ?_
  refine z_cVa1 hC (c_X4_doorAtT l X _ (by rfl) (by omega)) zm_X4_doorAt zi_X4_doorAt zo_0 zk_X4_50 (by omega) (by decide) (by omega) (Nat.le_of_ble_eq_true rfl) dX4_isHeld_15 ?_
  rintro _ _ ⟨rfl, rfl⟩
  refine z_as5 hC dX4_isHeld_18 (by decide) ?_
  refine z_al4 hC dX4_isHeld_20 ?_
  refine z_ifnull hC dX4_isHeld_22 ?_
  refine z_al5 hC dX4_isHeld_25 ?_
  refine z_ifnonnull hC 32 dX4_isHeld_27 rfl ?_
  refine z_iconst hC dX4_isHeld_32 zi_0 ?_
  refine z_is6 hC dX4_isHeld_33 (by decide) ?_
  refine z_loop (N := 8) (fun n => (∀ j, j < n → (fun a => decide ((zg G 17 q 1 >>> (nI a &&& 31)) &&& nI 1 = 0 ∨ zg G 5 f (v * 8 + a) = zg G 5 t (u * 8 + (a + d) % 8))) j = true) → Z 0 G 35 [some (.ref (za G 0 0)), some (.ref (za G 17 q)), some (.int (nI v)), some (.int (nI u)), some (.ref (za G 4 f)), some (.ref (za G 4 t)), some (.int (nI n)), none] []) ?_ ?_ 0 (Nat.zero_le _) lt_0
  · intro hv
    change Z 0 G 35 [some (.ref (za G 0 0)), some (.ref (za G 17 q)), some (.int (nI v)), some (.int (nI u)), some (.ref (za G 4 f)), some (.ref (za G 4 t)), some (.int (nI 8)), none] []
    refine z_il6 hC dX4_isHeld_35 ?_
    refine z_bipush hC dX4_isHeld_37 zb_8 ?_
    refine z_icmp_ge hC 101 dX4_isHeld_39 rfl (fun _ => ?_) (fun h => absurd (nI_le (Nat.le_refl _) (by omega)) h)
    refine z_iconst hC dX4_isHeld_101 zi_1 ?_
    exact z_retz1 hE (by omega) dX4_isHeld_102 (Or.inl ⟨alF_t hv, rfl, rfl⟩)
  · intro n hn ih hv
    change Z 0 G 35 [some (.ref (za G 0 0)), some (.ref (za G 17 q)), some (.int (nI v)), some (.int (nI u)), some (.ref (za G 4 f)), some (.ref (za G 4 t)), some (.int (nI n)), none] []
    replace ih : (∀ j, j < (n + 1) → (fun a => decide ((zg G 17 q 1 >>> (nI a &&& 31)) &&& nI 1 = 0 ∨ zg G 5 f (v * 8 + a) = zg G 5 t (u * 8 + (a + d) % 8))) j = true) → Z 0 G 35 [some (.ref (za G 0 0)), some (.ref (za G 17 q)), some (.int (nI v)), some (.int (nI u)), some (.ref (za G 4 f)), some (.ref (za G 4 t)), some (.int (nI (n + 1))), none] [] := ih
    refine z_il6 hC dX4_isHeld_35 ?_
    refine z_bipush hC dX4_isHeld_37 zb_8 ?_
    refine z_icmp_ge hC 101 dX4_isHeld_39 rfl (fun h => absurd h (nI_ge hn (by omega))) (fun _ => ?_)
    refine z_al1 hC dX4_isHeld_42 ?_
    refine zgf_X4_171 hC hq dX4_isHeld_43 ?_
    refine z_il6 hC dX4_isHeld_46 ?_
    refine z_ishr hC dX4_isHeld_48 ?_
    refine z_iconst hC dX4_isHeld_49 zi_1 ?_
    refine z_iand hC dX4_isHeld_50 ?_
    refine z_if_eq hC 58 dX4_isHeld_51 rfl (fun h51 => ?_) (fun h51 => ?_)
    · refine z_iconst hC dX4_isHeld_58 zi_0 ?_
      refine z_is7 hC dX4_isHeld_59 (by decide) ?_
      refine z_il7 hC dX4_isHeld_61 ?_
      refine z_if_eq hC 95 dX4_isHeld_63 rfl (fun _ => ?_) (fun h => absurd h (by decide))
      refine z_inc6 hC dX4_isHeld_95 (by decide) ?_
      refine z_goto hC 35 dX4_isHeld_98 rfl ?_
      refine z_dr7 hC ?_
      exact ih (lt_s hv (decide_eq_true (Or.inl h51)))
    · refine z_iconst hC dX4_isHeld_54 zi_1 ?_
      refine z_goto hC 59 dX4_isHeld_55 rfl ?_
      refine z_is7 hC dX4_isHeld_59 (by decide) ?_
      refine z_il7 hC dX4_isHeld_61 ?_
      refine z_if_eq hC 95 dX4_isHeld_63 rfl (fun h => absurd h (by decide)) (fun _ => ?_)
      refine z_al4 hC dX4_isHeld_66 ?_
      refine z_il2 hC dX4_isHeld_68 ?_
      refine z_il6 hC dX4_isHeld_69 ?_
      refine z_cVNi2 hC (c_X0_answerTo l X _ (by rfl) hf8 (by omega) (by omega)) zm_X0_answerTo zi_X0_answerTo (zo_4 hf8) zkn_X4_62 (by omega) (by decide) (by omega) (Nat.le_of_ble_eq_true rfl) dX4_isHeld_71 ?_
      rintro _ _ ⟨rfl, rfl⟩
      refine z_al5 hC dX4_isHeld_74 ?_
      refine z_il3 hC dX4_isHeld_76 ?_
      refine z_il6 hC dX4_isHeld_77 ?_
      refine z_al1 hC dX4_isHeld_79 ?_
      refine zgf_X4_177 hC hq dX4_isHeld_80 ?_
      refine z_top ed ?_
      refine z_iaddN hC dX4_isHeld_83 ?_
      refine z_bipush hC dX4_isHeld_84 zb_8 ?_
      refine z_iremN hC dX4_isHeld_86 (by omega) (by omega) (by omega) ?_
      refine z_cVNi2 hC (c_X0_answerTo l X _ (by rfl) ht8 (by omega) (by omega)) zm_X0_answerTo zi_X0_answerTo (zo_4 ht8) zkn_X4_62 (by omega) (by decide) (by omega) (Nat.le_of_ble_eq_true rfl) dX4_isHeld_87 ?_
      rintro _ _ ⟨rfl, rfl⟩
      refine z_icmp_eq hC 95 dX4_isHeld_90 rfl (fun h90 => ?_) (fun h90 => ?_)
      · refine z_inc6 hC dX4_isHeld_95 (by decide) ?_
        refine z_goto hC 35 dX4_isHeld_98 rfl ?_
        refine z_dr7 hC ?_
        exact ih (lt_s hv (decide_eq_true (Or.inr h90)))
      · refine z_iconst hC dX4_isHeld_93 zi_0 ?_
        exact z_retz0 hE (by omega) dX4_isHeld_94 (Or.inr ⟨alF_f (k := n) (decide_eq_false (fun h => h.elim h51 h90)) hn, rfl, rfl⟩)

set_option maxHeartbeats 2000000 in
theorem c_X4_silentHouses (l : Launch) (X : zX) (G : zG) {r0 : Nat} (hr0 : r0 = za G 0 0)  : zC l yX4_silentHouses cX4_silentHouses 6 (some FieldType.int) 2 0 X [.ref r0] G (zPi (fun r G2 => r = nI (ctF (fun h => xSilent G h) 6) ∧ G = G2)) := by
  subst hr0
  refine zC_of zpn_X4 (zcat rfl) (Nat.le_of_ble_eq_true rfl) ?_
  intro Z hC hE
  replace hC : zCtx l X cX4_silentHouses RX4 6 2 0 Z := hC
  change Z 0 G 0 [some (.ref (za G 0 0)), none, none, none, none, none] []
  refine z_iconst hC dX4_silentHouses_0 zi_0 ?_
  refine z_is1 hC dX4_silentHouses_1 (by decide) ?_
  refine z_al0 hC dX4_silentHouses_2 ?_
  refine zgf_X4_17 hC dX4_silentHouses_3 ?_
  refine z_as2 hC dX4_silentHouses_6 (by decide) ?_
  refine z_al2 hC dX4_silentHouses_7 ?_
  refine zlen_2 hC dX4_silentHouses_8 ?_
  refine z_is3 hC dX4_silentHouses_9 (by decide) ?_
  refine z_iconst hC dX4_silentHouses_10 zi_0 ?_
  refine z_is4 hC dX4_silentHouses_11 (by decide) ?_
  refine z_loop (N := 6) (fun n => Z 0 G 13 [some (.ref (za G 0 0)), some (.int (nI (ctF (fun h => xSilent G h) n))), some (.ref (za G 2 0)), some (.int (nI 6)), some (.int (nI n)), none] []) ?_ ?_ 0 (Nat.zero_le _)
  · change Z 0 G 13 [some (.ref (za G 0 0)), some (.int (nI (ctF (fun h => xSilent G h) 6))), some (.ref (za G 2 0)), some (.int (nI 6)), some (.int (nI 6)), none] []
    refine z_il4 hC dX4_silentHouses_13 ?_
    refine z_il3 hC dX4_silentHouses_15 ?_
    refine z_icmp_ge hC 42 dX4_silentHouses_16 rfl (fun _ => ?_) (fun h => absurd (nI_le (Nat.le_refl _) (by omega)) h)
    refine z_il1 hC dX4_silentHouses_42 ?_
    exact z_reti hE (by omega) dX4_silentHouses_43 (⟨rfl, rfl⟩)
  · intro n hn ih
    change Z 0 G 13 [some (.ref (za G 0 0)), some (.int (nI (ctF (fun h => xSilent G h) n))), some (.ref (za G 2 0)), some (.int (nI 6)), some (.int (nI n)), none] []
    replace ih : Z 0 G 13 [some (.ref (za G 0 0)), some (.int (nI (ctF (fun h => xSilent G h) (n + 1)))), some (.ref (za G 2 0)), some (.int (nI 6)), some (.int (nI (n + 1))), none] [] := ih
    refine z_il4 hC dX4_silentHouses_13 ?_
    refine z_il3 hC dX4_silentHouses_15 ?_
    refine z_icmp_ge hC 42 dX4_silentHouses_16 rfl (fun h => absurd h (nI_ge hn (by omega))) (fun _ => ?_)
    refine z_al2 hC dX4_silentHouses_19 ?_
    refine z_il4 hC dX4_silentHouses_20 ?_
    refine zal_2 hC (hn) dX4_silentHouses_22 ?_
    refine z_as5 hC dX4_silentHouses_23 (by decide) ?_
    refine z_al5 hC dX4_silentHouses_25 ?_
    refine z_cVNi0 hC (c_X1_isSilent l X _ (by rfl) hn) zm_X1_isSilent zi_X1_isSilent (zo_7 hn) zkn_X4_147 (by omega) (by decide) (by omega) (Nat.le_of_ble_eq_true rfl) dX4_silentHouses_27 ?_
    rintro _ _ (⟨hsi, rfl, rfl⟩ | ⟨hsi, rfl, rfl⟩)
    · refine z_if_eq hC 36 dX4_silentHouses_30 rfl (fun h => absurd h (by decide)) (fun _ => ?_)
      refine z_inc1 hC dX4_silentHouses_33 (by decide) ?_
      refine z_inc4 hC dX4_silentHouses_36 (by decide) ?_
      refine z_goto hC 13 dX4_silentHouses_39 rfl ?_
      refine z_dr5 hC ?_
      rw [ctF_t hsi] at ih
      exact ih
    · refine z_if_eq hC 36 dX4_silentHouses_30 rfl (fun _ => ?_) (fun h => absurd h (by decide))
      refine z_inc4 hC dX4_silentHouses_36 (by decide) ?_
      refine z_goto hC 13 dX4_silentHouses_39 rfl ?_
      refine z_dr5 hC ?_
      rw [ctF_f hsi] at ih
      exact ih

set_option maxHeartbeats 2000000 in
theorem c_X4_shutDoors (l : Launch) (X : zX) (G : zG) {r0 : Nat} (hr0 : r0 = za G 0 0)  : zC l yX4_shutDoors cX4_shutDoors 6 (some FieldType.int) 2 0 X [.ref r0] G (zPi (fun r G2 => r = nI (ctF (fun h => xShut G h (zg G 0 0 5)) 8) ∧ G = G2)) := by
  subst hr0
  refine zC_of zpn_X4 (zcat rfl) (Nat.le_of_ble_eq_true rfl) ?_
  intro Z hC hE
  replace hC : zCtx l X cX4_shutDoors RX4 6 2 0 Z := hC
  change Z 0 G 0 [some (.ref (za G 0 0)), none, none, none, none, none] []
  refine z_iconst hC dX4_shutDoors_0 zi_0 ?_
  refine z_is1 hC dX4_shutDoors_1 (by decide) ?_
  refine z_al0 hC dX4_shutDoors_2 ?_
  refine zgf_X4_11 hC dX4_shutDoors_3 ?_
  refine z_as2 hC dX4_shutDoors_6 (by decide) ?_
  refine z_al2 hC dX4_shutDoors_7 ?_
  refine zlen_1 hC dX4_shutDoors_8 ?_
  refine z_is3 hC dX4_shutDoors_9 (by decide) ?_
  refine z_iconst hC dX4_shutDoors_10 zi_0 ?_
  refine z_is4 hC dX4_shutDoors_11 (by decide) ?_
  refine z_loop (N := 8) (fun n => Z 0 G 13 [some (.ref (za G 0 0)), some (.int (nI (ctF (fun h => xShut G h (zg G 0 0 5)) n))), some (.ref (za G 1 0)), some (.int (nI 8)), some (.int (nI n)), none] []) ?_ ?_ 0 (Nat.zero_le _)
  · change Z 0 G 13 [some (.ref (za G 0 0)), some (.int (nI (ctF (fun h => xShut G h (zg G 0 0 5)) 8))), some (.ref (za G 1 0)), some (.int (nI 8)), some (.int (nI 8)), none] []
    refine z_il4 hC dX4_shutDoors_13 ?_
    refine z_il3 hC dX4_shutDoors_15 ?_
    refine z_icmp_ge hC 46 dX4_shutDoors_16 rfl (fun _ => ?_) (fun h => absurd (nI_le (Nat.le_refl _) (by omega)) h)
    refine z_il1 hC dX4_shutDoors_46 ?_
    exact z_reti hE (by omega) dX4_shutDoors_47 (⟨rfl, rfl⟩)
  · intro n hn ih
    change Z 0 G 13 [some (.ref (za G 0 0)), some (.int (nI (ctF (fun h => xShut G h (zg G 0 0 5)) n))), some (.ref (za G 1 0)), some (.int (nI 8)), some (.int (nI n)), none] []
    replace ih : Z 0 G 13 [some (.ref (za G 0 0)), some (.int (nI (ctF (fun h => xShut G h (zg G 0 0 5)) (n + 1)))), some (.ref (za G 1 0)), some (.int (nI 8)), some (.int (nI (n + 1))), none] [] := ih
    refine z_il4 hC dX4_shutDoors_13 ?_
    refine z_il3 hC dX4_shutDoors_15 ?_
    refine z_icmp_ge hC 46 dX4_shutDoors_16 rfl (fun h => absurd h (nI_ge hn (by omega))) (fun _ => ?_)
    refine z_al2 hC dX4_shutDoors_19 ?_
    refine z_il4 hC dX4_shutDoors_20 ?_
    refine zal_1 hC (hn) dX4_shutDoors_22 ?_
    refine z_as5 hC dX4_shutDoors_23 (by decide) ?_
    refine z_al5 hC dX4_shutDoors_25 ?_
    refine z_al0 hC dX4_shutDoors_27 ?_
    refine zgf_X4_34 hC dX4_shutDoors_28 ?_
    refine z_cVNi1 hC (c_X0_isShutOn l X _ (by rfl) hn) zm_X0_isShutOn zi_X0_isShutOn (zo_4 hn) zkn_X4_132 (by omega) (by decide) (by omega) (Nat.le_of_ble_eq_true rfl) dX4_shutDoors_31 ?_
    rintro _ _ (⟨hsh, rfl, rfl⟩ | ⟨hsh, rfl, rfl⟩)
    · refine z_if_eq hC 40 dX4_shutDoors_34 rfl (fun h => absurd h (by decide)) (fun _ => ?_)
      refine z_inc1 hC dX4_shutDoors_37 (by decide) ?_
      refine z_inc4 hC dX4_shutDoors_40 (by decide) ?_
      refine z_goto hC 13 dX4_shutDoors_43 rfl ?_
      refine z_dr5 hC ?_
      rw [ctF_t hsh] at ih
      exact ih
    · refine z_if_eq hC 40 dX4_shutDoors_34 rfl (fun _ => ?_) (fun h => absurd h (by decide))
      refine z_inc4 hC dX4_shutDoors_40 (by decide) ?_
      refine z_goto hC 13 dX4_shutDoors_43 rfl ?_
      refine z_dr5 hC ?_
      rw [ctF_f hsh] at ih
      exact ih

set_option maxHeartbeats 2000000 in
theorem c_X4_becomeCost (l : Launch) (X : zX) (G : zG) {i : Nat} (hi : i < 8) {x : Int32} : zC l yX4_becomeCost cX4_becomeCost 3 (some FieldType.int) 1 0 X [.ref (za G 4 i), .int x] G (zPi (fun r G2 => r = zg G 4 i 4 ∧ G2 = zu G 4 i 4 x)) := by
  refine zC_of zpn_X4 (zcat rfl) (Nat.le_of_ble_eq_true rfl) ?_
  intro Z hC hE
  replace hC : zCtx l X cX4_becomeCost RX4 3 1 0 Z := hC
  change Z 0 G 0 [some (.ref (za G 4 i)), some (.int x), none] []
  refine z_al0 hC dX4_becomeCost_0 ?_
  refine z_ifnonnull hC 6 dX4_becomeCost_1 rfl ?_
  refine z_al0 hC dX4_becomeCost_6 ?_
  refine zgf_X4_210 hC hi dX4_becomeCost_7 ?_
  refine z_is2 hC dX4_becomeCost_10 (by decide) ?_
  refine z_al0 hC dX4_becomeCost_11 ?_
  refine z_il1 hC dX4_becomeCost_12 ?_
  refine zpf_X4_210 hC hi dX4_becomeCost_13 ?_
  refine z_il2 hC dX4_becomeCost_16 ?_
  exact z_reti hE (by omega) dX4_becomeCost_17 (⟨rfl, rfl⟩)

set_option maxHeartbeats 2000000 in
theorem c_X4_becomeCostN (l : Launch) (X : zX) (G : zG) {x : Int32} : zC l yX4_becomeCost cX4_becomeCost 3 (some FieldType.int) 1 0 X [.null, .int x] G (zPi (fun r G2 => r = -1 ∧ G2 = G)) := by
  refine zC_of zpn_X4 (zcat rfl) (Nat.le_of_ble_eq_true rfl) ?_
  intro Z hC hE
  replace hC : zCtx l X cX4_becomeCost RX4 3 1 0 Z := hC
  change Z 0 G 0 [some (.null), some (.int x), none] []
  refine z_nl0 hC dX4_becomeCost_0 ?_
  refine z_ifnonnullN hC dX4_becomeCost_1 ?_
  refine z_iconst hC dX4_becomeCost_4 zi_m1 ?_
  exact z_reti hE (by omega) dX4_becomeCost_5 (⟨rfl, rfl⟩)

set_option maxHeartbeats 2000000 in
theorem c_X4_becomeHours (l : Launch) (X : zX) (G : zG) {i : Nat} (hi : i < 6) {x : Int32} : zC l yX4_becomeHours cX4_becomeHours 3 (some FieldType.int) 1 0 X [.ref (za G 7 i), .int x] G (zPi (fun r G2 => r = zg G 7 i 5 ∧ G2 = zu G 7 i 5 x)) := by
  refine zC_of zpn_X4 (zcat rfl) (Nat.le_of_ble_eq_true rfl) ?_
  intro Z hC hE
  replace hC : zCtx l X cX4_becomeHours RX4 3 1 0 Z := hC
  change Z 0 G 0 [some (.ref (za G 7 i)), some (.int x), none] []
  refine z_al0 hC dX4_becomeHours_0 ?_
  refine z_ifnonnull hC 6 dX4_becomeHours_1 rfl ?_
  refine z_al0 hC dX4_becomeHours_6 ?_
  refine zgf_X4_216 hC hi dX4_becomeHours_7 ?_
  refine z_is2 hC dX4_becomeHours_10 (by decide) ?_
  refine z_al0 hC dX4_becomeHours_11 ?_
  refine z_il1 hC dX4_becomeHours_12 ?_
  refine zpf_X4_216 hC hi dX4_becomeHours_13 ?_
  refine z_il2 hC dX4_becomeHours_16 ?_
  exact z_reti hE (by omega) dX4_becomeHours_17 (⟨rfl, rfl⟩)

set_option maxHeartbeats 2000000 in
theorem c_X4_becomeHoursN (l : Launch) (X : zX) (G : zG) {x : Int32} : zC l yX4_becomeHours cX4_becomeHours 3 (some FieldType.int) 1 0 X [.null, .int x] G (zPi (fun r G2 => r = -1 ∧ G2 = G)) := by
  refine zC_of zpn_X4 (zcat rfl) (Nat.le_of_ble_eq_true rfl) ?_
  intro Z hC hE
  replace hC : zCtx l X cX4_becomeHours RX4 3 1 0 Z := hC
  change Z 0 G 0 [some (.null), some (.int x), none] []
  refine z_nl0 hC dX4_becomeHours_0 ?_
  refine z_ifnonnullN hC dX4_becomeHours_1 ?_
  refine z_iconst hC dX4_becomeHours_4 zi_m1 ?_
  exact z_reti hE (by omega) dX4_becomeHours_5 (⟨rfl, rfl⟩)

set_option maxHeartbeats 2000000 in
theorem c_X4_hoursWithout (l : Launch) (X : zX) (G : zG) {r0 : Nat} (hr0 : r0 = za G 0 0) {f : Int32} (hall : ∀ h, h < 6 → ∃ n, n ≤ 12 ∧ zg G 10 h 6 = nI n) : zC l yX4_hoursWithout cX4_hoursWithout 7 (some FieldType.int) 3 0 X [.ref r0, .int f] G (zPi (fun r G2 => r = xHrs G f 6 ∧ G = G2)) := by
  subst hr0
  refine zC_of zpn_X4 (zcat rfl) (Nat.le_of_ble_eq_true rfl) ?_
  intro Z hC hE
  replace hC : zCtx l X cX4_hoursWithout RX4 7 3 0 Z := hC
  change Z 0 G 0 [some (.ref (za G 0 0)), some (.int f), none, none, none, none, none] []
  refine z_iconst hC dX4_hoursWithout_0 zi_0 ?_
  refine z_is2 hC dX4_hoursWithout_1 (by decide) ?_
  refine z_al0 hC dX4_hoursWithout_2 ?_
  refine zgf_X4_17 hC dX4_hoursWithout_3 ?_
  refine z_as3 hC dX4_hoursWithout_6 (by decide) ?_
  refine z_al3 hC dX4_hoursWithout_7 ?_
  refine zlen_2 hC dX4_hoursWithout_8 ?_
  refine z_is4 hC dX4_hoursWithout_9 (by decide) ?_
  refine z_iconst hC dX4_hoursWithout_11 zi_0 ?_
  refine z_is5 hC dX4_hoursWithout_12 (by decide) ?_
  refine z_loop (N := 6) (fun n => Z 0 G 14 [some (.ref (za G 0 0)), some (.int f), some (.int (xHrs G f n)), some (.ref (za G 2 0)), some (.int (nI 6)), some (.int (nI n)), none] []) ?_ ?_ 0 (Nat.zero_le _)
  · change Z 0 G 14 [some (.ref (za G 0 0)), some (.int f), some (.int (xHrs G f 6)), some (.ref (za G 2 0)), some (.int (nI 6)), some (.int (nI 6)), none] []
    refine z_il5 hC dX4_hoursWithout_14 ?_
    refine z_il4 hC dX4_hoursWithout_16 ?_
    refine z_icmp_ge hC 53 dX4_hoursWithout_18 rfl (fun _ => ?_) (fun h => absurd (nI_le (Nat.le_refl _) (by omega)) h)
    refine z_il2 hC dX4_hoursWithout_53 ?_
    exact z_reti hE (by omega) dX4_hoursWithout_54 (⟨rfl, rfl⟩)
  · intro n hn ih
    change Z 0 G 14 [some (.ref (za G 0 0)), some (.int f), some (.int (xHrs G f n)), some (.ref (za G 2 0)), some (.int (nI 6)), some (.int (nI n)), none] []
    replace ih : Z 0 G 14 [some (.ref (za G 0 0)), some (.int f), some (.int (xHrs G f (n + 1))), some (.ref (za G 2 0)), some (.int (nI 6)), some (.int (nI (n + 1))), none] [] := ih
    refine z_il5 hC dX4_hoursWithout_14 ?_
    refine z_il4 hC dX4_hoursWithout_16 ?_
    refine z_icmp_ge hC 53 dX4_hoursWithout_18 rfl (fun h => absurd h (nI_ge hn (by omega))) (fun _ => ?_)
    obtain ⟨sz, h12, hsz⟩ := hall n hn
    refine z_al3 hC dX4_hoursWithout_21 ?_
    refine z_il5 hC dX4_hoursWithout_22 ?_
    refine zal_2 hC (hn) dX4_hoursWithout_24 ?_
    refine z_as6 hC dX4_hoursWithout_25 (by decide) ?_
    refine z_al6 hC dX4_hoursWithout_27 ?_
    refine zgf_X4_83 hC hn dX4_hoursWithout_29 ?_
    refine z_il1 hC dX4_hoursWithout_32 ?_
    refine z_cVNi1 hC (c_X3_used l X _ (by rfl) hn (by assumption) (by assumption)) zm_X3_used zi_X3_used (zo_10 hn) zkn_X4_113 (by omega) (by decide) (by omega) (Nat.le_of_ble_eq_true rfl) dX4_hoursWithout_33 ?_
    rintro _ _ ⟨rfl, rfl⟩
    refine z_if_eq hC 47 dX4_hoursWithout_36 rfl (fun h36 => ?_) (fun h36 => ?_)
    · refine z_inc5 hC dX4_hoursWithout_47 (by decide) ?_
      refine z_goto hC 14 dX4_hoursWithout_50 rfl ?_
      refine z_dr6 hC ?_
      rw [xHrs_t h36] at ih
      exact ih
    · refine z_il2 hC dX4_hoursWithout_39 ?_
      refine z_al6 hC dX4_hoursWithout_40 ?_
      refine zgf_X4_216 hC hn dX4_hoursWithout_42 ?_
      refine z_iadd hC dX4_hoursWithout_45 ?_
      refine z_is2 hC dX4_hoursWithout_46 (by decide) ?_
      refine z_inc5 hC dX4_hoursWithout_47 (by decide) ?_
      refine z_goto hC 14 dX4_hoursWithout_50 rfl ?_
      refine z_dr6 hC ?_
      rw [xHrs_f h36] at ih
      exact ih

set_option maxHeartbeats 2000000 in
theorem c_X4_isKept (l : Launch) (X : zX) (G : zG) {r0 : Nat} (hr0 : r0 = za G 0 0) {i : Nat} (hi : i < 8) {x : Int32} : zC l yX4_isKept cX4_isKept 3 (some FieldType.boolean) 4 0 X [.ref r0, .ref (za G 4 i), .int x] G (zPi (fun r G2 => (xKept G i x = true ∧ r = nI 1 ∧ G = G2) ∨ (xKept G i x = false ∧ r = nI 0 ∧ G = G2))) := by
  subst hr0
  refine zC_of zpn_X4 (zcat rfl) (Nat.le_of_ble_eq_true rfl) ?_
  intro Z hC hE
  replace hC : zCtx l X cX4_isKept RX4 3 4 0 Z := hC
  change Z 0 G 0 [some (.ref (za G 0 0)), some (.ref (za G 4 i)), some (.int x)] []
  refine z_al1 hC dX4_isKept_0 ?_
  refine z_al0 hC dX4_isKept_1 ?_
  refine zgf_X4_34 hC dX4_isKept_2 ?_
  refine z_iconst hC dX4_isKept_5 zi_1 ?_
  refine z_iadd hC dX4_isKept_6 ?_
  refine z_cVNi1 hC (c_X0_isPromised l X _ (by rfl) hi) zm_X0_isPromised zi_X0_isPromised (zo_4 hi) zkn_X4_183 (by omega) (by decide) (by omega) (Nat.le_of_ble_eq_true rfl) dX4_isKept_7 ?_
  rintro _ _ (⟨hpr, rfl, rfl⟩ | ⟨hpr, rfl, rfl⟩)
  · refine z_if_ne hC 21 dX4_isKept_10 rfl (fun _ => ?_) (fun h => absurd h (by decide))
    refine z_iconst hC dX4_isKept_21 zi_1 ?_
    refine z_goto hC 26 dX4_isKept_22 rfl ?_
    exact z_retz1 hE (by omega) dX4_isKept_26 (Or.inl ⟨decide_eq_true (Or.inl hpr), rfl, rfl⟩)
  · refine z_if_ne hC 21 dX4_isKept_10 rfl (fun h => absurd h (by decide)) (fun _ => ?_)
    refine z_al1 hC dX4_isKept_13 ?_
    refine zgf_X4_210 hC hi dX4_isKept_14 ?_
    refine z_il2 hC dX4_isKept_17 ?_
    refine z_icmp_ge hC 25 dX4_isKept_18 rfl (fun h18 => ?_) (fun h18 => ?_)
    · refine z_iconst hC dX4_isKept_25 zi_0 ?_
      exact z_retz0 hE (by omega) dX4_isKept_26 (Or.inr ⟨decide_eq_false (fun h => h.elim (fun q => absurd q (Int32.not_le.mpr hpr)) (fun q => absurd q (Int32.not_lt.mpr h18))), rfl, rfl⟩)
    · refine z_iconst hC dX4_isKept_21 zi_1 ?_
      refine z_goto hC 26 dX4_isKept_22 rfl ?_
      exact z_retz1 hE (by omega) dX4_isKept_26 (Or.inl ⟨decide_eq_true (Or.inr (Int32.not_le.mp h18)), rfl, rfl⟩)

set_option maxHeartbeats 2000000 in
theorem c_J6_bitCount_0f7a4 (l : Launch) (X : zX) (G : zG) {x : Int32} : zC l yJ6_bitCount_0f7a4 cJ6_bitCount_0f7a4 1 (some FieldType.int) 1 0 X [.int x] G (zPi (fun r G2 => r = xBc x ∧ G = G2)) := by
  refine zC_of zpn_J6 (zcat rfl) (Nat.le_of_ble_eq_true rfl) ?_
  intro Z hC hE
  replace hC : zCtx l X cJ6_bitCount_0f7a4 RJ6 1 1 0 Z := hC
  change Z 0 G 0 [some (.int x)] []
  refine z_il0 hC dJ6_bitCount_0f7a4_0 ?_
  refine z_il0 hC dJ6_bitCount_0f7a4_1 ?_
  refine z_iconst hC dJ6_bitCount_0f7a4_2 zi_1 ?_
  refine z_iushr hC dJ6_bitCount_0f7a4_3 rfl ?_
  refine z_ldcw hC zcn_J6_265 dJ6_bitCount_0f7a4_4 ?_
  refine z_iand hC dJ6_bitCount_0f7a4_7 ?_
  refine z_isub hC dJ6_bitCount_0f7a4_8 ?_
  refine z_is0 hC dJ6_bitCount_0f7a4_9 (by decide) ?_
  refine z_il0 hC dJ6_bitCount_0f7a4_10 ?_
  refine z_ldcw hC zcn_J6_266 dJ6_bitCount_0f7a4_11 ?_
  refine z_iand hC dJ6_bitCount_0f7a4_14 ?_
  refine z_il0 hC dJ6_bitCount_0f7a4_15 ?_
  refine z_iconst hC dJ6_bitCount_0f7a4_16 zi_2 ?_
  refine z_iushr hC dJ6_bitCount_0f7a4_17 rfl ?_
  refine z_ldcw hC zcn_J6_266 dJ6_bitCount_0f7a4_18 ?_
  refine z_iand hC dJ6_bitCount_0f7a4_21 ?_
  refine z_iadd hC dJ6_bitCount_0f7a4_22 ?_
  refine z_is0 hC dJ6_bitCount_0f7a4_23 (by decide) ?_
  refine z_il0 hC dJ6_bitCount_0f7a4_24 ?_
  refine z_il0 hC dJ6_bitCount_0f7a4_25 ?_
  refine z_iconst hC dJ6_bitCount_0f7a4_26 zi_4 ?_
  refine z_iushr hC dJ6_bitCount_0f7a4_27 rfl ?_
  refine z_iadd hC dJ6_bitCount_0f7a4_28 ?_
  refine z_ldcw hC zcn_J6_267 dJ6_bitCount_0f7a4_29 ?_
  refine z_iand hC dJ6_bitCount_0f7a4_32 ?_
  refine z_is0 hC dJ6_bitCount_0f7a4_33 (by decide) ?_
  refine z_il0 hC dJ6_bitCount_0f7a4_34 ?_
  refine z_il0 hC dJ6_bitCount_0f7a4_35 ?_
  refine z_bipush hC dJ6_bitCount_0f7a4_36 zb_8 ?_
  refine z_iushr hC dJ6_bitCount_0f7a4_38 rfl ?_
  refine z_iadd hC dJ6_bitCount_0f7a4_39 ?_
  refine z_is0 hC dJ6_bitCount_0f7a4_40 (by decide) ?_
  refine z_il0 hC dJ6_bitCount_0f7a4_41 ?_
  refine z_il0 hC dJ6_bitCount_0f7a4_42 ?_
  refine z_bipush hC dJ6_bitCount_0f7a4_43 zb_16 ?_
  refine z_iushr hC dJ6_bitCount_0f7a4_45 rfl ?_
  refine z_iadd hC dJ6_bitCount_0f7a4_46 ?_
  refine z_is0 hC dJ6_bitCount_0f7a4_47 (by decide) ?_
  refine z_il0 hC dJ6_bitCount_0f7a4_48 ?_
  refine z_bipush hC dJ6_bitCount_0f7a4_49 zb_63 ?_
  refine z_iand hC dJ6_bitCount_0f7a4_51 ?_
  exact z_reti hE (by omega) dJ6_bitCount_0f7a4_52 (⟨rfl, rfl⟩)
end
section
/-! pure words for the class's public calls: xo.. whether the arguments are right, xa.. the answer, xs.. the state behind -/
def xI (G : zG) (vc rc td : Nat) : Prop := zg G 0 0 4 = nI vc ∧ 1 ≤ vc ∧ vc ≤ 5 ∧ zg G 0 0 3 = nI rc ∧ rc ≤ 12 ∧ zn G 0 = rc ∧ zn G 1 = rc ∧ zg G 0 0 5 = nI td ∧ td ≤ 39 ∧ (∀ h, h < 6 → ∃ n, n ≤ 12 ∧ zg G 10 h 6 = nI n ∧ zTx G h n) ∧ (∀ h, h < 6 → ∃ v, v < vc ∧ zg G 7 h 4 = nI v) ∧ (∀ q, q < rc → ∃ f t d, f < 8 ∧ t < 8 ∧ d < 8 ∧ zg G 17 q 0 = nI f ∧ zg G 17 q 2 = nI t ∧ zg G 17 q 3 = nI d)
def xCp (G : zG) (vc : Nat) : Nat → zG
  | 0 => G
  | n + 1 => zuA (xCp G vc n) 5 n (va_cpy (zg (xCp G vc n) 5 n) (zg (xCp G vc n) 5 n) ((vc - 1) * 8) (vc * 8) 8)
theorem xCp_0 (G : zG) (vc n : Nat) (j : Nat) : zg (xCp G vc n) 0 0 j = zg G 0 0 j := by
  induction n with
  | zero => rfl
  | succ n ih =>
    show zg (zuA _ 5 n _) 0 0 j = _
    rw [zg_zuA, if_neg (by omega)]
    exact ih
def xaVersion (vc : Nat) : Int32 := if vc < 5 then nI vc else -3
def xsVersion (G : zG) (vc : Nat) : zG := if vc < 5 then zu (xCp G vc 8) 0 0 4 (nI (vc + 1)) else G
def xoAnswer (vc : Nat) (a b c d : Int32) : Bool := zin a 8 && (zin b vc && (zin c 8 && (decide (d = -9) || zin d 10)))
def xaAnswer (G : zG) (vc : Nat) (a b c d : Int32) : Int32 := if xoAnswer vc a b c d = true then zg G 5 a.toNatClampNeg (b.toNatClampNeg * 8 + c.toNatClampNeg) else -2
def xsAnswer (G : zG) (vc : Nat) (a b c d : Int32) : zG := if xoAnswer vc a b c d = true then zu G 5 a.toNatClampNeg (b.toNatClampNeg * 8 + c.toNatClampNeg) d else G
def xoDiffer (vc : Nat) (a b c : Int32) : Bool := zin a 8 && (zin b vc && zin c vc)
def xaDiffer (G : zG) (vc : Nat) (a b c : Int32) : Int32 := if xoDiffer vc a b c = true then xDif G a.toNatClampNeg b.toNatClampNeg c.toNatClampNeg else -1
def xoGoes (vc : Nat) (a b : Int32) : Bool := zin a 6 && zin b vc
def xaGoes (G : zG) (vc : Nat) (a b : Int32) : Int32 := if xoGoes vc a b = true then zg G 7 a.toNatClampNeg 4 else -1
def xsGoes (G : zG) (vc : Nat) (a b : Int32) : zG := if xoGoes vc a b = true then zu G 7 a.toNatClampNeg 4 b else G
def xAdd (G : zG) (i m : Nat) (v : Nat → Int32) (k f g d t : Int32) : zG := zu (zu (zu (zu (zu (zu (zuA G 16 i (endF (zg G 16 i) (m * 8) v 8)) 11 i m k) 12 i m f) 13 i m g) 14 i m d) 15 i m t) 10 i 6 (nI (m + 1))
def xSz (G : zG) (h : Nat) : Nat := (zg G 10 h 6).toNatClampNeg
def xoCall (a b c : Int32) : Bool := zin a 6 && (zin b 8 && zin c 256)
def xaCall (G : zG) (a b c : Int32) : Int32 := if xoCall a b c = true then (if xSz G a.toNatClampNeg < 12 then nI (xSz G a.toNatClampNeg) else -3) else -1
def xsCall (G : zG) (a b c : Int32) : zG := if xoCall a b c = true then (if xSz G a.toNatClampNeg < 12 then xAdd G a.toNatClampNeg (xSz G a.toNatClampNeg) (fun v => nI (b.toNatClampNeg * 8 + v)) (nI 0) (nI 0) (nI 0) (nI 0) c else G) else G
def xoWrap (G : zG) (a b c d : Int32) : Bool := zin a 6 && (zin b (xSz G a.toNatClampNeg) && (zin c 8 && zin d 256))
def xaWrap (G : zG) (a b c d : Int32) : Int32 := if xoWrap G a b c d = true then (if xSz G a.toNatClampNeg < 12 then nI (xSz G a.toNatClampNeg) else -3) else -1
def xsWrap (G : zG) (a b c d : Int32) : zG := if xoWrap G a b c d = true then (if xSz G a.toNatClampNeg < 12 then xAdd G a.toNatClampNeg (xSz G a.toNatClampNeg) (fun v => zg G 16 a.toNatClampNeg (b.toNatClampNeg * 8 + (v + c.toNatClampNeg) % 8)) (nI 1) b b c d else G) else G
def zin1 (x : Int32) : Bool := decide (1 ≤ x.toInt ∧ x.toInt ≤ 7)
theorem zin1_f0 {x : Int32} (h : x < nI 1) : zin1 x = false := by
  have h1 := Int32.lt_iff_toInt_lt.mp h
  rw [nI_toInt (by decide)] at h1
  unfold zin1
  simp
  omega
theorem zin1_f1 {x : Int32} (h : nI 7 < x) : zin1 x = false := by
  have h1 := Int32.lt_iff_toInt_lt.mp h
  rw [nI_toInt (by decide)] at h1
  unfold zin1
  simp
  omega
theorem zin1_c {x : Int32} (h : ¬ x < nI 1) (h2 : ¬ nI 7 < x) : ∃ a : Nat, 1 ≤ a ∧ a < 8 ∧ x = nI a := by
  have h0 : ¬ x < 0 := fun q => h (Int32.lt_trans q (by decide +kernel))
  obtain ⟨j, hj, rfl⟩ := nI_of h0
  rw [nI_ltI hj (by decide)] at h
  rw [nI_ltI (by decide) hj] at h2
  exact ⟨j, by omega, by omega, rfl⟩
theorem zin1_t {a : Nat} (h : 1 ≤ a) (h2 : a < 8) : zin1 (nI a) = true := by
  unfold zin1
  rw [nI_toInt (by omega)]
  simp
  omega
def xoSplit (G : zG) (a b c d e : Int32) : Bool := zin a 6 && (zin b (xSz G a.toNatClampNeg) && (zin c (xSz G a.toNatClampNeg) && (zin1 d && zin e 256)))
def xaSplit (G : zG) (a b c d e : Int32) : Int32 := if xoSplit G a b c d e = true then (if xSz G a.toNatClampNeg < 12 then nI (xSz G a.toNatClampNeg) else -3) else -1
def xsSplit (G : zG) (a b c d e : Int32) : zG := if xoSplit G a b c d e = true then (if xSz G a.toNatClampNeg < 12 then xAdd G a.toNatClampNeg (xSz G a.toNatClampNeg) (fun v => zg G 16 a.toNatClampNeg ((if v < d.toNatClampNeg then b.toNatClampNeg else c.toNatClampNeg) * 8 + v)) (nI 2) b c d e else G) else G
def xaClear (G : zG) (a : Int32) : Int32 := if zin a 6 = true then zg G 10 a.toNatClampNeg 6 else -1
def xsClear (G : zG) (a : Int32) : zG := if zin a 6 = true then zu G 10 a.toNatClampNeg 6 (nI 0) else G
def xoSees (G : zG) (a b c : Int32) : Bool := zin a 6 && (zin b (xSz G a.toNatClampNeg) && zin c 8)
def xaSees (G : zG) (a b c : Int32) : Int32 := if xoSees G a b c = true then xSees G a.toNatClampNeg b.toNatClampNeg c else -1
def xsSees (G : zG) (a b c : Int32) : zG := if xoSees G a b c = true then zuT G 0 (zt G 0 + (xSteps G a.toNatClampNeg 12 b.toNatClampNeg (zg G 15 a.toNatClampNeg b.toNatClampNeg)).toInt64) else G
theorem xSees_zuT (G : zG) (j : Nat) (v : Int64) (h s : Nat) (f : Int32) : xSees (zuT G j v) h s f = xSees G h s f := rfl
def xoUses (a b : Int32) : Bool := zin a 6 && zin b 8
def xaUses (G : zG) (a b : Int32) : Int32 := if xoUses a b = true then xUsed G a.toNatClampNeg b else -1
def xShp (x : Int32) : Int32 := if xBc x = 0 then nI 0 else if xBc x = nI 1 then nI 1 else if nI 8 ≤ xBc x then nI 3 else nI 2
def xaShape (G : zG) (a b : Int32) : Int32 := if xoUses a b = true then xShp (xUsed G a.toNatClampNeg b) else -1
def xoCount (td : Nat) (a b c d e : Int32) : Bool := zin a 6 && (zin b 8 && (zin c 40 && (decide (c ≤ nI td) && (zin d 1001 && zin e 100))))
def xaCount (G : zG) (td : Nat) (a b c d e : Int32) : Int32 := if xoCount td a b c d e = true then (if zg G 9 a.toNatClampNeg e.toNatClampNeg = 0 then nI 1 else nI 0) else -1
def xCt (G : zG) (h f d m : Nat) (x : Int32) : zG := zu (zu (zu G 9 h m (nI 1)) 7 h 3 (nI 1)) 8 h (f * 40 + d) (zg G 8 h (f * 40 + d) + x)
def xOpn (G : zG) (f : Nat) : zG := zu (zu G 4 f 2 (-9)) 4 f 3 (zg (zu G 4 f 2 (-9)) 4 f 3 + nI 1)
def xsCount (G : zG) (td : Nat) (a b c d e : Int32) : zG := if xoCount td a b c d e = true then (if zg G 9 a.toNatClampNeg e.toNatClampNeg = 0 then (if d ≤ 0 then xCt G a.toNatClampNeg b.toNatClampNeg c.toNatClampNeg e.toNatClampNeg d else if xShut (xCt G a.toNatClampNeg b.toNatClampNeg c.toNatClampNeg e.toNatClampNeg d) b.toNatClampNeg c = true then xOpn (xCt G a.toNatClampNeg b.toNatClampNeg c.toNatClampNeg e.toNatClampNeg d) b.toNatClampNeg else xCt G a.toNatClampNeg b.toNatClampNeg c.toNatClampNeg e.toNatClampNeg d) else G) else G
def xoSum (a b c d : Int32) : Bool := zin a 6 && (zin b 8 && zspan c d)
def xaSum (G : zG) (a b c d : Int32) : Int32 := if xoSum a b c d = true then xSum G a.toNatClampNeg b.toNatClampNeg c.toNatClampNeg (d.toNatClampNeg + 1) else -1
def xaSilent (G : zG) (a : Int32) : Int32 := if zin a 6 = true then (if xSilent G a.toNatClampNeg = true then nI 1 else nI 0) else -1
def xMo (G : zG) (f a b : Nat) (z : Int32) : Nat → Int32
  | 0 => z
  | n + 1 => xMo G f a b z n + xSum G n f a (b + 1)
def xoMost (a b c : Int32) : Bool := zin a 8 && zspan b c
def xaMost (G : zG) (a b c : Int32) : Int32 := if xoMost a b c = true then xMo G a.toNatClampNeg b.toNatClampNeg c.toNatClampNeg ((nI (ctF (fun h => xSilent G h) 6) * zg G 0 0 6) * ((c - b) + nI 1)) 6 else -1
def xoHarm (vc : Nat) (a b c : Int32) : Bool := zin a 6 && (zin b 8 && zin c vc)
def xaHarm (G : zG) (vc : Nat) (a b c : Int32) : Int32 := if xoHarm vc a b c = true then (if xSilent G a.toNatClampNeg = true then nI 3 else if xUsed G a.toNatClampNeg b &&& xDif G b.toNatClampNeg (zg G 7 a.toNatClampNeg 4).toNatClampNeg c.toNatClampNeg = 0 then nI 0 else if xOnly G a.toNatClampNeg b (xDif G b.toNatClampNeg (zg G 7 a.toNatClampNeg 4).toNatClampNeg c.toNatClampNeg) = true then nI 2 else nI 1) else -1
def xoHolds (vc rc : Nat) (a b c : Int32) : Bool := zin a rc && (zin b vc && zin c vc)
def xRh (G : zG) (q v u : Nat) : Bool := xHeld G (zg G 17 q 0).toNatClampNeg (zg G 17 q 1) (zg G 17 q 2).toNatClampNeg (zg G 17 q 3).toNatClampNeg v u
def xaHolds (G : zG) (vc rc : Nat) (a b c : Int32) : Int32 := if xoHolds vc rc a b c = true then (if xRh G a.toNatClampNeg b.toNatClampNeg c.toNatClampNeg = true then nI 1 else nI 0) else -1
def xoClash (rc : Nat) (a b : Int32) : Bool := zin a rc && zin b rc
def xCl (G : zG) (p q : Nat) : Bool := decide (zg G 17 p 0 = zg G 17 q 0 ∧ ¬ zg G 17 p 1 &&& zg G 17 q 1 = 0 ∧ (¬ zg G 17 p 2 = zg G 17 q 2 ∨ ¬ zg G 17 p 3 = zg G 17 q 3))
def xaClash (G : zG) (rc : Nat) (a b : Int32) : Int32 := if xoClash rc a b = true then (if xCl G a.toNatClampNeg b.toNatClampNeg = true then nI 1 else nI 0) else -1
def xLf (G : zG) (f : Int32) (v u : Nat) (z : Int32) : Nat → Int32
  | 0 => z
  | n + 1 => if zg G 17 n 0 = f then (if xRh G n v u = true then xLf G f v u z n &&& (zg G 17 n 1 ^^^ (-1)) else xLf G f v u z n) else xLf G f v u z n
theorem xLf_0 {G : zG} {f : Int32} {v u : Nat} {z : Int32} {n : Nat} (h : ¬ zg G 17 n 0 = f) : xLf G f v u z (n + 1) = xLf G f v u z n := if_neg h
theorem xLf_1 {G : zG} {f : Int32} {v u : Nat} {z : Int32} {n : Nat} (h : zg G 17 n 0 = f) (h2 : xRh G n v u = true) : xLf G f v u z (n + 1) = xLf G f v u z n &&& (zg G 17 n 1 ^^^ (-1)) := (if_pos h).trans (if_pos h2)
theorem xLf_2 {G : zG} {f : Int32} {v u : Nat} {z : Int32} {n : Nat} (h : zg G 17 n 0 = f) (h2 : xRh G n v u = false) : xLf G f v u z (n + 1) = xLf G f v u z n := (if_pos h).trans (if_neg (by rw [h2]; decide))
def xaLeft (G : zG) (vc rc : Nat) (a b c : Int32) : Int32 := if xoHarm vc a b c = true then xLf G b (zg G 7 a.toNatClampNeg 4).toNatClampNeg c.toNatClampNeg (xUsed G a.toNatClampNeg b &&& xDif G b.toNatClampNeg (zg G 7 a.toNatClampNeg 4).toNatClampNeg c.toNatClampNeg) rc else -1
def xaDays (G : zG) (a : Int32) : Int32 := if a < nI 1 then -1 else if a ≤ nI 20 then (if zg G 0 0 5 + a ≤ nI 39 then zg G 0 0 5 + a else -2) else -1
def xsDays (G : zG) (a : Int32) : zG := if a < nI 1 then G else if a ≤ nI 20 then (if zg G 0 0 5 + a ≤ nI 39 then zu G 0 0 5 (zg G 0 0 5 + a) else G) else G
def xoPromise (a b c : Int32) : Bool := zin a 8 && (zin b 6 && (decide (c = -9) || zin c 40))
def xaPromise (G : zG) (a b c : Int32) : Int32 := if xoPromise a b c = true then (if xShut G a.toNatClampNeg (zg G 0 0 5) = true then -3 else zg G 6 a.toNatClampNeg b.toNatClampNeg) else -2
def xsPromise (G : zG) (a b c : Int32) : zG := if xoPromise a b c = true then (if xShut G a.toNatClampNeg (zg G 0 0 5) = true then G else if c = -9 then zu G 6 a.toNatClampNeg b.toNatClampNeg c else if xShut (zu G 6 a.toNatClampNeg b.toNatClampNeg c) a.toNatClampNeg c = true then zu (zu G 6 a.toNatClampNeg b.toNatClampNeg c) 4 a.toNatClampNeg 2 (c + nI 1) else zu G 6 a.toNatClampNeg b.toNatClampNeg c) else G
def xoShut (G : zG) (a b : Int32) : Bool := zin a 8 && (!decide (b < zg G 0 0 5) && decide (b ≤ nI 40))
def xaShut (G : zG) (a b : Int32) : Int32 := if xoShut G a b = true then (if xShut G a.toNatClampNeg (zg G 0 0 5) = true then -2 else if b ≤ xLat G a.toNatClampNeg then -2 else b) else -1
def xsShut (G : zG) (a b : Int32) : zG := if xoShut G a b = true then (if xShut G a.toNatClampNeg (zg G 0 0 5) = true then G else if b ≤ xLat G a.toNatClampNeg then G else zu G 4 a.toNatClampNeg 2 b) else G
def xaOpen (G : zG) (a : Int32) : Int32 := if zin a 8 = true then (if zg G 4 a.toNatClampNeg 2 = -9 then -2 else zg G 4 a.toNatClampNeg 2) else -1
def xsOpen (G : zG) (a : Int32) : zG := if zin a 8 = true then (if zg G 4 a.toNatClampNeg 2 = -9 then G else zu G 4 a.toNatClampNeg 2 (-9)) else G
def xaAbout (G : zG) (a b : Int32) : Int32 := if zin a 8 = true then (if b.toInt < 0 ∨ 3 < b.toInt then -1 else if b = nI 0 then zg G 4 a.toNatClampNeg 2 else if b = nI 1 then (if xShut G a.toNatClampNeg (zg G 0 0 5) = true then nI 1 else nI 0) else if b = nI 2 then xLat G a.toNatClampNeg else zg G 4 a.toNatClampNeg 3) else -1
def xHm (G : zG) (f : Int32) (d h : Nat) : Bool := !decide (xUsed G h f = 0) || decide (0 < xSum G h f.toNatClampNeg (d - 7) (min d 39 + 1))
def xHmd (G : zG) (f : Int32) (d : Nat) : Int32 := nI (ctF (fun h => xHm G f d h) 6)
def xaHarmed (G : zG) (a b : Int32) : Int32 := if (zin a 8 && zin b 41) = true then xHmd G a b.toNatClampNeg else -1
def xRd (G : zG) (a : Int32) (d : Nat) : Bool := decide (xHmd G a d = 0 ∧ xLat G a.toNatClampNeg < nI d)
/-- the first from n on (k places are left) -/
def fsT (c : Nat → Bool) : Nat → Nat → Int32
  | _, 0 => -9
  | n, k + 1 => if c n = true then nI n else fsT c (n + 1) k
def xaReady (G : zG) (td : Nat) (a : Int32) : Int32 := if zin a 8 = true then fsT (fun d => xRd G a d) td (41 - td) else -1
def xaSet (G : zG) (a b c : Int32) : Int32 := if zin c 1001 = true then (if a.toInt < 0 ∨ 2 < a.toInt then -1 else if a = nI 0 then (if zin b 8 = true then zg G 4 b.toNatClampNeg 4 else -1) else if a = nI 1 then (if zin b 6 = true then zg G 7 b.toNatClampNeg 5 else -1) else zg G 0 0 6) else -1
def xsSet (G : zG) (a b c : Int32) : zG := if zin c 1001 = true then (if a.toInt < 0 ∨ 2 < a.toInt then G else if a = nI 0 then (if zin b 8 = true then zu G 4 b.toNatClampNeg 4 c else G) else if a = nI 1 then (if zin b 6 = true then zu G 7 b.toNatClampNeg 5 c else G) else zu G 0 0 6 c) else G
def xPk (G : zG) (n : Nat) : Bool := xKept G n (xHrs G (nI n) 6)
def xPc (G : zG) : Nat → Int32
  | 0 => nI 0
  | n + 1 => if xPk G n = true then xPc G n + zg G 4 n 4 else xPc G n + xHrs G (nI n) 6
theorem xPc_t {G : zG} {n : Nat} (h : xPk G n = true) : xPc G (n + 1) = xPc G n + zg G 4 n 4 := if_pos h
theorem xPc_f {G : zG} {n : Nat} (h : xPk G n = false) : xPc G (n + 1) = xPc G n + xHrs G (nI n) 6 := if_neg (by rw [h]; decide)
def xaPlan (G : zG) (a : Int32) : Int32 := if a = 0 then bo (fun n => xPk G n) 8 else if a = nI 1 then xPc G 8 else -1
def xaTold (G : zG) (a : Int32) : Int32 := if a.toInt < 0 ∨ 4 < a.toInt then -1 else if a = nI 0 then zg G 0 0 4 else if a = nI 1 then zg G 0 0 5 else if a = nI 2 then zg G 0 0 3 else if a = nI 3 then nI (ctF (fun h => xSilent G h) 6) else nI (ctF (fun h => xShut G h (zg G 0 0 5)) 8)
end
