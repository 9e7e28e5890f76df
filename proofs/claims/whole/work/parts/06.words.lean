theorem zmem0 {n : Nat} {w : Cond} (h : lw_tbl[n]? = some w) : w ∈ lw_tbl := List.mem_of_getElem? h
def zall : List Cond := lw_tbl.filter goodWord
theorem zmem {n : Nat} {w : Cond} (h : lw_tbl[n]? = some w) (hg : goodWord w = true) : w ∈ zall := List.mem_filter.mpr ⟨List.mem_of_getElem? h, hg⟩
theorem zall_tbl {w : Cond} (h : w ∈ zall) : w ∈ lw_tbl := (List.mem_filter.mp h).1
theorem zall_good {w : Cond} (h : w ∈ zall) : (w.onTables && w.keeps) = true ∨ ∃ ty, w = .arrayClass ty := good_of_word (List.mem_filter.mp h).2
def zcl : List vw_C := [(RX0, TX0, 5), (RX1, TX1, 6), (RX2, TX2, 4), (RX3, TX3, 7), (RX4, TX4, 8), (RX5, TX5, 31)]
def zNF : List (String × Nat × String × String × String × String) := [("WhoCalls", 66, "WhoCalls$Door", "answers", "[I", "WhoCalls"), ("WhoCalls", 180, "WhoCalls$Door", "promises", "[I", "WhoCalls"), ("WhoCalls", 135, "WhoCalls$Door", "shutDay", "I", "WhoCalls"), ("WhoCalls", 138, "WhoCalls$Door", "surprises", "I", "WhoCalls"), ("WhoCalls", 210, "WhoCalls$Door", "cost", "I", "WhoCalls"), ("WhoCalls$House", 50, "WhoCalls$Text", "size", "I", "WhoCalls"), ("WhoCalls", 103, "WhoCalls$Text", "size", "I", "WhoCalls"), ("WhoCalls", 83, "WhoCalls$House", "text", "LWhoCalls$Text;", "WhoCalls"), ("WhoCalls", 124, "WhoCalls$House", "marks", "[Z", "WhoCalls"), ("WhoCalls", 77, "WhoCalls$House", "version", "I", "WhoCalls"), ("WhoCalls", 216, "WhoCalls$House", "hours", "I", "WhoCalls"), ("WhoCalls", 168, "WhoCalls$Rule", "face", "I", "WhoCalls"), ("WhoCalls", 171, "WhoCalls$Rule", "set", "I", "WhoCalls"), ("WhoCalls", 174, "WhoCalls$Rule", "to", "I", "WhoCalls"), ("WhoCalls", 177, "WhoCalls$Rule", "d", "I", "WhoCalls")]
def zNM : List (String × Nat × MethodName × String) := [("WhoCalls", 44, yX0_init, "WhoCalls"), ("WhoCalls", 45, yX1_init, "WhoCalls"), ("WhoCalls$House", 11, yX3_init, "WhoCalls"), ("WhoCalls", 46, yX0_copyAnswers, "WhoCalls"), ("WhoCalls", 62, yX0_answerTo, "WhoCalls"), ("WhoCalls", 70, yX0_differing, "WhoCalls"), ("WhoCalls", 87, yX3_addCall, "WhoCalls"), ("WhoCalls", 92, yX3_has, "WhoCalls"), ("WhoCalls$Text", 34, yX4_isWithin, "WhoCalls"), ("WhoCalls", 95, yX3_addWrap, "WhoCalls"), ("WhoCalls", 99, yX3_addSplit, "WhoCalls"), ("WhoCalls", 106, yX3_stepsOf, "WhoCalls"), ("WhoCalls", 110, yX3_seenBy, "WhoCalls"), ("WhoCalls", 113, yX3_used, "WhoCalls"), ("WhoCalls", 128, yX1_addCount, "WhoCalls"), ("WhoCalls", 132, yX0_isShutOn, "WhoCalls"), ("WhoCalls", 144, yX1_counted, "WhoCalls"), ("WhoCalls", 147, yX1_isSilent, "WhoCalls"), ("WhoCalls", 155, yX3_someSeesOnly, "WhoCalls"), ("WhoCalls", 158, yX2_init, "WhoCalls"), ("WhoCalls", 183, yX0_isPromised, "WhoCalls"), ("WhoCalls", 186, yX0_latestPromise, "WhoCalls"), ("WhoCalls", 189, yX1_calledAround, "WhoCalls")]
set_option maxRecDepth 20000 in
theorem zNF_tbl : ∀ q ∈ zNF, Cond.fieldLinkNest q.1 q.2.1 q.2.2.1 q.2.2.2.1 q.2.2.2.2.1 q.2.2.2.2.2 ∈ lw_tbl := by
  unfold zNF
  exact List.forall_mem_cons.mpr ⟨zmem0 (n := 77) rfl, List.forall_mem_cons.mpr ⟨zmem0 (n := 79) rfl, List.forall_mem_cons.mpr ⟨zmem0 (n := 81) rfl, List.forall_mem_cons.mpr ⟨zmem0 (n := 83) rfl, List.forall_mem_cons.mpr ⟨zmem0 (n := 85) rfl, List.forall_mem_cons.mpr ⟨zmem0 (n := 116) rfl, List.forall_mem_cons.mpr ⟨zmem0 (n := 117) rfl, List.forall_mem_cons.mpr ⟨zmem0 (n := 134) rfl, List.forall_mem_cons.mpr ⟨zmem0 (n := 137) rfl, List.forall_mem_cons.mpr ⟨zmem0 (n := 140) rfl, List.forall_mem_cons.mpr ⟨zmem0 (n := 142) rfl, List.forall_mem_cons.mpr ⟨zmem0 (n := 367) rfl, List.forall_mem_cons.mpr ⟨zmem0 (n := 369) rfl, List.forall_mem_cons.mpr ⟨zmem0 (n := 371) rfl, List.forall_mem_cons.mpr ⟨zmem0 (n := 373) rfl, fun _ h => absurd h List.not_mem_nil⟩⟩⟩⟩⟩⟩⟩⟩⟩⟩⟩⟩⟩⟩⟩
set_option maxRecDepth 20000 in
theorem zNM_tbl : ∀ q ∈ zNM, Cond.methodLinkNest q.1 q.2.1 q.2.2.1 q.2.2.2 ∈ lw_tbl := by
  unfold zNM
  exact List.forall_mem_cons.mpr ⟨zmem0 (n := 69) rfl, List.forall_mem_cons.mpr ⟨zmem0 (n := 99) rfl, List.forall_mem_cons.mpr ⟨zmem0 (n := 105) rfl, List.forall_mem_cons.mpr ⟨zmem0 (n := 186) rfl, List.forall_mem_cons.mpr ⟨zmem0 (n := 211) rfl, List.forall_mem_cons.mpr ⟨zmem0 (n := 219) rfl, List.forall_mem_cons.mpr ⟨zmem0 (n := 236) rfl, List.forall_mem_cons.mpr ⟨zmem0 (n := 248) rfl, List.forall_mem_cons.mpr ⟨zmem0 (n := 252) rfl, List.forall_mem_cons.mpr ⟨zmem0 (n := 253) rfl, List.forall_mem_cons.mpr ⟨zmem0 (n := 261) rfl, List.forall_mem_cons.mpr ⟨zmem0 (n := 273) rfl, List.forall_mem_cons.mpr ⟨zmem0 (n := 284) rfl, List.forall_mem_cons.mpr ⟨zmem0 (n := 292) rfl, List.forall_mem_cons.mpr ⟨zmem0 (n := 314) rfl, List.forall_mem_cons.mpr ⟨zmem0 (n := 318) rfl, List.forall_mem_cons.mpr ⟨zmem0 (n := 329) rfl, List.forall_mem_cons.mpr ⟨zmem0 (n := 337) rfl, List.forall_mem_cons.mpr ⟨zmem0 (n := 353) rfl, List.forall_mem_cons.mpr ⟨zmem0 (n := 362) rfl, List.forall_mem_cons.mpr ⟨zmem0 (n := 415) rfl, List.forall_mem_cons.mpr ⟨zmem0 (n := 434) rfl, List.forall_mem_cons.mpr ⟨zmem0 (n := 439) rfl, fun _ h => absurd h List.not_mem_nil⟩⟩⟩⟩⟩⟩⟩⟩⟩⟩⟩⟩⟩⟩⟩⟩⟩⟩⟩⟩⟩⟩⟩
set_option maxRecDepth 20000 in
theorem zu_X0 : ∀ w ∈ u_ws RX0 TX0 5, w ∈ zall := by
  show ∀ w ∈ ([.laysFinal "WhoCalls$Door" "WhoCalls$Door" "answers" "[I", .laysFinal "WhoCalls$Door" "WhoCalls$Door" "promises" "[I", .lays "WhoCalls$Door" "WhoCalls$Door" "shutDay" "I", .lays "WhoCalls$Door" "WhoCalls$Door" "surprises" "I", .lays "WhoCalls$Door" "WhoCalls$Door" "cost" "I"] : List Cond), w ∈ zall
  exact List.forall_mem_cons.mpr ⟨zmem (n := 86) rfl rfl, List.forall_mem_cons.mpr ⟨zmem (n := 88) rfl rfl, List.forall_mem_cons.mpr ⟨zmem (n := 90) rfl rfl, List.forall_mem_cons.mpr ⟨zmem (n := 92) rfl rfl, List.forall_mem_cons.mpr ⟨zmem (n := 94) rfl rfl, fun _ h => absurd h List.not_mem_nil⟩⟩⟩⟩⟩
set_option maxRecDepth 20000 in
theorem zu_X1 : ∀ w ∈ u_ws RX1 TX1 6, w ∈ zall := by
  show ∀ w ∈ ([.laysFinal "WhoCalls$House" "WhoCalls$House" "text" "LWhoCalls$Text;", .laysFinal "WhoCalls$House" "WhoCalls$House" "counts" "[I", .laysFinal "WhoCalls$House" "WhoCalls$House" "marks" "[Z", .lays "WhoCalls$House" "WhoCalls$House" "hasCounts" "Z", .lays "WhoCalls$House" "WhoCalls$House" "version" "I", .lays "WhoCalls$House" "WhoCalls$House" "hours" "I"] : List Cond), w ∈ zall
  exact List.forall_mem_cons.mpr ⟨zmem (n := 143) rfl rfl, List.forall_mem_cons.mpr ⟨zmem (n := 145) rfl rfl, List.forall_mem_cons.mpr ⟨zmem (n := 147) rfl rfl, List.forall_mem_cons.mpr ⟨zmem (n := 149) rfl rfl, List.forall_mem_cons.mpr ⟨zmem (n := 151) rfl rfl, List.forall_mem_cons.mpr ⟨zmem (n := 153) rfl rfl, fun _ h => absurd h List.not_mem_nil⟩⟩⟩⟩⟩⟩
set_option maxRecDepth 20000 in
theorem zu_X2 : ∀ w ∈ u_ws RX2 TX2 4, w ∈ zall := by
  show ∀ w ∈ ([.laysFinal "WhoCalls$Rule" "WhoCalls$Rule" "face" "I", .laysFinal "WhoCalls$Rule" "WhoCalls$Rule" "set" "I", .laysFinal "WhoCalls$Rule" "WhoCalls$Rule" "to" "I", .laysFinal "WhoCalls$Rule" "WhoCalls$Rule" "d" "I"] : List Cond), w ∈ zall
  exact List.forall_mem_cons.mpr ⟨zmem (n := 374) rfl rfl, List.forall_mem_cons.mpr ⟨zmem (n := 376) rfl rfl, List.forall_mem_cons.mpr ⟨zmem (n := 378) rfl rfl, List.forall_mem_cons.mpr ⟨zmem (n := 380) rfl rfl, fun _ h => absurd h List.not_mem_nil⟩⟩⟩⟩
set_option maxRecDepth 20000 in
theorem zu_X3 : ∀ w ∈ u_ws RX3 TX3 7, w ∈ zall := by
  show ∀ w ∈ ([.laysFinal "WhoCalls$Text" "WhoCalls$Text" "kinds" "[I", .laysFinal "WhoCalls$Text" "WhoCalls$Text" "firsts" "[I", .laysFinal "WhoCalls$Text" "WhoCalls$Text" "seconds" "[I", .laysFinal "WhoCalls$Text" "WhoCalls$Text" "numbers" "[I", .laysFinal "WhoCalls$Text" "WhoCalls$Text" "sets" "[I", .laysFinal "WhoCalls$Text" "WhoCalls$Text" "ends" "[I", .lays "WhoCalls$Text" "WhoCalls$Text" "size" "I"] : List Cond), w ∈ zall
  exact List.forall_mem_cons.mpr ⟨zmem (n := 118) rfl rfl, List.forall_mem_cons.mpr ⟨zmem (n := 120) rfl rfl, List.forall_mem_cons.mpr ⟨zmem (n := 122) rfl rfl, List.forall_mem_cons.mpr ⟨zmem (n := 124) rfl rfl, List.forall_mem_cons.mpr ⟨zmem (n := 126) rfl rfl, List.forall_mem_cons.mpr ⟨zmem (n := 128) rfl rfl, List.forall_mem_cons.mpr ⟨zmem (n := 130) rfl rfl, fun _ h => absurd h List.not_mem_nil⟩⟩⟩⟩⟩⟩⟩
set_option maxRecDepth 20000 in
theorem zu_X4 : ∀ w ∈ u_ws RX4 TX4 8, w ∈ zall := by
  show ∀ w ∈ ([.laysFinal "WhoCalls" "WhoCalls" "doors" "[LWhoCalls$Door;", .laysFinal "WhoCalls" "WhoCalls" "houses" "[LWhoCalls$House;", .laysFinal "WhoCalls" "WhoCalls" "rules" "[LWhoCalls$Rule;", .lays "WhoCalls" "WhoCalls" "ruleCount" "I", .lays "WhoCalls" "WhoCalls" "versionCount" "I", .lays "WhoCalls" "WhoCalls" "today" "I", .lays "WhoCalls" "WhoCalls" "mostADay" "I", .lays "WhoCalls" "WhoCalls" "traced" "J"] : List Cond), w ∈ zall
  exact List.forall_mem_cons.mpr ⟨zmem (n := 165) rfl rfl, List.forall_mem_cons.mpr ⟨zmem (n := 167) rfl rfl, List.forall_mem_cons.mpr ⟨zmem (n := 169) rfl rfl, List.forall_mem_cons.mpr ⟨zmem (n := 171) rfl rfl, List.forall_mem_cons.mpr ⟨zmem (n := 173) rfl rfl, List.forall_mem_cons.mpr ⟨zmem (n := 175) rfl rfl, List.forall_mem_cons.mpr ⟨zmem (n := 177) rfl rfl, List.forall_mem_cons.mpr ⟨zmem (n := 179) rfl rfl, fun _ h => absurd h List.not_mem_nil⟩⟩⟩⟩⟩⟩⟩⟩
set_option maxRecDepth 20000 in
theorem zu_X5 : ∀ w ∈ u_ws RX5 TX5 31, w ∈ zall := by
  show ∀ w ∈ ([.lays "WhoCallsModel" "WhoCallsModel" "versions" "I", .laysFinal "WhoCallsModel" "WhoCallsModel" "answers" "[I", .laysFinal "WhoCallsModel" "WhoCallsModel" "goesBy" "[I", .laysFinal "WhoCallsModel" "WhoCallsModel" "lines" "[I", .laysFinal "WhoCallsModel" "WhoCallsModel" "kind" "[I", .laysFinal "WhoCallsModel" "WhoCallsModel" "first" "[I", .laysFinal "WhoCallsModel" "WhoCallsModel" "second" "[I", .laysFinal "WhoCallsModel" "WhoCallsModel" "by" "[I", .laysFinal "WhoCallsModel" "WhoCallsModel" "set" "[I", .laysFinal "WhoCallsModel" "WhoCallsModel" "counted" "[I", .laysFinal "WhoCallsModel" "WhoCallsModel" "isMarked" "[Z", .laysFinal "WhoCallsModel" "WhoCallsModel" "hasCounts" "[Z", .lays "WhoCallsModel" "WhoCallsModel" "most" "I", .lays "WhoCallsModel" "WhoCallsModel" "rules" "I", .laysFinal "WhoCallsModel" "WhoCallsModel" "ruleFace" "[I", .laysFinal "WhoCallsModel" "WhoCallsModel" "ruleSet" "[I", .laysFinal "WhoCallsModel" "WhoCallsModel" "ruleTo" "[I", .laysFinal "WhoCallsModel" "WhoCallsModel" "ruleBy" "[I", .lays "WhoCallsModel" "WhoCallsModel" "today" "I", .laysFinal "WhoCallsModel" "WhoCallsModel" "promised" "[I", .laysFinal "WhoCallsModel" "WhoCallsModel" "shutOn" "[I", .laysFinal "WhoCallsModel" "WhoCallsModel" "surprises" "[I", .laysFinal "WhoCallsModel" "WhoCallsModel" "keepCost" "[I", .laysFinal "WhoCallsModel" "WhoCallsModel" "hours" "[I", .lays "WhoCallsModel" "WhoCallsModel" "trace" "J", .laysFinal "WhoCallsModel" "WhoCallsModel" "pile" "[I", .laysFinal "WhoCallsModel" "WhoCallsModel" "pileSet" "[I", .laysFinal "WhoCallsModel" "WhoCallsModel" "seen" "[I", .lays "WhoCallsModel" "WhoCallsModel" "asked" "J", .lays "WhoCallsModel" "WhoCallsModel" "piled" "I", .laysFinal "WhoCallsModel" "WhoCallsModel" "lossOf" "[I"] : List Cond), w ∈ zall
  exact List.forall_mem_cons.mpr ⟨zmem (n := 524) rfl rfl, List.forall_mem_cons.mpr ⟨zmem (n := 526) rfl rfl, List.forall_mem_cons.mpr ⟨zmem (n := 528) rfl rfl, List.forall_mem_cons.mpr ⟨zmem (n := 530) rfl rfl, List.forall_mem_cons.mpr ⟨zmem (n := 532) rfl rfl, List.forall_mem_cons.mpr ⟨zmem (n := 534) rfl rfl, List.forall_mem_cons.mpr ⟨zmem (n := 536) rfl rfl, List.forall_mem_cons.mpr ⟨zmem (n := 538) rfl rfl, List.forall_mem_cons.mpr ⟨zmem (n := 540) rfl rfl, List.forall_mem_cons.mpr ⟨zmem (n := 542) rfl rfl, List.forall_mem_cons.mpr ⟨zmem (n := 544) rfl rfl, List.forall_mem_cons.mpr ⟨zmem (n := 546) rfl rfl, List.forall_mem_cons.mpr ⟨zmem (n := 548) rfl rfl, List.forall_mem_cons.mpr ⟨zmem (n := 550) rfl rfl, List.forall_mem_cons.mpr ⟨zmem (n := 552) rfl rfl, List.forall_mem_cons.mpr ⟨zmem (n := 554) rfl rfl, List.forall_mem_cons.mpr ⟨zmem (n := 556) rfl rfl, List.forall_mem_cons.mpr ⟨zmem (n := 558) rfl rfl, List.forall_mem_cons.mpr ⟨zmem (n := 560) rfl rfl, List.forall_mem_cons.mpr ⟨zmem (n := 562) rfl rfl, List.forall_mem_cons.mpr ⟨zmem (n := 564) rfl rfl, List.forall_mem_cons.mpr ⟨zmem (n := 566) rfl rfl, List.forall_mem_cons.mpr ⟨zmem (n := 568) rfl rfl, List.forall_mem_cons.mpr ⟨zmem (n := 570) rfl rfl, List.forall_mem_cons.mpr ⟨zmem (n := 572) rfl rfl, List.forall_mem_cons.mpr ⟨zmem (n := 574) rfl rfl, List.forall_mem_cons.mpr ⟨zmem (n := 576) rfl rfl, List.forall_mem_cons.mpr ⟨zmem (n := 578) rfl rfl, List.forall_mem_cons.mpr ⟨zmem (n := 580) rfl rfl, List.forall_mem_cons.mpr ⟨zmem (n := 582) rfl rfl, List.forall_mem_cons.mpr ⟨zmem (n := 584) rfl rfl, fun _ h => absurd h List.not_mem_nil⟩⟩⟩⟩⟩⟩⟩⟩⟩⟩⟩⟩⟩⟩⟩⟩⟩⟩⟩⟩⟩⟩⟩⟩⟩⟩⟩⟩⟩⟩⟩
set_option maxRecDepth 20000 in
theorem zini_X0 : Cond.initialized RX0 ∈ zall := zmem (n := 45) rfl rfl
set_option maxRecDepth 20000 in
theorem zins_X0 : Cond.instantiable RX0 5 ∈ zall := zmem (n := 68) rfl rfl
set_option maxRecDepth 20000 in
theorem zini_X1 : Cond.initialized RX1 ∈ zall := zmem (n := 47) rfl rfl
set_option maxRecDepth 20000 in
theorem zins_X1 : Cond.instantiable RX1 6 ∈ zall := zmem (n := 98) rfl rfl
set_option maxRecDepth 20000 in
theorem zini_X2 : Cond.initialized RX2 ∈ zall := zmem (n := 52) rfl rfl
set_option maxRecDepth 20000 in
theorem zins_X2 : Cond.instantiable RX2 4 ∈ zall := zmem (n := 361) rfl rfl
set_option maxRecDepth 20000 in
theorem zini_X3 : Cond.initialized RX3 ∈ zall := zmem (n := 48) rfl rfl
set_option maxRecDepth 20000 in
theorem zins_X3 : Cond.instantiable RX3 7 ∈ zall := zmem (n := 104) rfl rfl
set_option maxRecDepth 20000 in
theorem zini_X4 : Cond.initialized RX4 ∈ zall := zmem (n := 44) rfl rfl
set_option maxRecDepth 20000 in
theorem zins_X4 : Cond.instantiable RX4 8 ∈ zall := zmem (n := 55) rfl rfl
set_option maxRecDepth 20000 in
theorem zini_X5 : Cond.initialized RX5 ∈ zall := zmem (n := 49) rfl rfl
set_option maxRecDepth 20000 in
theorem zins_X5 : Cond.instantiable RX5 31 ∈ zall := zmem (n := 488) rfl rfl
set_option maxRecDepth 20000 in
theorem zini_L : Cond.initialized RL ∈ zall := zmem (n := 43) rfl rfl
set_option maxRecDepth 20000 in
theorem zini_J7 : Cond.initialized RJ7 ∈ zall := zmem (n := 46) rfl rfl
set_option maxRecDepth 20000 in
theorem zini_J10 : Cond.initialized RJ10 ∈ zall := zmem (n := 50) rfl rfl
set_option maxRecDepth 20000 in
theorem zini_J6 : Cond.initialized RJ6 ∈ zall := zmem (n := 51) rfl rfl
set_option maxRecDepth 20000 in
theorem zini_J9 : Cond.initialized RJ9 ∈ zall := zmem (n := 53) rfl rfl
def zM (y : MethodName) (b : ByteArray) (nL : Nat) (ret : Option FieldType) (n : Nat) : Prop := Cond.code y b nL ret ∈ zall ∧ y.cls ≠ "java/lang/invoke/MethodHandle" ∧ y.cls ≠ "java/lang/invoke/VarHandle" ∧ (parseMethodDescriptor y.desc).map (fun d => d.parameters.length) = some n
def zIV (y : MethodName) : Prop := Cond.instanceMethod y ∈ zall ∧ Cond.selects y.cls y y ∈ zall ∧ Cond.initialized y.cls ∈ zall
def zIS (y : MethodName) : Prop := Cond.static y ∈ zall ∧ Cond.initialized y.cls ∈ zall
def zII (y : MethodName) : Prop := Cond.instanceMethod y ∈ zall ∧ y.name = "<init>" ∧ Cond.initialized y.cls ∈ zall
set_option maxRecDepth 20000 in
theorem zm_X0_init : zM yX0_init cX0_init 1 none 0 := ⟨zmem (n := 71) rfl rfl, by decide, by decide, by decide +kernel⟩
set_option maxRecDepth 20000 in
theorem zi_X0_init : zII yX0_init := ⟨zmem (n := 70) rfl rfl, rfl, zini_X0⟩
set_option maxRecDepth 20000 in
theorem zm_X0_answerTo : zM yX0_answerTo cX0_answerTo 3 (some FieldType.int) 2 := ⟨zmem (n := 214) rfl rfl, by decide, by decide, by decide +kernel⟩
set_option maxRecDepth 20000 in
theorem zi_X0_answerTo : zIV yX0_answerTo := ⟨zmem (n := 213) rfl rfl, zmem (n := 3) rfl rfl, zini_X0⟩
set_option maxRecDepth 20000 in
theorem zm_X0_copyAnswers : zM yX0_copyAnswers cX0_copyAnswers 3 none 2 := ⟨zmem (n := 189) rfl rfl, by decide, by decide, by decide +kernel⟩
set_option maxRecDepth 20000 in
theorem zi_X0_copyAnswers : zIV yX0_copyAnswers := ⟨zmem (n := 188) rfl rfl, zmem (n := 0) rfl rfl, zini_X0⟩
set_option maxRecDepth 20000 in
theorem zm_X0_differing : zM yX0_differing cX0_differing 5 (some FieldType.int) 2 := ⟨zmem (n := 222) rfl rfl, by decide, by decide, by decide +kernel⟩
set_option maxRecDepth 20000 in
theorem zi_X0_differing : zIV yX0_differing := ⟨zmem (n := 221) rfl rfl, zmem (n := 4) rfl rfl, zini_X0⟩
set_option maxRecDepth 20000 in
theorem zm_X0_latestPromise : zM yX0_latestPromise cX0_latestPromise 6 (some FieldType.int) 0 := ⟨zmem (n := 422) rfl rfl, by decide, by decide, by decide +kernel⟩
set_option maxRecDepth 20000 in
theorem zi_X0_latestPromise : zIV yX0_latestPromise := ⟨zmem (n := 421) rfl rfl, zmem (n := 23) rfl rfl, zini_X0⟩
set_option maxRecDepth 20000 in
theorem zm_X0_isPromised : zM yX0_isPromised cX0_isPromised 2 (some FieldType.boolean) 1 := ⟨zmem (n := 418) rfl rfl, by decide, by decide, by decide +kernel⟩
set_option maxRecDepth 20000 in
theorem zi_X0_isPromised : zIV yX0_isPromised := ⟨zmem (n := 417) rfl rfl, zmem (n := 22) rfl rfl, zini_X0⟩
set_option maxRecDepth 20000 in
theorem zm_X0_isShutOn : zM yX0_isShutOn cX0_isShutOn 2 (some FieldType.boolean) 1 := ⟨zmem (n := 321) rfl rfl, by decide, by decide, by decide +kernel⟩
set_option maxRecDepth 20000 in
theorem zi_X0_isShutOn : zIV yX0_isShutOn := ⟨zmem (n := 320) rfl rfl, zmem (n := 15) rfl rfl, zini_X0⟩
set_option maxRecDepth 20000 in
theorem zm_X1_init : zM yX1_init cX1_init 1 none 0 := ⟨zmem (n := 101) rfl rfl, by decide, by decide, by decide +kernel⟩
set_option maxRecDepth 20000 in
theorem zi_X1_init : zII yX1_init := ⟨zmem (n := 100) rfl rfl, rfl, zini_X1⟩
set_option maxRecDepth 20000 in
theorem zm_X1_addCount : zM yX1_addCount cX1_addCount 5 none 4 := ⟨zmem (n := 317) rfl rfl, by decide, by decide, by decide +kernel⟩
set_option maxRecDepth 20000 in
theorem zi_X1_addCount : zIV yX1_addCount := ⟨zmem (n := 316) rfl rfl, zmem (n := 14) rfl rfl, zini_X1⟩
set_option maxRecDepth 20000 in
theorem zm_X1_counted : zM yX1_counted cX1_counted 6 (some FieldType.int) 3 := ⟨zmem (n := 332) rfl rfl, by decide, by decide, by decide +kernel⟩
set_option maxRecDepth 20000 in
theorem zi_X1_counted : zIV yX1_counted := ⟨zmem (n := 331) rfl rfl, zmem (n := 16) rfl rfl, zini_X1⟩
set_option maxRecDepth 20000 in
theorem zm_X1_calledAround : zM yX1_calledAround cX1_calledAround 3 (some FieldType.boolean) 2 := ⟨zmem (n := 442) rfl rfl, by decide, by decide, by decide +kernel⟩
set_option maxRecDepth 20000 in
theorem zi_X1_calledAround : zIV yX1_calledAround := ⟨zmem (n := 441) rfl rfl, zmem (n := 24) rfl rfl, zini_X1⟩
set_option maxRecDepth 20000 in
theorem zm_X1_isSilent : zM yX1_isSilent cX1_isSilent 1 (some FieldType.boolean) 0 := ⟨zmem (n := 340) rfl rfl, by decide, by decide, by decide +kernel⟩
set_option maxRecDepth 20000 in
theorem zi_X1_isSilent : zIV yX1_isSilent := ⟨zmem (n := 339) rfl rfl, zmem (n := 17) rfl rfl, zini_X1⟩
set_option maxRecDepth 20000 in
theorem zm_X2_init : zM yX2_init cX2_init 5 none 4 := ⟨zmem (n := 364) rfl rfl, by decide, by decide, by decide +kernel⟩
set_option maxRecDepth 20000 in
theorem zi_X2_init : zII yX2_init := ⟨zmem (n := 363) rfl rfl, rfl, zini_X2⟩
set_option maxRecDepth 20000 in
theorem zm_X3_init : zM yX3_init cX3_init 1 none 0 := ⟨zmem (n := 107) rfl rfl, by decide, by decide, by decide +kernel⟩
set_option maxRecDepth 20000 in
theorem zi_X3_init : zII yX3_init := ⟨zmem (n := 106) rfl rfl, rfl, zini_X3⟩
set_option maxRecDepth 20000 in
theorem zm_X3_has : zM yX3_has cX3_has 2 (some FieldType.boolean) 1 := ⟨zmem (n := 251) rfl rfl, by decide, by decide, by decide +kernel⟩
set_option maxRecDepth 20000 in
theorem zi_X3_has : zIV yX3_has := ⟨zmem (n := 250) rfl rfl, zmem (n := 8) rfl rfl, zini_X3⟩
set_option maxRecDepth 20000 in
theorem zm_X3_addCall : zM yX3_addCall cX3_addCall 4 (some FieldType.int) 2 := ⟨zmem (n := 239) rfl rfl, by decide, by decide, by decide +kernel⟩
set_option maxRecDepth 20000 in
theorem zi_X3_addCall : zIV yX3_addCall := ⟨zmem (n := 238) rfl rfl, zmem (n := 6) rfl rfl, zini_X3⟩
set_option maxRecDepth 20000 in
theorem zm_X3_addWrap : zM yX3_addWrap cX3_addWrap 5 (some FieldType.int) 3 := ⟨zmem (n := 256) rfl rfl, by decide, by decide, by decide +kernel⟩
set_option maxRecDepth 20000 in
theorem zi_X3_addWrap : zIV yX3_addWrap := ⟨zmem (n := 255) rfl rfl, zmem (n := 9) rfl rfl, zini_X3⟩
set_option maxRecDepth 20000 in
theorem zm_X3_addSplit : zM yX3_addSplit cX3_addSplit 6 (some FieldType.int) 4 := ⟨zmem (n := 264) rfl rfl, by decide, by decide, by decide +kernel⟩
set_option maxRecDepth 20000 in
theorem zi_X3_addSplit : zIV yX3_addSplit := ⟨zmem (n := 263) rfl rfl, zmem (n := 10) rfl rfl, zini_X3⟩
set_option maxRecDepth 20000 in
theorem zm_X3_added : zM yX3_added cX3_added 6 (some FieldType.int) 5 := ⟨zmem (n := 243) rfl rfl, by decide, by decide, by decide +kernel⟩
set_option maxRecDepth 20000 in
theorem zi_X3_added : zIV yX3_added := ⟨zmem (n := 242) rfl rfl, zmem (n := 7) rfl rfl, zini_X3⟩
set_option maxRecDepth 20000 in
theorem zm_X3_seenBy : zM yX3_seenBy cX3_seenBy 6 (some FieldType.int) 2 := ⟨zmem (n := 287) rfl rfl, by decide, by decide, by decide +kernel⟩
set_option maxRecDepth 20000 in
theorem zi_X3_seenBy : zIV yX3_seenBy := ⟨zmem (n := 286) rfl rfl, zmem (n := 12) rfl rfl, zini_X3⟩
set_option maxRecDepth 20000 in
theorem zm_X3_used : zM yX3_used cX3_used 4 (some FieldType.int) 1 := ⟨zmem (n := 295) rfl rfl, by decide, by decide, by decide +kernel⟩
set_option maxRecDepth 20000 in
theorem zi_X3_used : zIV yX3_used := ⟨zmem (n := 294) rfl rfl, zmem (n := 13) rfl rfl, zini_X3⟩
set_option maxRecDepth 20000 in
theorem zm_X3_someSeesOnly : zM yX3_someSeesOnly cX3_someSeesOnly 5 (some FieldType.boolean) 2 := ⟨zmem (n := 356) rfl rfl, by decide, by decide, by decide +kernel⟩
set_option maxRecDepth 20000 in
theorem zi_X3_someSeesOnly : zIV yX3_someSeesOnly := ⟨zmem (n := 355) rfl rfl, zmem (n := 19) rfl rfl, zini_X3⟩
set_option maxRecDepth 20000 in
theorem zm_X3_stepsOf : zM yX3_stepsOf cX3_stepsOf 2 (some FieldType.int) 1 := ⟨zmem (n := 276) rfl rfl, by decide, by decide, by decide +kernel⟩
set_option maxRecDepth 20000 in
theorem zi_X3_stepsOf : zIV yX3_stepsOf := ⟨zmem (n := 275) rfl rfl, zmem (n := 11) rfl rfl, zini_X3⟩
set_option maxRecDepth 20000 in
theorem zm_X3_steps : zM yX3_steps cX3_steps 6 (some FieldType.int) 4 := ⟨zmem (n := 279) rfl rfl, by decide, by decide, by decide +kernel⟩
set_option maxRecDepth 20000 in
theorem zi_X3_steps : zIS yX3_steps := ⟨zmem (n := 278) rfl rfl, zini_X3⟩
set_option maxRecDepth 20000 in
theorem zm_X3_turned : zM yX3_turned cX3_turned 2 (some FieldType.int) 2 := ⟨zmem (n := 283) rfl rfl, by decide, by decide, by decide +kernel⟩
set_option maxRecDepth 20000 in
theorem zi_X3_turned : zIS yX3_turned := ⟨zmem (n := 282) rfl rfl, zini_X3⟩
set_option maxRecDepth 20000 in
theorem zm_X4_init : zM yX4_init cX4_init 2 none 0 := ⟨zmem (n := 58) rfl rfl, by decide, by decide, by decide +kernel⟩
set_option maxRecDepth 20000 in
theorem zi_X4_init : zII yX4_init := ⟨zmem (n := 57) rfl rfl, rfl, zini_X4⟩
set_option maxRecDepth 20000 in
theorem zm_X4_version : zM yX4_version cX4_version 5 (some FieldType.int) 0 := ⟨zmem (n := 185) rfl rfl, by decide, by decide, by decide +kernel⟩
set_option maxRecDepth 20000 in
theorem zi_X4_version : zIV yX4_version := ⟨zmem (n := 183) rfl rfl, zmem (n := 184) rfl rfl, zini_X4⟩
set_option maxRecDepth 20000 in
theorem zm_X4_answer : zM yX4_answer cX4_answer 7 (some FieldType.int) 4 := ⟨zmem (n := 196) rfl rfl, by decide, by decide, by decide +kernel⟩
set_option maxRecDepth 20000 in
theorem zi_X4_answer : zIV yX4_answer := ⟨zmem (n := 194) rfl rfl, zmem (n := 195) rfl rfl, zini_X4⟩
set_option maxRecDepth 20000 in
theorem zm_X4_differ : zM yX4_differ cX4_differ 5 (some FieldType.int) 3 := ⟨zmem (n := 218) rfl rfl, by decide, by decide, by decide +kernel⟩
set_option maxRecDepth 20000 in
theorem zi_X4_differ : zIV yX4_differ := ⟨zmem (n := 216) rfl rfl, zmem (n := 217) rfl rfl, zini_X4⟩
set_option maxRecDepth 20000 in
theorem zm_X4_goes : zM yX4_goes cX4_goes 5 (some FieldType.int) 2 := ⟨zmem (n := 227) rfl rfl, by decide, by decide, by decide +kernel⟩
set_option maxRecDepth 20000 in
theorem zi_X4_goes : zIV yX4_goes := ⟨zmem (n := 225) rfl rfl, zmem (n := 226) rfl rfl, zini_X4⟩
set_option maxRecDepth 20000 in
theorem zm_X4_call : zM yX4_call cX4_call 5 (some FieldType.int) 3 := ⟨zmem (n := 235) rfl rfl, by decide, by decide, by decide +kernel⟩
set_option maxRecDepth 20000 in
theorem zi_X4_call : zIV yX4_call := ⟨zmem (n := 233) rfl rfl, zmem (n := 234) rfl rfl, zini_X4⟩
set_option maxRecDepth 20000 in
theorem zm_X4_wrap : zM yX4_wrap cX4_wrap 6 (some FieldType.int) 4 := ⟨zmem (n := 247) rfl rfl, by decide, by decide, by decide +kernel⟩
set_option maxRecDepth 20000 in
theorem zi_X4_wrap : zIV yX4_wrap := ⟨zmem (n := 245) rfl rfl, zmem (n := 246) rfl rfl, zini_X4⟩
set_option maxRecDepth 20000 in
theorem zm_X4_split : zM yX4_split cX4_split 7 (some FieldType.int) 5 := ⟨zmem (n := 260) rfl rfl, by decide, by decide, by decide +kernel⟩
set_option maxRecDepth 20000 in
theorem zi_X4_split : zIV yX4_split := ⟨zmem (n := 258) rfl rfl, zmem (n := 259) rfl rfl, zini_X4⟩
set_option maxRecDepth 20000 in
theorem zm_X4_clear : zM yX4_clear cX4_clear 4 (some FieldType.int) 1 := ⟨zmem (n := 268) rfl rfl, by decide, by decide, by decide +kernel⟩
set_option maxRecDepth 20000 in
theorem zi_X4_clear : zIV yX4_clear := ⟨zmem (n := 266) rfl rfl, zmem (n := 267) rfl rfl, zini_X4⟩
set_option maxRecDepth 20000 in
theorem zm_X4_sees : zM yX4_sees cX4_sees 5 (some FieldType.int) 3 := ⟨zmem (n := 272) rfl rfl, by decide, by decide, by decide +kernel⟩
set_option maxRecDepth 20000 in
theorem zi_X4_sees : zIV yX4_sees := ⟨zmem (n := 270) rfl rfl, zmem (n := 271) rfl rfl, zini_X4⟩
set_option maxRecDepth 20000 in
theorem zm_X4_uses : zM yX4_uses cX4_uses 4 (some FieldType.int) 2 := ⟨zmem (n := 291) rfl rfl, by decide, by decide, by decide +kernel⟩
set_option maxRecDepth 20000 in
theorem zi_X4_uses : zIV yX4_uses := ⟨zmem (n := 289) rfl rfl, zmem (n := 290) rfl rfl, zini_X4⟩
set_option maxRecDepth 20000 in
theorem zm_X4_shape : zM yX4_shape cX4_shape 5 (some FieldType.int) 2 := ⟨zmem (n := 300) rfl rfl, by decide, by decide, by decide +kernel⟩
set_option maxRecDepth 20000 in
theorem zi_X4_shape : zIV yX4_shape := ⟨zmem (n := 298) rfl rfl, zmem (n := 299) rfl rfl, zini_X4⟩
set_option maxRecDepth 20000 in
theorem zm_X4_count : zM yX4_count cX4_count 8 (some FieldType.int) 5 := ⟨zmem (n := 310) rfl rfl, by decide, by decide, by decide +kernel⟩
set_option maxRecDepth 20000 in
theorem zi_X4_count : zIV yX4_count := ⟨zmem (n := 308) rfl rfl, zmem (n := 309) rfl rfl, zini_X4⟩
set_option maxRecDepth 20000 in
theorem zm_X4_sum : zM yX4_sum cX4_sum 6 (some FieldType.int) 4 := ⟨zmem (n := 325) rfl rfl, by decide, by decide, by decide +kernel⟩
set_option maxRecDepth 20000 in
theorem zi_X4_sum : zIV yX4_sum := ⟨zmem (n := 323) rfl rfl, zmem (n := 324) rfl rfl, zini_X4⟩
set_option maxRecDepth 20000 in
theorem zm_X4_silent : zM yX4_silent cX4_silent 3 (some FieldType.int) 1 := ⟨zmem (n := 336) rfl rfl, by decide, by decide, by decide +kernel⟩
set_option maxRecDepth 20000 in
theorem zi_X4_silent : zIV yX4_silent := ⟨zmem (n := 334) rfl rfl, zmem (n := 335) rfl rfl, zini_X4⟩
set_option maxRecDepth 20000 in
theorem zm_X4_most : zM yX4_most cX4_most 9 (some FieldType.int) 3 := ⟨zmem (n := 344) rfl rfl, by decide, by decide, by decide +kernel⟩
set_option maxRecDepth 20000 in
theorem zi_X4_most : zIV yX4_most := ⟨zmem (n := 342) rfl rfl, zmem (n := 343) rfl rfl, zini_X4⟩
set_option maxRecDepth 20000 in
theorem zm_X4_harm : zM yX4_harm cX4_harm 7 (some FieldType.int) 3 := ⟨zmem (n := 352) rfl rfl, by decide, by decide, by decide +kernel⟩
set_option maxRecDepth 20000 in
theorem zi_X4_harm : zIV yX4_harm := ⟨zmem (n := 350) rfl rfl, zmem (n := 351) rfl rfl, zini_X4⟩
set_option maxRecDepth 20000 in
theorem zm_X4_rule : zM yX4_rule cX4_rule 5 (some FieldType.int) 4 := ⟨zmem (n := 360) rfl rfl, by decide, by decide, by decide +kernel⟩
set_option maxRecDepth 20000 in
theorem zi_X4_rule : zIV yX4_rule := ⟨zmem (n := 358) rfl rfl, zmem (n := 359) rfl rfl, zini_X4⟩
set_option maxRecDepth 20000 in
theorem zm_X4_holds : zM yX4_holds cX4_holds 5 (some FieldType.int) 3 := ⟨zmem (n := 386) rfl rfl, by decide, by decide, by decide +kernel⟩
set_option maxRecDepth 20000 in
theorem zi_X4_holds : zIV yX4_holds := ⟨zmem (n := 384) rfl rfl, zmem (n := 385) rfl rfl, zini_X4⟩
set_option maxRecDepth 20000 in
theorem zm_X4_clash : zM yX4_clash cX4_clash 6 (some FieldType.int) 2 := ⟨zmem (n := 398) rfl rfl, by decide, by decide, by decide +kernel⟩
set_option maxRecDepth 20000 in
theorem zi_X4_clash : zIV yX4_clash := ⟨zmem (n := 396) rfl rfl, zmem (n := 397) rfl rfl, zini_X4⟩
set_option maxRecDepth 20000 in
theorem zm_X4_left : zM yX4_left cX4_left 9 (some FieldType.int) 3 := ⟨zmem (n := 402) rfl rfl, by decide, by decide, by decide +kernel⟩
set_option maxRecDepth 20000 in
theorem zi_X4_left : zIV yX4_left := ⟨zmem (n := 400) rfl rfl, zmem (n := 401) rfl rfl, zini_X4⟩
set_option maxRecDepth 20000 in
theorem zm_X4_days : zM yX4_days cX4_days 2 (some FieldType.int) 1 := ⟨zmem (n := 406) rfl rfl, by decide, by decide, by decide +kernel⟩
set_option maxRecDepth 20000 in
theorem zi_X4_days : zIV yX4_days := ⟨zmem (n := 404) rfl rfl, zmem (n := 405) rfl rfl, zini_X4⟩
set_option maxRecDepth 20000 in
theorem zm_X4_promise : zM yX4_promise cX4_promise 6 (some FieldType.int) 3 := ⟨zmem (n := 410) rfl rfl, by decide, by decide, by decide +kernel⟩
set_option maxRecDepth 20000 in
theorem zi_X4_promise : zIV yX4_promise := ⟨zmem (n := 408) rfl rfl, zmem (n := 409) rfl rfl, zini_X4⟩
set_option maxRecDepth 20000 in
theorem zm_X4_shut : zM yX4_shut cX4_shut 4 (some FieldType.int) 2 := ⟨zmem (n := 414) rfl rfl, by decide, by decide, by decide +kernel⟩
set_option maxRecDepth 20000 in
theorem zi_X4_shut : zIV yX4_shut := ⟨zmem (n := 412) rfl rfl, zmem (n := 413) rfl rfl, zini_X4⟩
set_option maxRecDepth 20000 in
theorem zm_X4_open : zM yX4_open cX4_open 4 (some FieldType.int) 1 := ⟨zmem (n := 429) rfl rfl, by decide, by decide, by decide +kernel⟩
set_option maxRecDepth 20000 in
theorem zi_X4_open : zIV yX4_open := ⟨zmem (n := 427) rfl rfl, zmem (n := 428) rfl rfl, zini_X4⟩
set_option maxRecDepth 20000 in
theorem zm_X4_about : zM yX4_about cX4_about 4 (some FieldType.int) 2 := ⟨zmem (n := 433) rfl rfl, by decide, by decide, by decide +kernel⟩
set_option maxRecDepth 20000 in
theorem zi_X4_about : zIV yX4_about := ⟨zmem (n := 431) rfl rfl, zmem (n := 432) rfl rfl, zini_X4⟩
set_option maxRecDepth 20000 in
theorem zm_X4_harmed : zM yX4_harmed cX4_harmed 8 (some FieldType.int) 2 := ⟨zmem (n := 438) rfl rfl, by decide, by decide, by decide +kernel⟩
set_option maxRecDepth 20000 in
theorem zi_X4_harmed : zIV yX4_harmed := ⟨zmem (n := 436) rfl rfl, zmem (n := 437) rfl rfl, zini_X4⟩
set_option maxRecDepth 20000 in
theorem zm_X4_ready : zM yX4_ready cX4_ready 4 (some FieldType.int) 1 := ⟨zmem (n := 451) rfl rfl, by decide, by decide, by decide +kernel⟩
set_option maxRecDepth 20000 in
theorem zi_X4_ready : zIV yX4_ready := ⟨zmem (n := 449) rfl rfl, zmem (n := 450) rfl rfl, zini_X4⟩
set_option maxRecDepth 20000 in
theorem zm_X4_set : zM yX4_set cX4_set 5 (some FieldType.int) 3 := ⟨zmem (n := 456) rfl rfl, by decide, by decide, by decide +kernel⟩
set_option maxRecDepth 20000 in
theorem zi_X4_set : zIV yX4_set := ⟨zmem (n := 454) rfl rfl, zmem (n := 455) rfl rfl, zini_X4⟩
set_option maxRecDepth 20000 in
theorem zm_X4_plan : zM yX4_plan cX4_plan 6 (some FieldType.int) 1 := ⟨zmem (n := 466) rfl rfl, by decide, by decide, by decide +kernel⟩
set_option maxRecDepth 20000 in
theorem zi_X4_plan : zIV yX4_plan := ⟨zmem (n := 464) rfl rfl, zmem (n := 465) rfl rfl, zini_X4⟩
set_option maxRecDepth 20000 in
theorem zm_X4_told : zM yX4_told cX4_told 2 (some FieldType.int) 1 := ⟨zmem (n := 478) rfl rfl, by decide, by decide, by decide +kernel⟩
set_option maxRecDepth 20000 in
theorem zi_X4_told : zIV yX4_told := ⟨zmem (n := 476) rfl rfl, zmem (n := 477) rfl rfl, zini_X4⟩
set_option maxRecDepth 20000 in
theorem zm_X4_trace : zM yX4_trace cX4_trace 1 (some FieldType.long) 0 := ⟨zmem (n := 486) rfl rfl, by decide, by decide, by decide +kernel⟩
set_option maxRecDepth 20000 in
theorem zi_X4_trace : zIV yX4_trace := ⟨zmem (n := 484) rfl rfl, zmem (n := 485) rfl rfl, zini_X4⟩
set_option maxRecDepth 20000 in
theorem zm_X4_isWithin : zM yX4_isWithin cX4_isWithin 2 (some FieldType.boolean) 2 := ⟨zmem (n := 206) rfl rfl, by decide, by decide, by decide +kernel⟩
set_option maxRecDepth 20000 in
theorem zi_X4_isWithin : zIS yX4_isWithin := ⟨zmem (n := 205) rfl rfl, zini_X4⟩
set_option maxRecDepth 20000 in
theorem zm_X4_isFace : zM yX4_isFace cX4_isFace 1 (some FieldType.boolean) 1 := ⟨zmem (n := 203) rfl rfl, by decide, by decide, by decide +kernel⟩
set_option maxRecDepth 20000 in
theorem zi_X4_isFace : zIS yX4_isFace := ⟨zmem (n := 202) rfl rfl, zini_X4⟩
set_option maxRecDepth 20000 in
theorem zm_X4_isDay : zM yX4_isDay cX4_isDay 1 (some FieldType.boolean) 1 := ⟨zmem (n := 313) rfl rfl, by decide, by decide, by decide +kernel⟩
set_option maxRecDepth 20000 in
theorem zi_X4_isDay : zIS yX4_isDay := ⟨zmem (n := 312) rfl rfl, zini_X4⟩
set_option maxRecDepth 20000 in
theorem zm_X4_isSpan : zM yX4_isSpan cX4_isSpan 2 (some FieldType.boolean) 2 := ⟨zmem (n := 328) rfl rfl, by decide, by decide, by decide +kernel⟩
set_option maxRecDepth 20000 in
theorem zi_X4_isSpan : zIS yX4_isSpan := ⟨zmem (n := 327) rfl rfl, zini_X4⟩
set_option maxRecDepth 20000 in
theorem zm_X4_isVersion : zM yX4_isVersion cX4_isVersion 2 (some FieldType.boolean) 1 := ⟨zmem (n := 210) rfl rfl, by decide, by decide, by decide +kernel⟩
set_option maxRecDepth 20000 in
theorem zi_X4_isVersion : zIV yX4_isVersion := ⟨zmem (n := 209) rfl rfl, zmem (n := 2) rfl rfl, zini_X4⟩
set_option maxRecDepth 20000 in
theorem zm_X4_doorAt : zM yX4_doorAt cX4_doorAt 2 (some (FieldType.object "WhoCalls$Door")) 1 := ⟨zmem (n := 200) rfl rfl, by decide, by decide, by decide +kernel⟩
set_option maxRecDepth 20000 in
theorem zi_X4_doorAt : zIV yX4_doorAt := ⟨zmem (n := 199) rfl rfl, zmem (n := 1) rfl rfl, zini_X4⟩
set_option maxRecDepth 20000 in
theorem zm_X4_houseAt : zM yX4_houseAt cX4_houseAt 2 (some (FieldType.object "WhoCalls$House")) 1 := ⟨zmem (n := 231) rfl rfl, by decide, by decide, by decide +kernel⟩
set_option maxRecDepth 20000 in
theorem zi_X4_houseAt : zIV yX4_houseAt := ⟨zmem (n := 230) rfl rfl, zmem (n := 5) rfl rfl, zini_X4⟩
set_option maxRecDepth 20000 in
theorem zm_X4_ruleAt : zM yX4_ruleAt cX4_ruleAt 2 (some (FieldType.object "WhoCalls$Rule")) 1 := ⟨zmem (n := 390) rfl rfl, by decide, by decide, by decide +kernel⟩
set_option maxRecDepth 20000 in
theorem zi_X4_ruleAt : zIV yX4_ruleAt := ⟨zmem (n := 389) rfl rfl, zmem (n := 20) rfl rfl, zini_X4⟩
set_option maxRecDepth 20000 in
theorem zm_X4_isHeld : zM yX4_isHeld cX4_isHeld 8 (some FieldType.boolean) 3 := ⟨zmem (n := 394) rfl rfl, by decide, by decide, by decide +kernel⟩
set_option maxRecDepth 20000 in
theorem zi_X4_isHeld : zIV yX4_isHeld := ⟨zmem (n := 393) rfl rfl, zmem (n := 21) rfl rfl, zini_X4⟩
set_option maxRecDepth 20000 in
theorem zm_X4_silentHouses : zM yX4_silentHouses cX4_silentHouses 6 (some FieldType.int) 0 := ⟨zmem (n := 348) rfl rfl, by decide, by decide, by decide +kernel⟩
set_option maxRecDepth 20000 in
theorem zi_X4_silentHouses : zIV yX4_silentHouses := ⟨zmem (n := 347) rfl rfl, zmem (n := 18) rfl rfl, zini_X4⟩
set_option maxRecDepth 20000 in
theorem zm_X4_shutDoors : zM yX4_shutDoors cX4_shutDoors 6 (some FieldType.int) 0 := ⟨zmem (n := 482) rfl rfl, by decide, by decide, by decide +kernel⟩
set_option maxRecDepth 20000 in
theorem zi_X4_shutDoors : zIV yX4_shutDoors := ⟨zmem (n := 481) rfl rfl, zmem (n := 27) rfl rfl, zini_X4⟩
set_option maxRecDepth 20000 in
theorem zm_X4_becomeCost : zM yX4_becomeCost cX4_becomeCost 3 (some FieldType.int) 2 := ⟨zmem (n := 459) rfl rfl, by decide, by decide, by decide +kernel⟩
set_option maxRecDepth 20000 in
theorem zi_X4_becomeCost : zIS yX4_becomeCost := ⟨zmem (n := 458) rfl rfl, zini_X4⟩
set_option maxRecDepth 20000 in
theorem zm_X4_becomeHours : zM yX4_becomeHours cX4_becomeHours 3 (some FieldType.int) 2 := ⟨zmem (n := 462) rfl rfl, by decide, by decide, by decide +kernel⟩
set_option maxRecDepth 20000 in
theorem zi_X4_becomeHours : zIS yX4_becomeHours := ⟨zmem (n := 461) rfl rfl, zini_X4⟩
set_option maxRecDepth 20000 in
theorem zm_X4_hoursWithout : zM yX4_hoursWithout cX4_hoursWithout 7 (some FieldType.int) 1 := ⟨zmem (n := 470) rfl rfl, by decide, by decide, by decide +kernel⟩
set_option maxRecDepth 20000 in
theorem zi_X4_hoursWithout : zIV yX4_hoursWithout := ⟨zmem (n := 469) rfl rfl, zmem (n := 25) rfl rfl, zini_X4⟩
set_option maxRecDepth 20000 in
theorem zm_X4_isKept : zM yX4_isKept cX4_isKept 3 (some FieldType.boolean) 2 := ⟨zmem (n := 474) rfl rfl, by decide, by decide, by decide +kernel⟩
set_option maxRecDepth 20000 in
theorem zi_X4_isKept : zIV yX4_isKept := ⟨zmem (n := 473) rfl rfl, zmem (n := 26) rfl rfl, zini_X4⟩
set_option maxRecDepth 20000 in
theorem zm_X5_init : zM yX5_init cX5_init 1 none 0 := ⟨zmem (n := 491) rfl rfl, by decide, by decide, by decide +kernel⟩
set_option maxRecDepth 20000 in
theorem zi_X5_init : zII yX5_init := ⟨zmem (n := 490) rfl rfl, rfl, zini_X5⟩
set_option maxRecDepth 20000 in
theorem zm_X5_in : zM yX5_in cX5_in 3 (some FieldType.boolean) 3 := ⟨zmem (n := 600) rfl rfl, by decide, by decide, by decide +kernel⟩
set_option maxRecDepth 20000 in
theorem zi_X5_in : zIS yX5_in := ⟨zmem (n := 599) rfl rfl, zini_X5⟩
set_option maxRecDepth 20000 in
theorem zm_X5_isFace : zM yX5_isFace cX5_isFace 1 (some FieldType.boolean) 1 := ⟨zmem (n := 597) rfl rfl, by decide, by decide, by decide +kernel⟩
set_option maxRecDepth 20000 in
theorem zi_X5_isFace : zIS yX5_isFace := ⟨zmem (n := 596) rfl rfl, zini_X5⟩
set_option maxRecDepth 20000 in
theorem zm_X5_isHouse : zM yX5_isHouse cX5_isHouse 1 (some FieldType.boolean) 1 := ⟨zmem (n := 619) rfl rfl, by decide, by decide, by decide +kernel⟩
set_option maxRecDepth 20000 in
theorem zi_X5_isHouse : zIS yX5_isHouse := ⟨zmem (n := 618) rfl rfl, zini_X5⟩
set_option maxRecDepth 20000 in
theorem zm_X5_isVersion : zM yX5_isVersion cX5_isVersion 2 (some FieldType.boolean) 1 := ⟨zmem (n := 604) rfl rfl, by decide, by decide, by decide +kernel⟩
set_option maxRecDepth 20000 in
theorem zi_X5_isVersion : zIV yX5_isVersion := ⟨zmem (n := 603) rfl rfl, zmem (n := 28) rfl rfl, zini_X5⟩
set_option maxRecDepth 20000 in
theorem zm_X5_version : zM yX5_version cX5_version 3 (some FieldType.int) 0 := ⟨zmem (n := 590) rfl rfl, by decide, by decide, by decide +kernel⟩
set_option maxRecDepth 20000 in
theorem zi_X5_version : zIV yX5_version := ⟨zmem (n := 588) rfl rfl, zmem (n := 589) rfl rfl, zini_X5⟩
set_option maxRecDepth 20000 in
theorem zm_X5_shown : zM yX5_shown cX5_shown 1 (some FieldType.int) 1 := ⟨zmem (n := 745) rfl rfl, by decide, by decide, by decide +kernel⟩
set_option maxRecDepth 20000 in
theorem zi_X5_shown : zIS yX5_shown := ⟨zmem (n := 744) rfl rfl, zini_X5⟩
set_option maxRecDepth 20000 in
theorem zm_X5_answer : zM yX5_answer cX5_answer 7 (some FieldType.int) 4 := ⟨zmem (n := 594) rfl rfl, by decide, by decide, by decide +kernel⟩
set_option maxRecDepth 20000 in
theorem zi_X5_answer : zIV yX5_answer := ⟨zmem (n := 592) rfl rfl, zmem (n := 593) rfl rfl, zini_X5⟩
set_option maxRecDepth 20000 in
theorem zm_X5_differs : zM yX5_differs cX5_differs 6 (some FieldType.int) 3 := ⟨zmem (n := 612) rfl rfl, by decide, by decide, by decide +kernel⟩
set_option maxRecDepth 20000 in
theorem zi_X5_differs : zIV yX5_differs := ⟨zmem (n := 611) rfl rfl, zmem (n := 29) rfl rfl, zini_X5⟩
set_option maxRecDepth 20000 in
theorem zm_X5_differ : zM yX5_differ cX5_differ 4 (some FieldType.int) 3 := ⟨zmem (n := 608) rfl rfl, by decide, by decide, by decide +kernel⟩
set_option maxRecDepth 20000 in
theorem zi_X5_differ : zIV yX5_differ := ⟨zmem (n := 606) rfl rfl, zmem (n := 607) rfl rfl, zini_X5⟩
set_option maxRecDepth 20000 in
theorem zm_X5_goes : zM yX5_goes cX5_goes 4 (some FieldType.int) 2 := ⟨zmem (n := 616) rfl rfl, by decide, by decide, by decide +kernel⟩
set_option maxRecDepth 20000 in
theorem zi_X5_goes : zIV yX5_goes := ⟨zmem (n := 614) rfl rfl, zmem (n := 615) rfl rfl, zini_X5⟩
set_option maxRecDepth 20000 in
theorem zm_X5_isSet : zM yX5_isSet cX5_isSet 1 (some FieldType.boolean) 1 := ⟨zmem (n := 626) rfl rfl, by decide, by decide, by decide +kernel⟩
set_option maxRecDepth 20000 in
theorem zi_X5_isSet : zIS yX5_isSet := ⟨zmem (n := 625) rfl rfl, zini_X5⟩
set_option maxRecDepth 20000 in
theorem zm_X5_isLine : zM yX5_isLine cX5_isLine 3 (some FieldType.boolean) 2 := ⟨zmem (n := 638) rfl rfl, by decide, by decide, by decide +kernel⟩
set_option maxRecDepth 20000 in
theorem zi_X5_isLine : zIV yX5_isLine := ⟨zmem (n := 637) rfl rfl, zmem (n := 31) rfl rfl, zini_X5⟩
set_option maxRecDepth 20000 in
theorem zm_X5_comes : zM yX5_comes cX5_comes 8 (some FieldType.int) 6 := ⟨zmem (n := 630) rfl rfl, by decide, by decide, by decide +kernel⟩
set_option maxRecDepth 20000 in
theorem zi_X5_comes : zIV yX5_comes := ⟨zmem (n := 629) rfl rfl, zmem (n := 30) rfl rfl, zini_X5⟩
set_option maxRecDepth 20000 in
theorem zm_X5_call : zM yX5_call cX5_call 4 (some FieldType.int) 3 := ⟨zmem (n := 623) rfl rfl, by decide, by decide, by decide +kernel⟩
set_option maxRecDepth 20000 in
theorem zi_X5_call : zIV yX5_call := ⟨zmem (n := 621) rfl rfl, zmem (n := 622) rfl rfl, zini_X5⟩
set_option maxRecDepth 20000 in
theorem zm_X5_wrap : zM yX5_wrap cX5_wrap 5 (some FieldType.int) 4 := ⟨zmem (n := 634) rfl rfl, by decide, by decide, by decide +kernel⟩
set_option maxRecDepth 20000 in
theorem zi_X5_wrap : zIV yX5_wrap := ⟨zmem (n := 632) rfl rfl, zmem (n := 633) rfl rfl, zini_X5⟩
set_option maxRecDepth 20000 in
theorem zm_X5_split : zM yX5_split cX5_split 6 (some FieldType.int) 5 := ⟨zmem (n := 642) rfl rfl, by decide, by decide, by decide +kernel⟩
set_option maxRecDepth 20000 in
theorem zi_X5_split : zIV yX5_split := ⟨zmem (n := 640) rfl rfl, zmem (n := 641) rfl rfl, zini_X5⟩
set_option maxRecDepth 20000 in
theorem zm_X5_clear : zM yX5_clear cX5_clear 3 (some FieldType.int) 1 := ⟨zmem (n := 646) rfl rfl, by decide, by decide, by decide +kernel⟩
set_option maxRecDepth 20000 in
theorem zi_X5_clear : zIV yX5_clear := ⟨zmem (n := 644) rfl rfl, zmem (n := 645) rfl rfl, zini_X5⟩
set_option maxRecDepth 20000 in
theorem zm_X5_turned : zM yX5_turned cX5_turned 2 (some FieldType.int) 2 := ⟨zmem (n := 662) rfl rfl, by decide, by decide, by decide +kernel⟩
set_option maxRecDepth 20000 in
theorem zi_X5_turned : zIS yX5_turned := ⟨zmem (n := 661) rfl rfl, zini_X5⟩
set_option maxRecDepth 20000 in
theorem zm_X5_piles : zM yX5_piles cX5_piles 3 none 2 := ⟨zmem (n := 658) rfl rfl, by decide, by decide, by decide +kernel⟩
set_option maxRecDepth 20000 in
theorem zi_X5_piles : zIV yX5_piles := ⟨zmem (n := 657) rfl rfl, zmem (n := 33) rfl rfl, zini_X5⟩
set_option maxRecDepth 20000 in
theorem zm_X5_follow : zM yX5_follow cX5_follow 6 none 2 := ⟨zmem (n := 654) rfl rfl, by decide, by decide, by decide +kernel⟩
set_option maxRecDepth 20000 in
theorem zi_X5_follow : zIV yX5_follow := ⟨zmem (n := 653) rfl rfl, zmem (n := 32) rfl rfl, zini_X5⟩
set_option maxRecDepth 20000 in
theorem zm_X5_sees : zM yX5_sees cX5_sees 4 (some FieldType.int) 3 := ⟨zmem (n := 650) rfl rfl, by decide, by decide, by decide +kernel⟩
set_option maxRecDepth 20000 in
theorem zi_X5_sees : zIV yX5_sees := ⟨zmem (n := 648) rfl rfl, zmem (n := 649) rfl rfl, zini_X5⟩
set_option maxRecDepth 20000 in
theorem zm_X5_usesOf : zM yX5_usesOf cX5_usesOf 5 (some FieldType.int) 2 := ⟨zmem (n := 671) rfl rfl, by decide, by decide, by decide +kernel⟩
set_option maxRecDepth 20000 in
theorem zi_X5_usesOf : zIV yX5_usesOf := ⟨zmem (n := 670) rfl rfl, zmem (n := 34) rfl rfl, zini_X5⟩
set_option maxRecDepth 20000 in
theorem zm_X5_uses : zM yX5_uses cX5_uses 3 (some FieldType.int) 2 := ⟨zmem (n := 667) rfl rfl, by decide, by decide, by decide +kernel⟩
set_option maxRecDepth 20000 in
theorem zi_X5_uses : zIV yX5_uses := ⟨zmem (n := 665) rfl rfl, zmem (n := 666) rfl rfl, zini_X5⟩
set_option maxRecDepth 20000 in
theorem zm_X5_shape : zM yX5_shape cX5_shape 4 (some FieldType.int) 2 := ⟨zmem (n := 675) rfl rfl, by decide, by decide, by decide +kernel⟩
set_option maxRecDepth 20000 in
theorem zi_X5_shape : zIV yX5_shape := ⟨zmem (n := 673) rfl rfl, zmem (n := 674) rfl rfl, zini_X5⟩
set_option maxRecDepth 20000 in
theorem zm_X5_isShut : zM yX5_isShut cX5_isShut 2 (some FieldType.boolean) 1 := ⟨zmem (n := 683) rfl rfl, by decide, by decide, by decide +kernel⟩
set_option maxRecDepth 20000 in
theorem zi_X5_isShut : zIV yX5_isShut := ⟨zmem (n := 682) rfl rfl, zmem (n := 35) rfl rfl, zini_X5⟩
set_option maxRecDepth 20000 in
theorem zm_X5_count : zM yX5_count cX5_count 6 (some FieldType.int) 5 := ⟨zmem (n := 679) rfl rfl, by decide, by decide, by decide +kernel⟩
set_option maxRecDepth 20000 in
theorem zi_X5_count : zIV yX5_count := ⟨zmem (n := 677) rfl rfl, zmem (n := 678) rfl rfl, zini_X5⟩
set_option maxRecDepth 20000 in
theorem zm_X5_isSpan : zM yX5_isSpan cX5_isSpan 2 (some FieldType.boolean) 2 := ⟨zmem (n := 690) rfl rfl, by decide, by decide, by decide +kernel⟩
set_option maxRecDepth 20000 in
theorem zi_X5_isSpan : zIS yX5_isSpan := ⟨zmem (n := 689) rfl rfl, zini_X5⟩
set_option maxRecDepth 20000 in
theorem zm_X5_sumOf : zM yX5_sumOf cX5_sumOf 7 (some FieldType.int) 4 := ⟨zmem (n := 694) rfl rfl, by decide, by decide, by decide +kernel⟩
set_option maxRecDepth 20000 in
theorem zi_X5_sumOf : zIV yX5_sumOf := ⟨zmem (n := 693) rfl rfl, zmem (n := 36) rfl rfl, zini_X5⟩
set_option maxRecDepth 20000 in
theorem zm_X5_sum : zM yX5_sum cX5_sum 5 (some FieldType.int) 4 := ⟨zmem (n := 687) rfl rfl, by decide, by decide, by decide +kernel⟩
set_option maxRecDepth 20000 in
theorem zi_X5_sum : zIV yX5_sum := ⟨zmem (n := 685) rfl rfl, zmem (n := 686) rfl rfl, zini_X5⟩
set_option maxRecDepth 20000 in
theorem zm_X5_isSilent : zM yX5_isSilent cX5_isSilent 2 (some FieldType.boolean) 1 := ⟨zmem (n := 702) rfl rfl, by decide, by decide, by decide +kernel⟩
set_option maxRecDepth 20000 in
theorem zi_X5_isSilent : zIV yX5_isSilent := ⟨zmem (n := 701) rfl rfl, zmem (n := 37) rfl rfl, zini_X5⟩
set_option maxRecDepth 20000 in
theorem zm_X5_silent : zM yX5_silent cX5_silent 2 (some FieldType.int) 1 := ⟨zmem (n := 698) rfl rfl, by decide, by decide, by decide +kernel⟩
set_option maxRecDepth 20000 in
theorem zi_X5_silent : zIV yX5_silent := ⟨zmem (n := 696) rfl rfl, zmem (n := 697) rfl rfl, zini_X5⟩
set_option maxRecDepth 20000 in
theorem zm_X5_most : zM yX5_most cX5_most 6 (some FieldType.int) 3 := ⟨zmem (n := 706) rfl rfl, by decide, by decide, by decide +kernel⟩
set_option maxRecDepth 20000 in
theorem zi_X5_most : zIV yX5_most := ⟨zmem (n := 704) rfl rfl, zmem (n := 705) rfl rfl, zini_X5⟩
set_option maxRecDepth 20000 in
theorem zm_X5_harm : zM yX5_harm cX5_harm 8 (some FieldType.int) 3 := ⟨zmem (n := 710) rfl rfl, by decide, by decide, by decide +kernel⟩
set_option maxRecDepth 20000 in
theorem zi_X5_harm : zIV yX5_harm := ⟨zmem (n := 708) rfl rfl, zmem (n := 709) rfl rfl, zini_X5⟩
set_option maxRecDepth 20000 in
theorem zm_X5_rule : zM yX5_rule cX5_rule 5 (some FieldType.int) 4 := ⟨zmem (n := 714) rfl rfl, by decide, by decide, by decide +kernel⟩
set_option maxRecDepth 20000 in
theorem zi_X5_rule : zIV yX5_rule := ⟨zmem (n := 712) rfl rfl, zmem (n := 713) rfl rfl, zini_X5⟩
set_option maxRecDepth 20000 in
theorem zm_X5_isRule : zM yX5_isRule cX5_isRule 2 (some FieldType.boolean) 1 := ⟨zmem (n := 722) rfl rfl, by decide, by decide, by decide +kernel⟩
set_option maxRecDepth 20000 in
theorem zi_X5_isRule : zIV yX5_isRule := ⟨zmem (n := 721) rfl rfl, zmem (n := 38) rfl rfl, zini_X5⟩
set_option maxRecDepth 20000 in
theorem zm_X5_holdsFrom : zM yX5_holdsFrom cX5_holdsFrom 6 (some FieldType.boolean) 3 := ⟨zmem (n := 726) rfl rfl, by decide, by decide, by decide +kernel⟩
set_option maxRecDepth 20000 in
theorem zi_X5_holdsFrom : zIV yX5_holdsFrom := ⟨zmem (n := 725) rfl rfl, zmem (n := 39) rfl rfl, zini_X5⟩
set_option maxRecDepth 20000 in
theorem zm_X5_holds : zM yX5_holds cX5_holds 4 (some FieldType.int) 3 := ⟨zmem (n := 718) rfl rfl, by decide, by decide, by decide +kernel⟩
set_option maxRecDepth 20000 in
theorem zi_X5_holds : zIV yX5_holds := ⟨zmem (n := 716) rfl rfl, zmem (n := 717) rfl rfl, zini_X5⟩
set_option maxRecDepth 20000 in
theorem zm_X5_clash : zM yX5_clash cX5_clash 4 (some FieldType.int) 2 := ⟨zmem (n := 730) rfl rfl, by decide, by decide, by decide +kernel⟩
set_option maxRecDepth 20000 in
theorem zi_X5_clash : zIV yX5_clash := ⟨zmem (n := 728) rfl rfl, zmem (n := 729) rfl rfl, zini_X5⟩
set_option maxRecDepth 20000 in
theorem zm_X5_left : zM yX5_left cX5_left 6 (some FieldType.int) 3 := ⟨zmem (n := 734) rfl rfl, by decide, by decide, by decide +kernel⟩
set_option maxRecDepth 20000 in
theorem zi_X5_left : zIV yX5_left := ⟨zmem (n := 732) rfl rfl, zmem (n := 733) rfl rfl, zini_X5⟩
set_option maxRecDepth 20000 in
theorem zm_X5_days : zM yX5_days cX5_days 2 (some FieldType.int) 1 := ⟨zmem (n := 738) rfl rfl, by decide, by decide, by decide +kernel⟩
set_option maxRecDepth 20000 in
theorem zi_X5_days : zIV yX5_days := ⟨zmem (n := 736) rfl rfl, zmem (n := 737) rfl rfl, zini_X5⟩
set_option maxRecDepth 20000 in
theorem zm_X5_latest : zM yX5_latest cX5_latest 4 (some FieldType.int) 1 := ⟨zmem (n := 753) rfl rfl, by decide, by decide, by decide +kernel⟩
set_option maxRecDepth 20000 in
theorem zi_X5_latest : zIV yX5_latest := ⟨zmem (n := 752) rfl rfl, zmem (n := 40) rfl rfl, zini_X5⟩
set_option maxRecDepth 20000 in
theorem zm_X5_promise : zM yX5_promise cX5_promise 5 (some FieldType.int) 3 := ⟨zmem (n := 742) rfl rfl, by decide, by decide, by decide +kernel⟩
set_option maxRecDepth 20000 in
theorem zi_X5_promise : zIV yX5_promise := ⟨zmem (n := 740) rfl rfl, zmem (n := 741) rfl rfl, zini_X5⟩
set_option maxRecDepth 20000 in
theorem zm_X5_shut : zM yX5_shut cX5_shut 3 (some FieldType.int) 2 := ⟨zmem (n := 749) rfl rfl, by decide, by decide, by decide +kernel⟩
set_option maxRecDepth 20000 in
theorem zi_X5_shut : zIV yX5_shut := ⟨zmem (n := 747) rfl rfl, zmem (n := 748) rfl rfl, zini_X5⟩
set_option maxRecDepth 20000 in
theorem zm_X5_open : zM yX5_open cX5_open 3 (some FieldType.int) 1 := ⟨zmem (n := 757) rfl rfl, by decide, by decide, by decide +kernel⟩
set_option maxRecDepth 20000 in
theorem zi_X5_open : zIV yX5_open := ⟨zmem (n := 755) rfl rfl, zmem (n := 756) rfl rfl, zini_X5⟩
set_option maxRecDepth 20000 in
theorem zm_X5_about : zM yX5_about cX5_about 3 (some FieldType.int) 2 := ⟨zmem (n := 761) rfl rfl, by decide, by decide, by decide +kernel⟩
set_option maxRecDepth 20000 in
theorem zi_X5_about : zIV yX5_about := ⟨zmem (n := 759) rfl rfl, zmem (n := 760) rfl rfl, zini_X5⟩
set_option maxRecDepth 20000 in
theorem zm_X5_harmOn : zM yX5_harmOn cX5_harmOn 7 (some FieldType.int) 2 := ⟨zmem (n := 769) rfl rfl, by decide, by decide, by decide +kernel⟩
set_option maxRecDepth 20000 in
theorem zi_X5_harmOn : zIV yX5_harmOn := ⟨zmem (n := 768) rfl rfl, zmem (n := 41) rfl rfl, zini_X5⟩
set_option maxRecDepth 20000 in
theorem zm_X5_harmed : zM yX5_harmed cX5_harmed 3 (some FieldType.int) 2 := ⟨zmem (n := 765) rfl rfl, by decide, by decide, by decide +kernel⟩
set_option maxRecDepth 20000 in
theorem zi_X5_harmed : zIV yX5_harmed := ⟨zmem (n := 763) rfl rfl, zmem (n := 764) rfl rfl, zini_X5⟩
set_option maxRecDepth 20000 in
theorem zm_X5_ready : zM yX5_ready cX5_ready 3 (some FieldType.int) 1 := ⟨zmem (n := 773) rfl rfl, by decide, by decide, by decide +kernel⟩
set_option maxRecDepth 20000 in
theorem zi_X5_ready : zIV yX5_ready := ⟨zmem (n := 771) rfl rfl, zmem (n := 772) rfl rfl, zini_X5⟩
set_option maxRecDepth 20000 in
theorem zm_X5_set : zM yX5_set cX5_set 5 (some FieldType.int) 3 := ⟨zmem (n := 777) rfl rfl, by decide, by decide, by decide +kernel⟩
set_option maxRecDepth 20000 in
theorem zi_X5_set : zIV yX5_set := ⟨zmem (n := 775) rfl rfl, zmem (n := 776) rfl rfl, zini_X5⟩
set_option maxRecDepth 20000 in
theorem zm_X5_costOf : zM yX5_costOf cX5_costOf 4 (some FieldType.int) 1 := ⟨zmem (n := 785) rfl rfl, by decide, by decide, by decide +kernel⟩
set_option maxRecDepth 20000 in
theorem zi_X5_costOf : zIV yX5_costOf := ⟨zmem (n := 784) rfl rfl, zmem (n := 42) rfl rfl, zini_X5⟩
set_option maxRecDepth 20000 in
theorem zm_X5_plan : zM yX5_plan cX5_plan 5 (some FieldType.int) 1 := ⟨zmem (n := 781) rfl rfl, by decide, by decide, by decide +kernel⟩
set_option maxRecDepth 20000 in
theorem zi_X5_plan : zIV yX5_plan := ⟨zmem (n := 779) rfl rfl, zmem (n := 780) rfl rfl, zini_X5⟩
set_option maxRecDepth 20000 in
theorem zm_X5_told : zM yX5_told cX5_told 4 (some FieldType.int) 1 := ⟨zmem (n := 789) rfl rfl, by decide, by decide, by decide +kernel⟩
set_option maxRecDepth 20000 in
theorem zi_X5_told : zIV yX5_told := ⟨zmem (n := 787) rfl rfl, zmem (n := 788) rfl rfl, zini_X5⟩
set_option maxRecDepth 20000 in
theorem zm_X5_trace : zM yX5_trace cX5_trace 1 (some FieldType.long) 0 := ⟨zmem (n := 793) rfl rfl, by decide, by decide, by decide +kernel⟩
set_option maxRecDepth 20000 in
theorem zi_X5_trace : zIV yX5_trace := ⟨zmem (n := 791) rfl rfl, zmem (n := 792) rfl rfl, zini_X5⟩
set_option maxRecDepth 20000 in
theorem zm_J6_bitCount_0f7a4 : zM yJ6_bitCount_0f7a4 cJ6_bitCount_0f7a4 1 (some FieldType.int) 1 := ⟨zmem (n := 303) rfl rfl, by decide, by decide, by decide +kernel⟩
set_option maxRecDepth 20000 in
theorem zi_J6_bitCount_0f7a4 : zIS yJ6_bitCount_0f7a4 := ⟨zmem (n := 302) rfl rfl, zini_J6⟩
set_option maxRecDepth 20000 in
theorem zm_J9_max_7cf53 : zM yJ9_max_7cf53 cJ9_max_7cf53 2 (some FieldType.int) 2 := ⟨zmem (n := 425) rfl rfl, by decide, by decide, by decide +kernel⟩
set_option maxRecDepth 20000 in
theorem zi_J9_max_7cf53 : zIS yJ9_max_7cf53 := ⟨zmem (n := 424) rfl rfl, zini_J9⟩
set_option maxRecDepth 20000 in
theorem zm_J9_min_7cf53 : zM yJ9_min_7cf53 cJ9_min_7cf53 2 (some FieldType.int) 2 := ⟨zmem (n := 446) rfl rfl, by decide, by decide, by decide +kernel⟩
set_option maxRecDepth 20000 in
theorem zi_J9_min_7cf53 : zIS yJ9_min_7cf53 := ⟨zmem (n := 445) rfl rfl, zini_J9⟩
set_option maxRecDepth 20000 in
theorem zm_J7_fill_53178 : zM yJ7_fill_53178 cJ7_fill_53178 4 none 2 := ⟨zmem (n := 75) rfl rfl, by decide, by decide, by decide +kernel⟩
set_option maxRecDepth 20000 in
theorem zi_J7_fill_53178 : zIS yJ7_fill_53178 := ⟨zmem (n := 74) rfl rfl, zini_J7⟩
set_option maxRecDepth 20000 in
theorem zcc_L_7 : Cond.classLink RL 7 "WhoCalls" ∈ zall := zmem (n := 54) rfl rfl
set_option maxRecDepth 20000 in
theorem zk_L_9 : Cond.methodLink RL 9 yX4_init ∈ zall := zmem (n := 56) rfl rfl
set_option maxRecDepth 20000 in
theorem zcc_X4_9 : Cond.classLink RX4 9 "WhoCalls$Door" ∈ zall := zmem (n := 62) rfl rfl
set_option maxRecDepth 20000 in
theorem zcc_X4_15 : Cond.classLink RX4 15 "WhoCalls$House" ∈ zall := zmem (n := 64) rfl rfl
set_option maxRecDepth 20000 in
theorem zcc_X4_21 : Cond.classLink RX4 21 "WhoCalls$Rule" ∈ zall := zmem (n := 66) rfl rfl
set_option maxRecDepth 20000 in
theorem zk_X0_28 : Cond.methodLink RX0 28 yJ7_fill_53178 ∈ zall := zmem (n := 73) rfl rfl
set_option maxRecDepth 20000 in
theorem zf_X0_9 : Cond.fieldLink RX0 9 "WhoCalls$Door" "answers" "[I" ∈ zall := zmem (n := 76) rfl rfl
set_option maxRecDepth 20000 in
theorem zf_X0_15 : Cond.fieldLink RX0 15 "WhoCalls$Door" "promises" "[I" ∈ zall := zmem (n := 78) rfl rfl
set_option maxRecDepth 20000 in
theorem zf_X0_18 : Cond.fieldLink RX0 18 "WhoCalls$Door" "shutDay" "I" ∈ zall := zmem (n := 80) rfl rfl
set_option maxRecDepth 20000 in
theorem zf_X0_22 : Cond.fieldLink RX0 22 "WhoCalls$Door" "surprises" "I" ∈ zall := zmem (n := 82) rfl rfl
set_option maxRecDepth 20000 in
theorem zf_X0_25 : Cond.fieldLink RX0 25 "WhoCalls$Door" "cost" "I" ∈ zall := zmem (n := 84) rfl rfl
set_option maxRecDepth 20000 in
theorem zcc_X1_9 : Cond.classLink RX1 9 "WhoCalls$Text" ∈ zall := zmem (n := 103) rfl rfl
set_option maxRecDepth 20000 in
theorem zf_X3_9 : Cond.fieldLink RX3 9 "WhoCalls$Text" "kinds" "[I" ∈ zall := zmem (n := 109) rfl rfl
set_option maxRecDepth 20000 in
theorem zf_X3_15 : Cond.fieldLink RX3 15 "WhoCalls$Text" "firsts" "[I" ∈ zall := zmem (n := 110) rfl rfl
set_option maxRecDepth 20000 in
theorem zf_X3_18 : Cond.fieldLink RX3 18 "WhoCalls$Text" "seconds" "[I" ∈ zall := zmem (n := 111) rfl rfl
set_option maxRecDepth 20000 in
theorem zf_X3_21 : Cond.fieldLink RX3 21 "WhoCalls$Text" "numbers" "[I" ∈ zall := zmem (n := 112) rfl rfl
set_option maxRecDepth 20000 in
theorem zf_X3_24 : Cond.fieldLink RX3 24 "WhoCalls$Text" "sets" "[I" ∈ zall := zmem (n := 113) rfl rfl
set_option maxRecDepth 20000 in
theorem zf_X3_27 : Cond.fieldLink RX3 27 "WhoCalls$Text" "ends" "[I" ∈ zall := zmem (n := 114) rfl rfl
set_option maxRecDepth 20000 in
theorem zf_X3_30 : Cond.fieldLink RX3 30 "WhoCalls$Text" "size" "I" ∈ zall := zmem (n := 115) rfl rfl
set_option maxRecDepth 20000 in
theorem zf_X1_12 : Cond.fieldLink RX1 12 "WhoCalls$House" "text" "LWhoCalls$Text;" ∈ zall := zmem (n := 133) rfl rfl
set_option maxRecDepth 20000 in
theorem zf_X1_18 : Cond.fieldLink RX1 18 "WhoCalls$House" "counts" "[I" ∈ zall := zmem (n := 135) rfl rfl
set_option maxRecDepth 20000 in
theorem zf_X1_22 : Cond.fieldLink RX1 22 "WhoCalls$House" "marks" "[Z" ∈ zall := zmem (n := 136) rfl rfl
set_option maxRecDepth 20000 in
theorem zf_X1_26 : Cond.fieldLink RX1 26 "WhoCalls$House" "hasCounts" "Z" ∈ zall := zmem (n := 138) rfl rfl
set_option maxRecDepth 20000 in
theorem zf_X1_30 : Cond.fieldLink RX1 30 "WhoCalls$House" "version" "I" ∈ zall := zmem (n := 139) rfl rfl
set_option maxRecDepth 20000 in
theorem zf_X1_34 : Cond.fieldLink RX1 34 "WhoCalls$House" "hours" "I" ∈ zall := zmem (n := 141) rfl rfl
set_option maxRecDepth 20000 in
theorem zf_X4_11 : Cond.fieldLink RX4 11 "WhoCalls" "doors" "[LWhoCalls$Door;" ∈ zall := zmem (n := 157) rfl rfl
set_option maxRecDepth 20000 in
theorem zf_X4_17 : Cond.fieldLink RX4 17 "WhoCalls" "houses" "[LWhoCalls$House;" ∈ zall := zmem (n := 158) rfl rfl
set_option maxRecDepth 20000 in
theorem zf_X4_23 : Cond.fieldLink RX4 23 "WhoCalls" "rules" "[LWhoCalls$Rule;" ∈ zall := zmem (n := 159) rfl rfl
set_option maxRecDepth 20000 in
theorem zf_X4_27 : Cond.fieldLink RX4 27 "WhoCalls" "ruleCount" "I" ∈ zall := zmem (n := 160) rfl rfl
set_option maxRecDepth 20000 in
theorem zf_X4_31 : Cond.fieldLink RX4 31 "WhoCalls" "versionCount" "I" ∈ zall := zmem (n := 161) rfl rfl
set_option maxRecDepth 20000 in
theorem zf_X4_34 : Cond.fieldLink RX4 34 "WhoCalls" "today" "I" ∈ zall := zmem (n := 162) rfl rfl
set_option maxRecDepth 20000 in
theorem zf_X4_37 : Cond.fieldLink RX4 37 "WhoCalls" "mostADay" "I" ∈ zall := zmem (n := 163) rfl rfl
set_option maxRecDepth 20000 in
theorem zf_X4_40 : Cond.fieldLink RX4 40 "WhoCalls" "traced" "J" ∈ zall := zmem (n := 164) rfl rfl
set_option maxRecDepth 20000 in
theorem zk_L_13 : Cond.methodLink RL 13 yX4_version ∈ zall := zmem (n := 182) rfl rfl
set_option maxRecDepth 20000 in
theorem zk_L_18 : Cond.methodLink RL 18 yX4_answer ∈ zall := zmem (n := 193) rfl rfl
set_option maxRecDepth 20000 in
theorem zk_X4_50 : Cond.methodLink RX4 50 yX4_doorAt ∈ zall := zmem (n := 197) rfl rfl
set_option maxRecDepth 20000 in
theorem zk_X4_80 : Cond.methodLink RX4 80 yX4_isFace ∈ zall := zmem (n := 201) rfl rfl
set_option maxRecDepth 20000 in
theorem zk_X4_58 : Cond.methodLink RX4 58 yX4_isWithin ∈ zall := zmem (n := 204) rfl rfl
set_option maxRecDepth 20000 in
theorem zk_X4_54 : Cond.methodLink RX4 54 yX4_isVersion ∈ zall := zmem (n := 207) rfl rfl
set_option maxRecDepth 20000 in
theorem zk_L_23 : Cond.methodLink RL 23 yX4_differ ∈ zall := zmem (n := 215) rfl rfl
set_option maxRecDepth 20000 in
theorem zk_X0_40 : Cond.methodLink RX0 40 yX0_answerTo ∈ zall := zmem (n := 223) rfl rfl
set_option maxRecDepth 20000 in
theorem zk_L_28 : Cond.methodLink RL 28 yX4_goes ∈ zall := zmem (n := 224) rfl rfl
set_option maxRecDepth 20000 in
theorem zk_X4_73 : Cond.methodLink RX4 73 yX4_houseAt ∈ zall := zmem (n := 228) rfl rfl
set_option maxRecDepth 20000 in
theorem zk_L_33 : Cond.methodLink RL 33 yX4_call ∈ zall := zmem (n := 232) rfl rfl
set_option maxRecDepth 20000 in
theorem zk_X3_38 : Cond.methodLink RX3 38 yX3_added ∈ zall := zmem (n := 240) rfl rfl
set_option maxRecDepth 20000 in
theorem zk_L_37 : Cond.methodLink RL 37 yX4_wrap ∈ zall := zmem (n := 244) rfl rfl
set_option maxRecDepth 20000 in
theorem zk_L_41 : Cond.methodLink RL 41 yX4_split ∈ zall := zmem (n := 257) rfl rfl
set_option maxRecDepth 20000 in
theorem zk_L_46 : Cond.methodLink RL 46 yX4_clear ∈ zall := zmem (n := 265) rfl rfl
set_option maxRecDepth 20000 in
theorem zk_L_51 : Cond.methodLink RL 51 yX4_sees ∈ zall := zmem (n := 269) rfl rfl
set_option maxRecDepth 20000 in
theorem zk_X3_46 : Cond.methodLink RX3 46 yX3_steps ∈ zall := zmem (n := 277) rfl rfl
set_option maxRecDepth 20000 in
theorem zk_X3_50 : Cond.methodLink RX3 50 yX3_has ∈ zall := zmem (n := 280) rfl rfl
set_option maxRecDepth 20000 in
theorem zk_X3_54 : Cond.methodLink RX3 54 yX3_turned ∈ zall := zmem (n := 281) rfl rfl
set_option maxRecDepth 20000 in
theorem zk_L_55 : Cond.methodLink RL 55 yX4_uses ∈ zall := zmem (n := 288) rfl rfl
set_option maxRecDepth 20000 in
theorem zk_X3_42 : Cond.methodLink RX3 42 yX3_seenBy ∈ zall := zmem (n := 296) rfl rfl
set_option maxRecDepth 20000 in
theorem zk_L_59 : Cond.methodLink RL 59 yX4_shape ∈ zall := zmem (n := 297) rfl rfl
set_option maxRecDepth 20000 in
theorem zk_X4_116 : Cond.methodLink RX4 116 yJ6_bitCount_0f7a4 ∈ zall := zmem (n := 301) rfl rfl
set_option maxRecDepth 20000 in
theorem zcn_J6_265 : Cond.constant RJ6 265 (1431655765 : Int32) ∈ zall := zmem (n := 304) rfl rfl
set_option maxRecDepth 20000 in
theorem zcn_J6_266 : Cond.constant RJ6 266 (858993459 : Int32) ∈ zall := zmem (n := 305) rfl rfl
set_option maxRecDepth 20000 in
theorem zcn_J6_267 : Cond.constant RJ6 267 (252645135 : Int32) ∈ zall := zmem (n := 306) rfl rfl
set_option maxRecDepth 20000 in
theorem zk_L_63 : Cond.methodLink RL 63 yX4_count ∈ zall := zmem (n := 307) rfl rfl
set_option maxRecDepth 20000 in
theorem zk_X4_121 : Cond.methodLink RX4 121 yX4_isDay ∈ zall := zmem (n := 311) rfl rfl
set_option maxRecDepth 20000 in
theorem zk_L_67 : Cond.methodLink RL 67 yX4_sum ∈ zall := zmem (n := 322) rfl rfl
set_option maxRecDepth 20000 in
theorem zk_X4_141 : Cond.methodLink RX4 141 yX4_isSpan ∈ zall := zmem (n := 326) rfl rfl
set_option maxRecDepth 20000 in
theorem zk_L_71 : Cond.methodLink RL 71 yX4_silent ∈ zall := zmem (n := 333) rfl rfl
set_option maxRecDepth 20000 in
theorem zk_L_75 : Cond.methodLink RL 75 yX4_most ∈ zall := zmem (n := 341) rfl rfl
set_option maxRecDepth 20000 in
theorem zk_X4_151 : Cond.methodLink RX4 151 yX4_silentHouses ∈ zall := zmem (n := 345) rfl rfl
set_option maxRecDepth 20000 in
theorem zk_L_79 : Cond.methodLink RL 79 yX4_harm ∈ zall := zmem (n := 349) rfl rfl
set_option maxRecDepth 20000 in
theorem zk_L_83 : Cond.methodLink RL 83 yX4_rule ∈ zall := zmem (n := 357) rfl rfl
set_option maxRecDepth 20000 in
theorem zf_X2_7 : Cond.fieldLink RX2 7 "WhoCalls$Rule" "face" "I" ∈ zall := zmem (n := 366) rfl rfl
set_option maxRecDepth 20000 in
theorem zf_X2_13 : Cond.fieldLink RX2 13 "WhoCalls$Rule" "set" "I" ∈ zall := zmem (n := 368) rfl rfl
set_option maxRecDepth 20000 in
theorem zf_X2_16 : Cond.fieldLink RX2 16 "WhoCalls$Rule" "to" "I" ∈ zall := zmem (n := 370) rfl rfl
set_option maxRecDepth 20000 in
theorem zf_X2_19 : Cond.fieldLink RX2 19 "WhoCalls$Rule" "d" "I" ∈ zall := zmem (n := 372) rfl rfl
set_option maxRecDepth 20000 in
theorem zk_L_87 : Cond.methodLink RL 87 yX4_holds ∈ zall := zmem (n := 383) rfl rfl
set_option maxRecDepth 20000 in
theorem zk_X4_160 : Cond.methodLink RX4 160 yX4_ruleAt ∈ zall := zmem (n := 387) rfl rfl
set_option maxRecDepth 20000 in
theorem zk_X4_164 : Cond.methodLink RX4 164 yX4_isHeld ∈ zall := zmem (n := 391) rfl rfl
set_option maxRecDepth 20000 in
theorem zk_L_91 : Cond.methodLink RL 91 yX4_clash ∈ zall := zmem (n := 395) rfl rfl
set_option maxRecDepth 20000 in
theorem zk_L_95 : Cond.methodLink RL 95 yX4_left ∈ zall := zmem (n := 399) rfl rfl
set_option maxRecDepth 20000 in
theorem zk_L_99 : Cond.methodLink RL 99 yX4_days ∈ zall := zmem (n := 403) rfl rfl
set_option maxRecDepth 20000 in
theorem zk_L_103 : Cond.methodLink RL 103 yX4_promise ∈ zall := zmem (n := 407) rfl rfl
set_option maxRecDepth 20000 in
theorem zk_L_107 : Cond.methodLink RL 107 yX4_shut ∈ zall := zmem (n := 411) rfl rfl
set_option maxRecDepth 20000 in
theorem zk_X0_49 : Cond.methodLink RX0 49 yX0_latestPromise ∈ zall := zmem (n := 419) rfl rfl
set_option maxRecDepth 20000 in
theorem zk_X0_44 : Cond.methodLink RX0 44 yJ9_max_7cf53 ∈ zall := zmem (n := 423) rfl rfl
set_option maxRecDepth 20000 in
theorem zk_L_111 : Cond.methodLink RL 111 yX4_open ∈ zall := zmem (n := 426) rfl rfl
set_option maxRecDepth 20000 in
theorem zk_L_115 : Cond.methodLink RL 115 yX4_about ∈ zall := zmem (n := 430) rfl rfl
set_option maxRecDepth 20000 in
theorem zk_L_119 : Cond.methodLink RL 119 yX4_harmed ∈ zall := zmem (n := 435) rfl rfl
set_option maxRecDepth 20000 in
theorem zk_X1_37 : Cond.methodLink RX1 37 yJ9_max_7cf53 ∈ zall := zmem (n := 443) rfl rfl
set_option maxRecDepth 20000 in
theorem zk_X1_43 : Cond.methodLink RX1 43 yJ9_min_7cf53 ∈ zall := zmem (n := 444) rfl rfl
set_option maxRecDepth 20000 in
theorem zk_X1_46 : Cond.methodLink RX1 46 yX1_counted ∈ zall := zmem (n := 447) rfl rfl
set_option maxRecDepth 20000 in
theorem zk_L_123 : Cond.methodLink RL 123 yX4_ready ∈ zall := zmem (n := 448) rfl rfl
set_option maxRecDepth 20000 in
theorem zk_X4_192 : Cond.methodLink RX4 192 yX4_harmed ∈ zall := zmem (n := 452) rfl rfl
set_option maxRecDepth 20000 in
theorem zk_L_127 : Cond.methodLink RL 127 yX4_set ∈ zall := zmem (n := 453) rfl rfl
set_option maxRecDepth 20000 in
theorem zk_X4_195 : Cond.methodLink RX4 195 yX4_becomeCost ∈ zall := zmem (n := 457) rfl rfl
set_option maxRecDepth 20000 in
theorem zk_X4_199 : Cond.methodLink RX4 199 yX4_becomeHours ∈ zall := zmem (n := 460) rfl rfl
set_option maxRecDepth 20000 in
theorem zk_L_131 : Cond.methodLink RL 131 yX4_plan ∈ zall := zmem (n := 463) rfl rfl
set_option maxRecDepth 20000 in
theorem zk_X4_203 : Cond.methodLink RX4 203 yX4_hoursWithout ∈ zall := zmem (n := 467) rfl rfl
set_option maxRecDepth 20000 in
theorem zk_X4_206 : Cond.methodLink RX4 206 yX4_isKept ∈ zall := zmem (n := 471) rfl rfl
set_option maxRecDepth 20000 in
theorem zk_L_135 : Cond.methodLink RL 135 yX4_told ∈ zall := zmem (n := 475) rfl rfl
set_option maxRecDepth 20000 in
theorem zk_X4_213 : Cond.methodLink RX4 213 yX4_shutDoors ∈ zall := zmem (n := 479) rfl rfl
set_option maxRecDepth 20000 in
theorem zk_L_139 : Cond.methodLink RL 139 yX4_trace ∈ zall := zmem (n := 483) rfl rfl
set_option maxRecDepth 20000 in
theorem zcc_L_10 : Cond.classLink RL 10 "WhoCallsModel" ∈ zall := zmem (n := 487) rfl rfl
set_option maxRecDepth 20000 in
theorem zk_L_12 : Cond.methodLink RL 12 yX5_init ∈ zall := zmem (n := 489) rfl rfl
set_option maxRecDepth 20000 in
theorem zf_X5_7 : Cond.fieldLink RX5 7 "WhoCallsModel" "versions" "I" ∈ zall := zmem (n := 493) rfl rfl
set_option maxRecDepth 20000 in
theorem zf_X5_13 : Cond.fieldLink RX5 13 "WhoCallsModel" "answers" "[I" ∈ zall := zmem (n := 494) rfl rfl
set_option maxRecDepth 20000 in
theorem zf_X5_17 : Cond.fieldLink RX5 17 "WhoCallsModel" "goesBy" "[I" ∈ zall := zmem (n := 495) rfl rfl
set_option maxRecDepth 20000 in
theorem zf_X5_20 : Cond.fieldLink RX5 20 "WhoCallsModel" "lines" "[I" ∈ zall := zmem (n := 496) rfl rfl
set_option maxRecDepth 20000 in
theorem zf_X5_23 : Cond.fieldLink RX5 23 "WhoCallsModel" "kind" "[I" ∈ zall := zmem (n := 497) rfl rfl
set_option maxRecDepth 20000 in
theorem zf_X5_26 : Cond.fieldLink RX5 26 "WhoCallsModel" "first" "[I" ∈ zall := zmem (n := 498) rfl rfl
set_option maxRecDepth 20000 in
theorem zf_X5_29 : Cond.fieldLink RX5 29 "WhoCallsModel" "second" "[I" ∈ zall := zmem (n := 499) rfl rfl
set_option maxRecDepth 20000 in
theorem zf_X5_32 : Cond.fieldLink RX5 32 "WhoCallsModel" "by" "[I" ∈ zall := zmem (n := 500) rfl rfl
set_option maxRecDepth 20000 in
theorem zf_X5_35 : Cond.fieldLink RX5 35 "WhoCallsModel" "set" "[I" ∈ zall := zmem (n := 501) rfl rfl
set_option maxRecDepth 20000 in
theorem zf_X5_38 : Cond.fieldLink RX5 38 "WhoCallsModel" "counted" "[I" ∈ zall := zmem (n := 502) rfl rfl
set_option maxRecDepth 20000 in
theorem zf_X5_41 : Cond.fieldLink RX5 41 "WhoCallsModel" "isMarked" "[Z" ∈ zall := zmem (n := 503) rfl rfl
set_option maxRecDepth 20000 in
theorem zf_X5_45 : Cond.fieldLink RX5 45 "WhoCallsModel" "hasCounts" "[Z" ∈ zall := zmem (n := 504) rfl rfl
set_option maxRecDepth 20000 in
theorem zf_X5_48 : Cond.fieldLink RX5 48 "WhoCallsModel" "most" "I" ∈ zall := zmem (n := 505) rfl rfl
set_option maxRecDepth 20000 in
theorem zf_X5_163 : Cond.fieldLink RX5 163 "WhoCallsModel" "rules" "I" ∈ zall := zmem (n := 506) rfl rfl
set_option maxRecDepth 20000 in
theorem zf_X5_51 : Cond.fieldLink RX5 51 "WhoCallsModel" "ruleFace" "[I" ∈ zall := zmem (n := 507) rfl rfl
set_option maxRecDepth 20000 in
theorem zf_X5_54 : Cond.fieldLink RX5 54 "WhoCallsModel" "ruleSet" "[I" ∈ zall := zmem (n := 508) rfl rfl
set_option maxRecDepth 20000 in
theorem zf_X5_57 : Cond.fieldLink RX5 57 "WhoCallsModel" "ruleTo" "[I" ∈ zall := zmem (n := 509) rfl rfl
set_option maxRecDepth 20000 in
theorem zf_X5_60 : Cond.fieldLink RX5 60 "WhoCallsModel" "ruleBy" "[I" ∈ zall := zmem (n := 510) rfl rfl
set_option maxRecDepth 20000 in
theorem zf_X5_90 : Cond.fieldLink RX5 90 "WhoCallsModel" "today" "I" ∈ zall := zmem (n := 511) rfl rfl
set_option maxRecDepth 20000 in
theorem zf_X5_63 : Cond.fieldLink RX5 63 "WhoCallsModel" "promised" "[I" ∈ zall := zmem (n := 512) rfl rfl
set_option maxRecDepth 20000 in
theorem zf_X5_66 : Cond.fieldLink RX5 66 "WhoCallsModel" "shutOn" "[I" ∈ zall := zmem (n := 513) rfl rfl
set_option maxRecDepth 20000 in
theorem zf_X5_69 : Cond.fieldLink RX5 69 "WhoCallsModel" "surprises" "[I" ∈ zall := zmem (n := 514) rfl rfl
set_option maxRecDepth 20000 in
theorem zf_X5_72 : Cond.fieldLink RX5 72 "WhoCallsModel" "keepCost" "[I" ∈ zall := zmem (n := 515) rfl rfl
set_option maxRecDepth 20000 in
theorem zf_X5_75 : Cond.fieldLink RX5 75 "WhoCallsModel" "hours" "[I" ∈ zall := zmem (n := 516) rfl rfl
set_option maxRecDepth 20000 in
theorem zf_X5_144 : Cond.fieldLink RX5 144 "WhoCallsModel" "trace" "J" ∈ zall := zmem (n := 517) rfl rfl
set_option maxRecDepth 20000 in
theorem zf_X5_78 : Cond.fieldLink RX5 78 "WhoCallsModel" "pile" "[I" ∈ zall := zmem (n := 518) rfl rfl
set_option maxRecDepth 20000 in
theorem zf_X5_81 : Cond.fieldLink RX5 81 "WhoCallsModel" "pileSet" "[I" ∈ zall := zmem (n := 519) rfl rfl
set_option maxRecDepth 20000 in
theorem zf_X5_84 : Cond.fieldLink RX5 84 "WhoCallsModel" "seen" "[I" ∈ zall := zmem (n := 520) rfl rfl
set_option maxRecDepth 20000 in
theorem zf_X5_125 : Cond.fieldLink RX5 125 "WhoCallsModel" "asked" "J" ∈ zall := zmem (n := 521) rfl rfl
set_option maxRecDepth 20000 in
theorem zf_X5_122 : Cond.fieldLink RX5 122 "WhoCallsModel" "piled" "I" ∈ zall := zmem (n := 522) rfl rfl
set_option maxRecDepth 20000 in
theorem zf_X5_87 : Cond.fieldLink RX5 87 "WhoCallsModel" "lossOf" "[I" ∈ zall := zmem (n := 523) rfl rfl
set_option maxRecDepth 20000 in
theorem zk_L_17 : Cond.methodLink RL 17 yX5_version ∈ zall := zmem (n := 587) rfl rfl
set_option maxRecDepth 20000 in
theorem zk_L_22 : Cond.methodLink RL 22 yX5_answer ∈ zall := zmem (n := 591) rfl rfl
set_option maxRecDepth 20000 in
theorem zk_X5_97 : Cond.methodLink RX5 97 yX5_isFace ∈ zall := zmem (n := 595) rfl rfl
set_option maxRecDepth 20000 in
theorem zk_X5_93 : Cond.methodLink RX5 93 yX5_in ∈ zall := zmem (n := 598) rfl rfl
set_option maxRecDepth 20000 in
theorem zk_X5_101 : Cond.methodLink RX5 101 yX5_isVersion ∈ zall := zmem (n := 601) rfl rfl
set_option maxRecDepth 20000 in
theorem zk_L_27 : Cond.methodLink RL 27 yX5_differ ∈ zall := zmem (n := 605) rfl rfl
set_option maxRecDepth 20000 in
theorem zk_X5_104 : Cond.methodLink RX5 104 yX5_differs ∈ zall := zmem (n := 609) rfl rfl
set_option maxRecDepth 20000 in
theorem zk_L_32 : Cond.methodLink RL 32 yX5_goes ∈ zall := zmem (n := 613) rfl rfl
set_option maxRecDepth 20000 in
theorem zk_X5_108 : Cond.methodLink RX5 108 yX5_isHouse ∈ zall := zmem (n := 617) rfl rfl
set_option maxRecDepth 20000 in
theorem zk_L_36 : Cond.methodLink RL 36 yX5_call ∈ zall := zmem (n := 620) rfl rfl
set_option maxRecDepth 20000 in
theorem zk_X5_111 : Cond.methodLink RX5 111 yX5_isSet ∈ zall := zmem (n := 624) rfl rfl
set_option maxRecDepth 20000 in
theorem zk_X5_114 : Cond.methodLink RX5 114 yX5_comes ∈ zall := zmem (n := 627) rfl rfl
set_option maxRecDepth 20000 in
theorem zk_L_40 : Cond.methodLink RL 40 yX5_wrap ∈ zall := zmem (n := 631) rfl rfl
set_option maxRecDepth 20000 in
theorem zk_X5_118 : Cond.methodLink RX5 118 yX5_isLine ∈ zall := zmem (n := 635) rfl rfl
set_option maxRecDepth 20000 in
theorem zk_L_45 : Cond.methodLink RL 45 yX5_split ∈ zall := zmem (n := 639) rfl rfl
set_option maxRecDepth 20000 in
theorem zk_L_50 : Cond.methodLink RL 50 yX5_clear ∈ zall := zmem (n := 643) rfl rfl
set_option maxRecDepth 20000 in
theorem zk_L_54 : Cond.methodLink RL 54 yX5_sees ∈ zall := zmem (n := 647) rfl rfl
set_option maxRecDepth 20000 in
theorem zk_X5_141 : Cond.methodLink RX5 141 yX5_follow ∈ zall := zmem (n := 651) rfl rfl
set_option maxRecDepth 20000 in
theorem zk_X5_129 : Cond.methodLink RX5 129 yX5_piles ∈ zall := zmem (n := 655) rfl rfl
set_option maxRecDepth 20000 in
theorem zcn_X5_133 : Cond.constantLong RX5 133 (10 : Int64) ∈ zall := zmem (n := 659) rfl rfl
set_option maxRecDepth 20000 in
theorem zk_X5_135 : Cond.methodLink RX5 135 yX5_turned ∈ zall := zmem (n := 660) rfl rfl
set_option maxRecDepth 20000 in
theorem zcn_X5_139 : Cond.constantLong RX5 139 (100 : Int64) ∈ zall := zmem (n := 663) rfl rfl
set_option maxRecDepth 20000 in
theorem zk_L_58 : Cond.methodLink RL 58 yX5_uses ∈ zall := zmem (n := 664) rfl rfl
set_option maxRecDepth 20000 in
theorem zk_X5_147 : Cond.methodLink RX5 147 yX5_usesOf ∈ zall := zmem (n := 668) rfl rfl
set_option maxRecDepth 20000 in
theorem zk_L_62 : Cond.methodLink RL 62 yX5_shape ∈ zall := zmem (n := 672) rfl rfl
set_option maxRecDepth 20000 in
theorem zk_L_66 : Cond.methodLink RL 66 yX5_count ∈ zall := zmem (n := 676) rfl rfl
set_option maxRecDepth 20000 in
theorem zk_X5_150 : Cond.methodLink RX5 150 yX5_isShut ∈ zall := zmem (n := 680) rfl rfl
set_option maxRecDepth 20000 in
theorem zk_L_70 : Cond.methodLink RL 70 yX5_sum ∈ zall := zmem (n := 684) rfl rfl
set_option maxRecDepth 20000 in
theorem zk_X5_153 : Cond.methodLink RX5 153 yX5_isSpan ∈ zall := zmem (n := 688) rfl rfl
set_option maxRecDepth 20000 in
theorem zk_X5_156 : Cond.methodLink RX5 156 yX5_sumOf ∈ zall := zmem (n := 691) rfl rfl
set_option maxRecDepth 20000 in
theorem zk_L_74 : Cond.methodLink RL 74 yX5_silent ∈ zall := zmem (n := 695) rfl rfl
set_option maxRecDepth 20000 in
theorem zk_X5_160 : Cond.methodLink RX5 160 yX5_isSilent ∈ zall := zmem (n := 699) rfl rfl
set_option maxRecDepth 20000 in
theorem zk_L_78 : Cond.methodLink RL 78 yX5_most ∈ zall := zmem (n := 703) rfl rfl
set_option maxRecDepth 20000 in
theorem zk_L_82 : Cond.methodLink RL 82 yX5_harm ∈ zall := zmem (n := 707) rfl rfl
set_option maxRecDepth 20000 in
theorem zk_L_86 : Cond.methodLink RL 86 yX5_rule ∈ zall := zmem (n := 711) rfl rfl
set_option maxRecDepth 20000 in
theorem zk_L_90 : Cond.methodLink RL 90 yX5_holds ∈ zall := zmem (n := 715) rfl rfl
set_option maxRecDepth 20000 in
theorem zk_X5_166 : Cond.methodLink RX5 166 yX5_isRule ∈ zall := zmem (n := 719) rfl rfl
set_option maxRecDepth 20000 in
theorem zk_X5_169 : Cond.methodLink RX5 169 yX5_holdsFrom ∈ zall := zmem (n := 723) rfl rfl
set_option maxRecDepth 20000 in
theorem zk_L_94 : Cond.methodLink RL 94 yX5_clash ∈ zall := zmem (n := 727) rfl rfl
set_option maxRecDepth 20000 in
theorem zk_L_98 : Cond.methodLink RL 98 yX5_left ∈ zall := zmem (n := 731) rfl rfl
set_option maxRecDepth 20000 in
theorem zk_L_102 : Cond.methodLink RL 102 yX5_days ∈ zall := zmem (n := 735) rfl rfl
set_option maxRecDepth 20000 in
theorem zk_L_106 : Cond.methodLink RL 106 yX5_promise ∈ zall := zmem (n := 739) rfl rfl
set_option maxRecDepth 20000 in
theorem zk_X5_172 : Cond.methodLink RX5 172 yX5_shown ∈ zall := zmem (n := 743) rfl rfl
set_option maxRecDepth 20000 in
theorem zk_L_110 : Cond.methodLink RL 110 yX5_shut ∈ zall := zmem (n := 746) rfl rfl
set_option maxRecDepth 20000 in
theorem zk_X5_176 : Cond.methodLink RX5 176 yX5_latest ∈ zall := zmem (n := 750) rfl rfl
set_option maxRecDepth 20000 in
theorem zk_L_114 : Cond.methodLink RL 114 yX5_open ∈ zall := zmem (n := 754) rfl rfl
set_option maxRecDepth 20000 in
theorem zk_L_118 : Cond.methodLink RL 118 yX5_about ∈ zall := zmem (n := 758) rfl rfl
set_option maxRecDepth 20000 in
theorem zk_L_122 : Cond.methodLink RL 122 yX5_harmed ∈ zall := zmem (n := 762) rfl rfl
set_option maxRecDepth 20000 in
theorem zk_X5_179 : Cond.methodLink RX5 179 yX5_harmOn ∈ zall := zmem (n := 766) rfl rfl
set_option maxRecDepth 20000 in
theorem zk_L_126 : Cond.methodLink RL 126 yX5_ready ∈ zall := zmem (n := 770) rfl rfl
set_option maxRecDepth 20000 in
theorem zk_L_130 : Cond.methodLink RL 130 yX5_set ∈ zall := zmem (n := 774) rfl rfl
set_option maxRecDepth 20000 in
theorem zk_L_134 : Cond.methodLink RL 134 yX5_plan ∈ zall := zmem (n := 778) rfl rfl
set_option maxRecDepth 20000 in
theorem zk_X5_182 : Cond.methodLink RX5 182 yX5_costOf ∈ zall := zmem (n := 782) rfl rfl
set_option maxRecDepth 20000 in
theorem zk_L_138 : Cond.methodLink RL 138 yX5_told ∈ zall := zmem (n := 786) rfl rfl
set_option maxRecDepth 20000 in
theorem zk_L_143 : Cond.methodLink RL 143 yX5_trace ∈ zall := zmem (n := 790) rfl rfl
set_option maxRecDepth 20000 in
theorem zfn_X4_66 : ("WhoCalls", 66, "WhoCalls$Door", "answers", "[I", "WhoCalls") ∈ zNF := List.mem_of_getElem? (i := 0) rfl
set_option maxRecDepth 20000 in
theorem zfn_X4_180 : ("WhoCalls", 180, "WhoCalls$Door", "promises", "[I", "WhoCalls") ∈ zNF := List.mem_of_getElem? (i := 1) rfl
set_option maxRecDepth 20000 in
theorem zfn_X4_135 : ("WhoCalls", 135, "WhoCalls$Door", "shutDay", "I", "WhoCalls") ∈ zNF := List.mem_of_getElem? (i := 2) rfl
set_option maxRecDepth 20000 in
theorem zfn_X4_138 : ("WhoCalls", 138, "WhoCalls$Door", "surprises", "I", "WhoCalls") ∈ zNF := List.mem_of_getElem? (i := 3) rfl
set_option maxRecDepth 20000 in
theorem zfn_X4_210 : ("WhoCalls", 210, "WhoCalls$Door", "cost", "I", "WhoCalls") ∈ zNF := List.mem_of_getElem? (i := 4) rfl
set_option maxRecDepth 20000 in
theorem zfn_X1_50 : ("WhoCalls$House", 50, "WhoCalls$Text", "size", "I", "WhoCalls") ∈ zNF := List.mem_of_getElem? (i := 5) rfl
set_option maxRecDepth 20000 in
theorem zfn_X4_103 : ("WhoCalls", 103, "WhoCalls$Text", "size", "I", "WhoCalls") ∈ zNF := List.mem_of_getElem? (i := 6) rfl
set_option maxRecDepth 20000 in
theorem zfn_X4_83 : ("WhoCalls", 83, "WhoCalls$House", "text", "LWhoCalls$Text;", "WhoCalls") ∈ zNF := List.mem_of_getElem? (i := 7) rfl
set_option maxRecDepth 20000 in
theorem zfn_X4_124 : ("WhoCalls", 124, "WhoCalls$House", "marks", "[Z", "WhoCalls") ∈ zNF := List.mem_of_getElem? (i := 8) rfl
set_option maxRecDepth 20000 in
theorem zfn_X4_77 : ("WhoCalls", 77, "WhoCalls$House", "version", "I", "WhoCalls") ∈ zNF := List.mem_of_getElem? (i := 9) rfl
set_option maxRecDepth 20000 in
theorem zfn_X4_216 : ("WhoCalls", 216, "WhoCalls$House", "hours", "I", "WhoCalls") ∈ zNF := List.mem_of_getElem? (i := 10) rfl
set_option maxRecDepth 20000 in
theorem zfn_X4_168 : ("WhoCalls", 168, "WhoCalls$Rule", "face", "I", "WhoCalls") ∈ zNF := List.mem_of_getElem? (i := 11) rfl
set_option maxRecDepth 20000 in
theorem zfn_X4_171 : ("WhoCalls", 171, "WhoCalls$Rule", "set", "I", "WhoCalls") ∈ zNF := List.mem_of_getElem? (i := 12) rfl
set_option maxRecDepth 20000 in
theorem zfn_X4_174 : ("WhoCalls", 174, "WhoCalls$Rule", "to", "I", "WhoCalls") ∈ zNF := List.mem_of_getElem? (i := 13) rfl
set_option maxRecDepth 20000 in
theorem zfn_X4_177 : ("WhoCalls", 177, "WhoCalls$Rule", "d", "I", "WhoCalls") ∈ zNF := List.mem_of_getElem? (i := 14) rfl
set_option maxRecDepth 20000 in
theorem zkn_X4_44 : ("WhoCalls", 44, yX0_init, "WhoCalls") ∈ zNM := List.mem_of_getElem? (i := 0) rfl
set_option maxRecDepth 20000 in
theorem zkn_X4_45 : ("WhoCalls", 45, yX1_init, "WhoCalls") ∈ zNM := List.mem_of_getElem? (i := 1) rfl
set_option maxRecDepth 20000 in
theorem zkn_X1_11 : ("WhoCalls$House", 11, yX3_init, "WhoCalls") ∈ zNM := List.mem_of_getElem? (i := 2) rfl
set_option maxRecDepth 20000 in
theorem zkn_X4_46 : ("WhoCalls", 46, yX0_copyAnswers, "WhoCalls") ∈ zNM := List.mem_of_getElem? (i := 3) rfl
set_option maxRecDepth 20000 in
theorem zkn_X4_62 : ("WhoCalls", 62, yX0_answerTo, "WhoCalls") ∈ zNM := List.mem_of_getElem? (i := 4) rfl
set_option maxRecDepth 20000 in
theorem zkn_X4_70 : ("WhoCalls", 70, yX0_differing, "WhoCalls") ∈ zNM := List.mem_of_getElem? (i := 5) rfl
set_option maxRecDepth 20000 in
theorem zkn_X4_87 : ("WhoCalls", 87, yX3_addCall, "WhoCalls") ∈ zNM := List.mem_of_getElem? (i := 6) rfl
set_option maxRecDepth 20000 in
theorem zkn_X4_92 : ("WhoCalls", 92, yX3_has, "WhoCalls") ∈ zNM := List.mem_of_getElem? (i := 7) rfl
set_option maxRecDepth 20000 in
theorem zkn_X3_34 : ("WhoCalls$Text", 34, yX4_isWithin, "WhoCalls") ∈ zNM := List.mem_of_getElem? (i := 8) rfl
set_option maxRecDepth 20000 in
theorem zkn_X4_95 : ("WhoCalls", 95, yX3_addWrap, "WhoCalls") ∈ zNM := List.mem_of_getElem? (i := 9) rfl
set_option maxRecDepth 20000 in
theorem zkn_X4_99 : ("WhoCalls", 99, yX3_addSplit, "WhoCalls") ∈ zNM := List.mem_of_getElem? (i := 10) rfl
set_option maxRecDepth 20000 in
theorem zkn_X4_106 : ("WhoCalls", 106, yX3_stepsOf, "WhoCalls") ∈ zNM := List.mem_of_getElem? (i := 11) rfl
set_option maxRecDepth 20000 in
theorem zkn_X4_110 : ("WhoCalls", 110, yX3_seenBy, "WhoCalls") ∈ zNM := List.mem_of_getElem? (i := 12) rfl
set_option maxRecDepth 20000 in
theorem zkn_X4_113 : ("WhoCalls", 113, yX3_used, "WhoCalls") ∈ zNM := List.mem_of_getElem? (i := 13) rfl
set_option maxRecDepth 20000 in
theorem zkn_X4_128 : ("WhoCalls", 128, yX1_addCount, "WhoCalls") ∈ zNM := List.mem_of_getElem? (i := 14) rfl
set_option maxRecDepth 20000 in
theorem zkn_X4_132 : ("WhoCalls", 132, yX0_isShutOn, "WhoCalls") ∈ zNM := List.mem_of_getElem? (i := 15) rfl
set_option maxRecDepth 20000 in
theorem zkn_X4_144 : ("WhoCalls", 144, yX1_counted, "WhoCalls") ∈ zNM := List.mem_of_getElem? (i := 16) rfl
set_option maxRecDepth 20000 in
theorem zkn_X4_147 : ("WhoCalls", 147, yX1_isSilent, "WhoCalls") ∈ zNM := List.mem_of_getElem? (i := 17) rfl
set_option maxRecDepth 20000 in
theorem zkn_X4_155 : ("WhoCalls", 155, yX3_someSeesOnly, "WhoCalls") ∈ zNM := List.mem_of_getElem? (i := 18) rfl
set_option maxRecDepth 20000 in
theorem zkn_X4_158 : ("WhoCalls", 158, yX2_init, "WhoCalls") ∈ zNM := List.mem_of_getElem? (i := 19) rfl
set_option maxRecDepth 20000 in
theorem zkn_X4_183 : ("WhoCalls", 183, yX0_isPromised, "WhoCalls") ∈ zNM := List.mem_of_getElem? (i := 20) rfl
set_option maxRecDepth 20000 in
theorem zkn_X4_186 : ("WhoCalls", 186, yX0_latestPromise, "WhoCalls") ∈ zNM := List.mem_of_getElem? (i := 21) rfl
set_option maxRecDepth 20000 in
theorem zkn_X4_189 : ("WhoCalls", 189, yX1_calledAround, "WhoCalls") ∈ zNM := List.mem_of_getElem? (i := 22) rfl
