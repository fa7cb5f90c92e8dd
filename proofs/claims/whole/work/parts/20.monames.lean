def F_ChainPeersModel : u_T := fun k => match k with
  | 0 => ("ChainPeersModel", "chain", "I", false)
  | 1 => ("ChainPeersModel", "wait", "I", false)
  | 2 => ("ChainPeersModel", "time", "I", false)
  | 3 => ("ChainPeersModel", "ids", "I", false)
  | 4 => ("ChainPeersModel", "blocks", "I", false)
  | 5 => ("ChainPeersModel", "header", "[I", false)
  | 6 => ("ChainPeersModel", "bodies", "[I", false)
  | 7 => ("ChainPeersModel", "size", "[I", false)
  | 8 => ("ChainPeersModel", "stage", "[I", false)
  | 9 => ("ChainPeersModel", "score", "[I", false)
  | 10 => ("ChainPeersModel", "best", "[I", false)
  | 11 => ("ChainPeersModel", "back", "[I", false)
  | 12 => ("ChainPeersModel", "asked", "[I", false)
  | 13 => ("ChainPeersModel", "about", "[I", false)
  | 14 => ("ChainPeersModel", "id", "[I", false)
  | 15 => ("ChainPeersModel", "deadline", "[I", false)
  | 16 => ("ChainPeersModel", "outs", "[I", false)
  | 17 => ("ChainPeersModel", "outLength", "[I", false)
  | 18 => ("ChainPeersModel", "outByte", "[I", false)
  | 19 => ("ChainPeersModel", "length", "I", false)
  | 20 => ("ChainPeersModel", "wire", "[I", false)
  | 21 => ("ChainPeersModel", "at", "I", false)
  | 22 => ("ChainPeersModel", "value", "I", false)
  | 23 => ("ChainPeersModel", "plain", "[I", false)
  | 24 => ("ChainPeersModel", "many", "I", false)
  | 25 => ("ChainPeersModel", "list", "[I", false)
  | 26 => ("ChainPeersModel", "written", "I", false)
  | _ => ("ChainPeersModel", "draft", "[I", false)
def t_ChainPeersModel : Nat → FieldType := fun k => match k with
  | 0 => .int
  | 1 => .int
  | 2 => .int
  | 3 => .int
  | 4 => .int
  | 5 => .array .int
  | 6 => .array .int
  | 7 => .array .int
  | 8 => .array .int
  | 9 => .array .int
  | 10 => .array .int
  | 11 => .array .int
  | 12 => .array .int
  | 13 => .array .int
  | 14 => .array .int
  | 15 => .array .int
  | 16 => .array .int
  | 17 => .array .int
  | 18 => .array .int
  | 19 => .int
  | 20 => .array .int
  | 21 => .int
  | 22 => .int
  | 23 => .array .int
  | 24 => .int
  | 25 => .array .int
  | 26 => .int
  | _ => .array .int
theorem n_ChainPeersModel : ∀ a, a < 28 → ∀ b, b < 28 → a ≠ b → (F_ChainPeersModel a).2.1 ≠ (F_ChainPeersModel b).2.1 := by decide +kernel
theorem t_ChainPeersModel_ok : ∀ k, k < 28 → parseFieldDescriptor (F_ChainPeersModel k).2.2.1 = some (t_ChainPeersModel k) := by decide +kernel
theorem in_ChainPeersModel : ∀ w ∈ u_ws "ChainPeersModel" F_ChainPeersModel 28, w ∈ cz_T := by
  intro w h
  have h : w ∈ ([Cond.lays "ChainPeersModel" "ChainPeersModel" "chain" "I", Cond.lays "ChainPeersModel" "ChainPeersModel" "wait" "I", Cond.lays "ChainPeersModel" "ChainPeersModel" "time" "I", Cond.lays "ChainPeersModel" "ChainPeersModel" "ids" "I", Cond.lays "ChainPeersModel" "ChainPeersModel" "blocks" "I", Cond.lays "ChainPeersModel" "ChainPeersModel" "header" "[I", Cond.lays "ChainPeersModel" "ChainPeersModel" "bodies" "[I", Cond.lays "ChainPeersModel" "ChainPeersModel" "size" "[I", Cond.lays "ChainPeersModel" "ChainPeersModel" "stage" "[I", Cond.lays "ChainPeersModel" "ChainPeersModel" "score" "[I", Cond.lays "ChainPeersModel" "ChainPeersModel" "best" "[I", Cond.lays "ChainPeersModel" "ChainPeersModel" "back" "[I", Cond.lays "ChainPeersModel" "ChainPeersModel" "asked" "[I", Cond.lays "ChainPeersModel" "ChainPeersModel" "about" "[I", Cond.lays "ChainPeersModel" "ChainPeersModel" "id" "[I", Cond.lays "ChainPeersModel" "ChainPeersModel" "deadline" "[I", Cond.lays "ChainPeersModel" "ChainPeersModel" "outs" "[I", Cond.lays "ChainPeersModel" "ChainPeersModel" "outLength" "[I", Cond.lays "ChainPeersModel" "ChainPeersModel" "outByte" "[I", Cond.lays "ChainPeersModel" "ChainPeersModel" "length" "I", Cond.lays "ChainPeersModel" "ChainPeersModel" "wire" "[I", Cond.lays "ChainPeersModel" "ChainPeersModel" "at" "I", Cond.lays "ChainPeersModel" "ChainPeersModel" "value" "I", Cond.lays "ChainPeersModel" "ChainPeersModel" "plain" "[I", Cond.lays "ChainPeersModel" "ChainPeersModel" "many" "I", Cond.lays "ChainPeersModel" "ChainPeersModel" "list" "[I", Cond.lays "ChainPeersModel" "ChainPeersModel" "written" "I", Cond.lays "ChainPeersModel" "ChainPeersModel" "draft" "[I"] : List Cond) := h
  simp only [List.mem_cons, List.not_mem_nil, or_false] at h
  rcases h with rfl | rfl | rfl | rfl | rfl | rfl | rfl | rfl | rfl | rfl | rfl | rfl | rfl | rfl | rfl | rfl | rfl | rfl | rfl | rfl | rfl | rfl | rfl | rfl | rfl | rfl | rfl | rfl
  · exact mw_587
  · exact mw_589
  · exact mw_591
  · exact mw_593
  · exact mw_595
  · exact mw_597
  · exact mw_599
  · exact mw_601
  · exact mw_603
  · exact mw_605
  · exact mw_607
  · exact mw_609
  · exact mw_611
  · exact mw_613
  · exact mw_615
  · exact mw_617
  · exact mw_619
  · exact mw_621
  · exact mw_623
  · exact mw_625
  · exact mw_627
  · exact mw_629
  · exact mw_631
  · exact mw_633
  · exact mw_635
  · exact mw_637
  · exact mw_639
  · exact mw_641
abbrev mo_cl : List vw_C := [("ChainPeersModel", F_ChainPeersModel, 28)]
abbrev b_MO_mix : ByteArray := prog_7_method_2_code
def y_MO_mix : MethodName := ⟨"ChainPeersModel", "mix", "(II)I"⟩
def rm_MO_mix : Room := { frames := 0, cells := 0, slots := 0, locals := 0 }
abbrev b_MO_hash : ByteArray := prog_7_method_3_code
def y_MO_hash : MethodName := ⟨"ChainPeersModel", "hash", "(ZI)I"⟩
def rm_MO_hash : Room := { frames := 1, cells := 0, slots := 0, locals := 22 }
abbrev b_MO_blockOf : ByteArray := prog_7_method_4_code
def y_MO_blockOf : MethodName := ⟨"ChainPeersModel", "blockOf", "(I)I"⟩
def rm_MO_blockOf : Room := { frames := 2, cells := 0, slots := 0, locals := 46 }
abbrev b_MO_parent : ByteArray := prog_7_method_5_code
def y_MO_parent : MethodName := ⟨"ChainPeersModel", "parent", "(I)I"⟩
def rm_MO_parent : Room := { frames := 3, cells := 0, slots := 0, locals := 68 }
abbrev b_MO_total : ByteArray := prog_7_method_6_code
def y_MO_total : MethodName := ⟨"ChainPeersModel", "total", "(I)I"⟩
def rm_MO_total : Room := { frames := 4, cells := 0, slots := 0, locals := 89 }
abbrev b_MO_imported : ByteArray := prog_7_method_7_code
def y_MO_imported : MethodName := ⟨"ChainPeersModel", "imported", "(I)Z"⟩
def rm_MO_imported : Room := { frames := 4, cells := 0, slots := 0, locals := 89 }
abbrev b_MO_greatest : ByteArray := prog_7_method_8_code
def y_MO_greatest : MethodName := ⟨"ChainPeersModel", "greatest", "(Z)I"⟩
def rm_MO_greatest : Room := { frames := 5, cells := 0, slots := 0, locals := 113 }
abbrev b_MO_ofHead : ByteArray := prog_7_method_9_code
def y_MO_ofHead : MethodName := ⟨"ChainPeersModel", "ofHead", "(I)I"⟩
def rm_MO_ofHead : Room := { frames := 6, cells := 0, slots := 0, locals := 136 }
abbrev b_MO_good : ByteArray := prog_7_method_10_code
def y_MO_good : MethodName := ⟨"ChainPeersModel", "good", "(I)Z"⟩
def rm_MO_good : Room := { frames := 3, cells := 0, slots := 0, locals := 68 }
abbrev b_MO_add : ByteArray := prog_7_method_11_code
def y_MO_add : MethodName := ⟨"ChainPeersModel", "add", "(I)V"⟩
def rm_MO_add : Room := { frames := 0, cells := 0, slots := 0, locals := 0 }
abbrev b_MO_write : ByteArray := prog_7_method_12_code
def y_MO_write : MethodName := ⟨"ChainPeersModel", "write", "(I)V"⟩
def rm_MO_write : Room := { frames := 0, cells := 0, slots := 0, locals := 0 }
abbrev b_MO_start : ByteArray := prog_7_method_13_code
def y_MO_start : MethodName := ⟨"ChainPeersModel", "start", "(II)V"⟩
def rm_MO_start : Room := { frames := 1, cells := 0, slots := 0, locals := 23 }
abbrev b_MO_wrap : ByteArray := prog_7_method_14_code
def y_MO_wrap : MethodName := ⟨"ChainPeersModel", "wrap", "(I)V"⟩
def rm_MO_wrap : Room := { frames := 0, cells := 0, slots := 0, locals := 0 }
abbrev b_MO_post : ByteArray := prog_7_method_15_code
def y_MO_post : MethodName := ⟨"ChainPeersModel", "post", "(I)V"⟩
def rm_MO_post : Room := { frames := 1, cells := 0, slots := 0, locals := 22 }
abbrev b_MO_isPeer : ByteArray := prog_7_method_24_code
def y_MO_isPeer : MethodName := ⟨"ChainPeersModel", "isPeer", "(I)Z"⟩
def rm_MO_isPeer : Room := { frames := 0, cells := 0, slots := 0, locals := 0 }
abbrev b_MO_send : ByteArray := prog_7_method_16_code
def y_MO_send : MethodName := ⟨"ChainPeersModel", "send", "(I)I"⟩
def rm_MO_send : Room := { frames := 1, cells := 0, slots := 0, locals := 20 }
abbrev b_MO_put : ByteArray := prog_7_method_17_code
def y_MO_put : MethodName := ⟨"ChainPeersModel", "put", "(IJ)Z"⟩
def rm_MO_put : Room := { frames := 0, cells := 0, slots := 0, locals := 0 }
abbrev b_MO_clear : ByteArray := prog_7_method_18_code
def y_MO_clear : MethodName := ⟨"ChainPeersModel", "clear", "()V"⟩
def rm_MO_clear : Room := { frames := 0, cells := 0, slots := 0, locals := 0 }
abbrev b_MO_wire : ByteArray := prog_7_method_19_code
def y_MO_wire : MethodName := ⟨"ChainPeersModel", "wire", "(I)I"⟩
def rm_MO_wire : Room := { frames := 0, cells := 0, slots := 0, locals := 0 }
abbrev b_MO_number : ByteArray := prog_7_method_20_code
def y_MO_number : MethodName := ⟨"ChainPeersModel", "number", "(I)Z"⟩
def rm_MO_number : Room := { frames := 0, cells := 0, slots := 0, locals := 0 }
abbrev b_MO_opening : ByteArray := prog_7_method_21_code
def y_MO_opening : MethodName := ⟨"ChainPeersModel", "opening", "(I)I"⟩
def rm_MO_opening : Room := { frames := 0, cells := 0, slots := 0, locals := 0 }
abbrev b_MO_items : ByteArray := prog_7_method_22_code
def y_MO_items : MethodName := ⟨"ChainPeersModel", "items", "(Z)Z"⟩
def rm_MO_items : Room := { frames := 1, cells := 0, slots := 0, locals := 26 }
abbrev b_MO_decode : ByteArray := prog_7_method_23_code
def y_MO_decode : MethodName := ⟨"ChainPeersModel", "decode", "()I"⟩
def rm_MO_decode : Room := { frames := 2, cells := 0, slots := 0, locals := 49 }
abbrev b_MO_leave : ByteArray := prog_7_method_25_code
def y_MO_leave : MethodName := ⟨"ChainPeersModel", "leave", "(II)V"⟩
def rm_MO_leave : Room := { frames := 0, cells := 0, slots := 0, locals := 0 }
abbrev b_MO_fault : ByteArray := prog_7_method_26_code
def y_MO_fault : MethodName := ⟨"ChainPeersModel", "fault", "(II)Z"⟩
def rm_MO_fault : Room := { frames := 1, cells := 0, slots := 0, locals := 22 }
abbrev b_MO_merit : ByteArray := prog_7_method_27_code
def y_MO_merit : MethodName := ⟨"ChainPeersModel", "merit", "(I)Z"⟩
def rm_MO_merit : Room := { frames := 0, cells := 0, slots := 0, locals := 0 }
abbrev b_MO_open : ByteArray := prog_7_method_28_code
def y_MO_open : MethodName := ⟨"ChainPeersModel", "open", "(I)Z"⟩
def rm_MO_open : Room := { frames := 6, cells := 0, slots := 0, locals := 136 }
abbrev b_MO_close : ByteArray := prog_7_method_29_code
def y_MO_close : MethodName := ⟨"ChainPeersModel", "close", "(I)Z"⟩
def rm_MO_close : Room := { frames := 1, cells := 0, slots := 0, locals := 22 }
abbrev b_MO_greet : ByteArray := prog_7_method_31_code
def y_MO_greet : MethodName := ⟨"ChainPeersModel", "greet", "(II)Z"⟩
def rm_MO_greet : Room := { frames := 2, cells := 0, slots := 0, locals := 44 }
abbrev b_MO_taken : ByteArray := prog_7_method_34_code
def y_MO_taken : MethodName := ⟨"ChainPeersModel", "taken", "(I)Z"⟩
def rm_MO_taken : Room := { frames := 4, cells := 0, slots := 0, locals := 93 }
abbrev b_MO_headers : ByteArray := prog_7_method_33_code
def y_MO_headers : MethodName := ⟨"ChainPeersModel", "headers", "(I)Z"⟩
def rm_MO_headers : Room := { frames := 5, cells := 0, slots := 0, locals := 118 }
abbrev b_MO_body : ByteArray := prog_7_method_35_code
def y_MO_body : MethodName := ⟨"ChainPeersModel", "body", "(I)Z"⟩
def rm_MO_body : Room := { frames := 2, cells := 0, slots := 0, locals := 44 }
abbrev b_MO_hear : ByteArray := prog_7_method_32_code
def y_MO_hear : MethodName := ⟨"ChainPeersModel", "hear", "(II)Z"⟩
def rm_MO_hear : Room := { frames := 7, cells := 0, slots := 0, locals := 159 }
abbrev b_MO_receive : ByteArray := prog_7_method_30_code
def y_MO_receive : MethodName := ⟨"ChainPeersModel", "receive", "(I)I"⟩
def rm_MO_receive : Room := { frames := 8, cells := 0, slots := 0, locals := 186 }
abbrev b_MO_wanted : ByteArray := prog_7_method_36_code
def y_MO_wanted : MethodName := ⟨"ChainPeersModel", "wanted", "(I)Z"⟩
def rm_MO_wanted : Room := { frames := 0, cells := 0, slots := 0, locals := 0 }
abbrev b_MO_lacking : ByteArray := prog_7_method_37_code
def y_MO_lacking : MethodName := ⟨"ChainPeersModel", "lacking", "()I"⟩
def rm_MO_lacking : Room := { frames := 6, cells := 0, slots := 0, locals := 136 }
abbrev b_MO_request : ByteArray := prog_7_method_38_code
def y_MO_request : MethodName := ⟨"ChainPeersModel", "request", "(III)V"⟩
def rm_MO_request : Room := { frames := 2, cells := 0, slots := 0, locals := 46 }
abbrev b_MO_work : ByteArray := prog_7_method_39_code
def y_MO_work : MethodName := ⟨"ChainPeersModel", "work", "()I"⟩
def rm_MO_work : Room := { frames := 7, cells := 0, slots := 0, locals := 159 }
abbrev b_MO_tick : ByteArray := prog_7_method_40_code
def y_MO_tick : MethodName := ⟨"ChainPeersModel", "tick", "(I)I"⟩
def rm_MO_tick : Room := { frames := 2, cells := 0, slots := 0, locals := 44 }
abbrev b_MO_seal : ByteArray := prog_7_method_41_code
def y_MO_seal : MethodName := ⟨"ChainPeersModel", "seal", "(III)I"⟩
def rm_MO_seal : Room := { frames := 6, cells := 0, slots := 0, locals := 136 }
abbrev b_MO_peer : ByteArray := prog_7_method_42_code
def y_MO_peer : MethodName := ⟨"ChainPeersModel", "peer", "(II)I"⟩
def rm_MO_peer : Room := { frames := 1, cells := 0, slots := 0, locals := 20 }
abbrev b_MO_block : ByteArray := prog_7_method_43_code
def y_MO_block : MethodName := ⟨"ChainPeersModel", "block", "(II)I"⟩
def rm_MO_block : Room := { frames := 5, cells := 0, slots := 0, locals := 113 }
abbrev b_MO_tx : ByteArray := prog_7_method_44_code
def y_MO_tx : MethodName := ⟨"ChainPeersModel", "tx", "(II)I"⟩
def rm_MO_tx : Room := { frames := 0, cells := 0, slots := 0, locals := 0 }
abbrev b_MO_state : ByteArray := prog_7_method_45_code
def y_MO_state : MethodName := ⟨"ChainPeersModel", "state", "(I)I"⟩
def rm_MO_state : Room := { frames := 6, cells := 0, slots := 0, locals := 136 }
theorem Y_MO_mix : cz_Y cz_T y_MO_mix b_MO_mix 3 (some .int) 2 := ⟨cz_goodT, mw_689, mw_7, by decide +kernel⟩
theorem Y_MO_hash : cz_Y cz_T y_MO_hash b_MO_hash 5 (some .int) 2 := ⟨cz_goodT, mw_686, mw_7, by decide +kernel⟩
theorem Y_MO_blockOf : cz_Y cz_T y_MO_blockOf b_MO_blockOf 3 (some .int) 1 := ⟨cz_goodT, mw_682, mw_7, by decide +kernel⟩
theorem Y_MO_parent : cz_Y cz_T y_MO_parent b_MO_parent 2 (some .int) 1 := ⟨cz_goodT, mw_678, mw_7, by decide +kernel⟩
theorem Y_MO_total : cz_Y cz_T y_MO_total b_MO_total 5 (some .int) 1 := ⟨cz_goodT, mw_695, mw_7, by decide +kernel⟩
theorem Y_MO_imported : cz_Y cz_T y_MO_imported b_MO_imported 5 (some .boolean) 1 := ⟨cz_goodT, mw_674, mw_7, by decide +kernel⟩
theorem Y_MO_greatest : cz_Y cz_T y_MO_greatest b_MO_greatest 4 (some .int) 1 := ⟨cz_goodT, mw_670, mw_7, by decide +kernel⟩
theorem Y_MO_ofHead : cz_Y cz_T y_MO_ofHead b_MO_ofHead 4 (some .int) 1 := ⟨cz_goodT, mw_784, mw_7, by decide +kernel⟩
theorem Y_MO_good : cz_Y cz_T y_MO_good b_MO_good 6 (some .boolean) 1 := ⟨cz_goodT, mw_768, mw_7, by decide +kernel⟩
theorem Y_MO_add : cz_Y cz_T y_MO_add b_MO_add 3 none 1 := ⟨cz_goodT, mw_772, mw_7, by decide +kernel⟩
theorem Y_MO_write : cz_Y cz_T y_MO_write b_MO_write 4 none 1 := ⟨cz_goodT, mw_703, mw_7, by decide +kernel⟩
theorem Y_MO_start : cz_Y cz_T y_MO_start b_MO_start 3 none 2 := ⟨cz_goodT, mw_699, mw_7, by decide +kernel⟩
theorem Y_MO_wrap : cz_Y cz_T y_MO_wrap b_MO_wrap 3 none 1 := ⟨cz_goodT, mw_713, mw_7, by decide +kernel⟩
theorem Y_MO_post : cz_Y cz_T y_MO_post b_MO_post 4 none 1 := ⟨cz_goodT, mw_709, mw_7, by decide +kernel⟩
theorem Y_MO_isPeer : cz_Y cz_T y_MO_isPeer b_MO_isPeer 1 (some .boolean) 1 := ⟨cz_goodT, mw_650, mw_7, by decide +kernel⟩
theorem Y_MO_send : cz_Y cz_T y_MO_send b_MO_send 4 (some .int) 1 := ⟨cz_goodT, mw_647, mw_7, by decide +kernel⟩
theorem Y_MO_put : cz_Y cz_T y_MO_put b_MO_put 5 (some .boolean) 2 := ⟨cz_goodT, mw_654, mw_7, by decide +kernel⟩
theorem Y_MO_clear : cz_Y cz_T y_MO_clear b_MO_clear 1 none 0 := ⟨cz_goodT, mw_658, mw_7, by decide +kernel⟩
theorem Y_MO_wire : cz_Y cz_T y_MO_wire b_MO_wire 2 (some .int) 1 := ⟨cz_goodT, mw_662, mw_7, by decide +kernel⟩
theorem Y_MO_number : cz_Y cz_T y_MO_number b_MO_number 7 (some .boolean) 1 := ⟨cz_goodT, mw_737, mw_7, by decide +kernel⟩
theorem Y_MO_opening : cz_Y cz_T y_MO_opening b_MO_opening 3 (some .int) 1 := ⟨cz_goodT, mw_733, mw_7, by decide +kernel⟩
theorem Y_MO_items : cz_Y cz_T y_MO_items b_MO_items 4 (some .boolean) 1 := ⟨cz_goodT, mw_744, mw_7, by decide +kernel⟩
theorem Y_MO_decode : cz_Y cz_T y_MO_decode b_MO_decode 4 (some .int) 0 := ⟨cz_goodT, mw_729, mw_7, by decide +kernel⟩
theorem Y_MO_leave : cz_Y cz_T y_MO_leave b_MO_leave 3 none 2 := ⟨cz_goodT, mw_721, mw_7, by decide +kernel⟩
theorem Y_MO_fault : cz_Y cz_T y_MO_fault b_MO_fault 3 (some .boolean) 2 := ⟨cz_goodT, mw_748, mw_7, by decide +kernel⟩
theorem Y_MO_merit : cz_Y cz_T y_MO_merit b_MO_merit 2 (some .boolean) 1 := ⟨cz_goodT, mw_776, mw_7, by decide +kernel⟩
theorem Y_MO_open : cz_Y cz_T y_MO_open b_MO_open 3 (some .boolean) 1 := ⟨cz_goodT, mw_666, mw_7, by decide +kernel⟩
theorem Y_MO_close : cz_Y cz_T y_MO_close b_MO_close 2 (some .boolean) 1 := ⟨cz_goodT, mw_717, mw_7, by decide +kernel⟩
theorem Y_MO_greet : cz_Y cz_T y_MO_greet b_MO_greet 3 (some .boolean) 2 := ⟨cz_goodT, mw_752, mw_7, by decide +kernel⟩
theorem Y_MO_taken : cz_Y cz_T y_MO_taken b_MO_taken 6 (some .boolean) 1 := ⟨cz_goodT, mw_764, mw_7, by decide +kernel⟩
theorem Y_MO_headers : cz_Y cz_T y_MO_headers b_MO_headers 3 (some .boolean) 1 := ⟨cz_goodT, mw_760, mw_7, by decide +kernel⟩
theorem Y_MO_body : cz_Y cz_T y_MO_body b_MO_body 5 (some .boolean) 1 := ⟨cz_goodT, mw_780, mw_7, by decide +kernel⟩
theorem Y_MO_hear : cz_Y cz_T y_MO_hear b_MO_hear 8 (some .boolean) 2 := ⟨cz_goodT, mw_756, mw_7, by decide +kernel⟩
theorem Y_MO_receive : cz_Y cz_T y_MO_receive b_MO_receive 4 (some .int) 1 := ⟨cz_goodT, mw_725, mw_7, by decide +kernel⟩
theorem Y_MO_wanted : cz_Y cz_T y_MO_wanted b_MO_wanted 4 (some .boolean) 1 := ⟨cz_goodT, mw_796, mw_7, by decide +kernel⟩
theorem Y_MO_lacking : cz_Y cz_T y_MO_lacking b_MO_lacking 4 (some .int) 0 := ⟨cz_goodT, mw_792, mw_7, by decide +kernel⟩
theorem Y_MO_request : cz_Y cz_T y_MO_request b_MO_request 5 none 3 := ⟨cz_goodT, mw_800, mw_7, by decide +kernel⟩
theorem Y_MO_work : cz_Y cz_T y_MO_work b_MO_work 6 (some .int) 0 := ⟨cz_goodT, mw_788, mw_7, by decide +kernel⟩
theorem Y_MO_tick : cz_Y cz_T y_MO_tick b_MO_tick 6 (some .int) 1 := ⟨cz_goodT, mw_804, mw_7, by decide +kernel⟩
theorem Y_MO_seal : cz_Y cz_T y_MO_seal b_MO_seal 6 (some .int) 3 := ⟨cz_goodT, mw_808, mw_7, by decide +kernel⟩
theorem Y_MO_peer : cz_Y cz_T y_MO_peer b_MO_peer 3 (some .int) 2 := ⟨cz_goodT, mw_812, mw_7, by decide +kernel⟩
theorem Y_MO_block : cz_Y cz_T y_MO_block b_MO_block 3 (some .int) 2 := ⟨cz_goodT, mw_816, mw_7, by decide +kernel⟩
theorem Y_MO_tx : cz_Y cz_T y_MO_tx b_MO_tx 3 (some .int) 2 := ⟨cz_goodT, mw_820, mw_7, by decide +kernel⟩
theorem Y_MO_state : cz_Y cz_T y_MO_state b_MO_state 2 (some .int) 1 := ⟨cz_goodT, mw_824, mw_7, by decide +kernel⟩
