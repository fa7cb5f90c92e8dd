def F_ChainPeers : u_T := fun k => match k with
  | 0 => ("ChainPeers", "chain", "I", true)
  | 1 => ("ChainPeers", "wait", "I", true)
  | 2 => ("ChainPeers", "wire", "LChainPeers$Bytes;", true)
  | 3 => ("ChainPeers", "draft", "LChainPeers$Bytes;", true)
  | 4 => ("ChainPeers", "message", "LChainPeers$Message;", true)
  | 5 => ("ChainPeers", "blocks", "LChainPeers$Blocks;", true)
  | 6 => ("ChainPeers", "peers", "[LChainPeers$Peer;", true)
  | 7 => ("ChainPeers", "ownHeader", "[I", true)
  | 8 => ("ChainPeers", "ownBody", "[I", true)
  | 9 => ("ChainPeers", "time", "I", false)
  | _ => ("ChainPeers", "latestId", "I", false)
def t_ChainPeers : Nat → FieldType := fun k => match k with
  | 0 => .int
  | 1 => .int
  | 2 => .object "ChainPeers$Bytes"
  | 3 => .object "ChainPeers$Bytes"
  | 4 => .object "ChainPeers$Message"
  | 5 => .object "ChainPeers$Blocks"
  | 6 => .array (.object "ChainPeers$Peer")
  | 7 => .array .int
  | 8 => .array .int
  | 9 => .int
  | _ => .int
theorem n_ChainPeers : ∀ a, a < 11 → ∀ b, b < 11 → a ≠ b → (F_ChainPeers a).2.1 ≠ (F_ChainPeers b).2.1 := by decide +kernel
theorem t_ChainPeers_ok : ∀ k, k < 11 → parseFieldDescriptor (F_ChainPeers k).2.2.1 = some (t_ChainPeers k) := by decide +kernel
theorem in_ChainPeers : ∀ w ∈ u_ws "ChainPeers" F_ChainPeers 11, w ∈ cz_T := by
  intro w h
  have h : w ∈ ([Cond.laysFinal "ChainPeers" "ChainPeers" "chain" "I", Cond.laysFinal "ChainPeers" "ChainPeers" "wait" "I", Cond.laysFinal "ChainPeers" "ChainPeers" "wire" "LChainPeers$Bytes;", Cond.laysFinal "ChainPeers" "ChainPeers" "draft" "LChainPeers$Bytes;", Cond.laysFinal "ChainPeers" "ChainPeers" "message" "LChainPeers$Message;", Cond.laysFinal "ChainPeers" "ChainPeers" "blocks" "LChainPeers$Blocks;", Cond.laysFinal "ChainPeers" "ChainPeers" "peers" "[LChainPeers$Peer;", Cond.laysFinal "ChainPeers" "ChainPeers" "ownHeader" "[I", Cond.laysFinal "ChainPeers" "ChainPeers" "ownBody" "[I", Cond.lays "ChainPeers" "ChainPeers" "time" "I", Cond.lays "ChainPeers" "ChainPeers" "latestId" "I"] : List Cond) := h
  simp only [List.mem_cons, List.not_mem_nil, or_false] at h
  rcases h with rfl | rfl | rfl | rfl | rfl | rfl | rfl | rfl | rfl | rfl | rfl
  · exact mw_200
  · exact mw_202
  · exact mw_204
  · exact mw_206
  · exact mw_208
  · exact mw_210
  · exact mw_212
  · exact mw_214
  · exact mw_216
  · exact mw_218
  · exact mw_220
def F_Bytes : u_T := fun k => match k with
  | 0 => ("ChainPeers$Bytes", "row", "[I", true)
  | _ => ("ChainPeers$Bytes", "size", "I", false)
def t_Bytes : Nat → FieldType := fun k => match k with
  | 0 => .array .int
  | _ => .int
theorem n_Bytes : ∀ a, a < 2 → ∀ b, b < 2 → a ≠ b → (F_Bytes a).2.1 ≠ (F_Bytes b).2.1 := by decide +kernel
theorem t_Bytes_ok : ∀ k, k < 2 → parseFieldDescriptor (F_Bytes k).2.2.1 = some (t_Bytes k) := by decide +kernel
theorem in_Bytes : ∀ w ∈ u_ws "ChainPeers$Bytes" F_Bytes 2, w ∈ cz_T := by
  intro w h
  have h : w ∈ ([Cond.laysFinal "ChainPeers$Bytes" "ChainPeers$Bytes" "row" "[I", Cond.lays "ChainPeers$Bytes" "ChainPeers$Bytes" "size" "I"] : List Cond) := h
  simp only [List.mem_cons, List.not_mem_nil, or_false] at h
  rcases h with rfl | rfl
  · exact mw_27
  · exact mw_29
def F_Peer : u_T := fun k => match k with
  | 0 => ("ChainPeers$Peer", "state", "I", false)
  | 1 => ("ChainPeers$Peer", "score", "I", false)
  | 2 => ("ChainPeers$Peer", "best", "I", false)
  | 3 => ("ChainPeers$Peer", "back", "I", false)
  | 4 => ("ChainPeers$Peer", "requestKind", "I", false)
  | 5 => ("ChainPeers$Peer", "requestId", "I", false)
  | 6 => ("ChainPeers$Peer", "requestTarget", "I", false)
  | 7 => ("ChainPeers$Peer", "deadline", "I", false)
  | 8 => ("ChainPeers$Peer", "outbox", "[LChainPeers$Bytes;", true)
  | _ => ("ChainPeers$Peer", "waiting", "I", false)
def t_Peer : Nat → FieldType := fun k => match k with
  | 0 => .int
  | 1 => .int
  | 2 => .int
  | 3 => .int
  | 4 => .int
  | 5 => .int
  | 6 => .int
  | 7 => .int
  | 8 => .array (.object "ChainPeers$Bytes")
  | _ => .int
theorem n_Peer : ∀ a, a < 10 → ∀ b, b < 10 → a ≠ b → (F_Peer a).2.1 ≠ (F_Peer b).2.1 := by decide +kernel
theorem t_Peer_ok : ∀ k, k < 10 → parseFieldDescriptor (F_Peer k).2.2.1 = some (t_Peer k) := by decide +kernel
theorem in_Peer : ∀ w ∈ u_ws "ChainPeers$Peer" F_Peer 10, w ∈ cz_T := by
  intro w h
  have h : w ∈ ([Cond.lays "ChainPeers$Peer" "ChainPeers$Peer" "state" "I", Cond.lays "ChainPeers$Peer" "ChainPeers$Peer" "score" "I", Cond.lays "ChainPeers$Peer" "ChainPeers$Peer" "best" "I", Cond.lays "ChainPeers$Peer" "ChainPeers$Peer" "back" "I", Cond.lays "ChainPeers$Peer" "ChainPeers$Peer" "requestKind" "I", Cond.lays "ChainPeers$Peer" "ChainPeers$Peer" "requestId" "I", Cond.lays "ChainPeers$Peer" "ChainPeers$Peer" "requestTarget" "I", Cond.lays "ChainPeers$Peer" "ChainPeers$Peer" "deadline" "I", Cond.laysFinal "ChainPeers$Peer" "ChainPeers$Peer" "outbox" "[LChainPeers$Bytes;", Cond.lays "ChainPeers$Peer" "ChainPeers$Peer" "waiting" "I"] : List Cond) := h
  simp only [List.mem_cons, List.not_mem_nil, or_false] at h
  rcases h with rfl | rfl | rfl | rfl | rfl | rfl | rfl | rfl | rfl | rfl
  · exact mw_168
  · exact mw_170
  · exact mw_172
  · exact mw_174
  · exact mw_176
  · exact mw_178
  · exact mw_180
  · exact mw_182
  · exact mw_184
  · exact mw_186
def F_Message : u_T := fun k => match k with
  | 0 => ("ChainPeers$Message", "kind", "I", false)
  | 1 => ("ChainPeers$Message", "chain", "I", false)
  | 2 => ("ChainPeers$Message", "best", "I", false)
  | 3 => ("ChainPeers$Message", "id", "I", false)
  | 4 => ("ChainPeers$Message", "from", "I", false)
  | 5 => ("ChainPeers$Message", "count", "I", false)
  | 6 => ("ChainPeers$Message", "hash", "I", false)
  | 7 => ("ChainPeers$Message", "listed", "I", false)
  | 8 => ("ChainPeers$Message", "headers", "[[I", true)
  | 9 => ("ChainPeers$Message", "body", "[I", true)
  | 10 => ("ChainPeers$Message", "source", "LChainPeers$Bytes;", true)
  | _ => ("ChainPeers$Message", "at", "I", false)
def t_Message : Nat → FieldType := fun k => match k with
  | 0 => .int
  | 1 => .int
  | 2 => .int
  | 3 => .int
  | 4 => .int
  | 5 => .int
  | 6 => .int
  | 7 => .int
  | 8 => .array (.array .int)
  | 9 => .array .int
  | 10 => .object "ChainPeers$Bytes"
  | _ => .int
theorem n_Message : ∀ a, a < 12 → ∀ b, b < 12 → a ≠ b → (F_Message a).2.1 ≠ (F_Message b).2.1 := by decide +kernel
theorem t_Message_ok : ∀ k, k < 12 → parseFieldDescriptor (F_Message k).2.2.1 = some (t_Message k) := by decide +kernel
theorem in_Message : ∀ w ∈ u_ws "ChainPeers$Message" F_Message 12, w ∈ cz_T := by
  intro w h
  have h : w ∈ ([Cond.lays "ChainPeers$Message" "ChainPeers$Message" "kind" "I", Cond.lays "ChainPeers$Message" "ChainPeers$Message" "chain" "I", Cond.lays "ChainPeers$Message" "ChainPeers$Message" "best" "I", Cond.lays "ChainPeers$Message" "ChainPeers$Message" "id" "I", Cond.lays "ChainPeers$Message" "ChainPeers$Message" "from" "I", Cond.lays "ChainPeers$Message" "ChainPeers$Message" "count" "I", Cond.lays "ChainPeers$Message" "ChainPeers$Message" "hash" "I", Cond.lays "ChainPeers$Message" "ChainPeers$Message" "listed" "I", Cond.laysFinal "ChainPeers$Message" "ChainPeers$Message" "headers" "[[I", Cond.laysFinal "ChainPeers$Message" "ChainPeers$Message" "body" "[I", Cond.laysFinal "ChainPeers$Message" "ChainPeers$Message" "source" "LChainPeers$Bytes;", Cond.lays "ChainPeers$Message" "ChainPeers$Message" "at" "I"] : List Cond) := h
  simp only [List.mem_cons, List.not_mem_nil, or_false] at h
  rcases h with rfl | rfl | rfl | rfl | rfl | rfl | rfl | rfl | rfl | rfl | rfl | rfl
  · exact mw_65
  · exact mw_67
  · exact mw_69
  · exact mw_71
  · exact mw_73
  · exact mw_75
  · exact mw_77
  · exact mw_79
  · exact mw_81
  · exact mw_83
  · exact mw_85
  · exact mw_87
def F_Blocks : u_T := fun k => match k with
  | 0 => ("ChainPeers$Blocks", "headers", "[[I", true)
  | 1 => ("ChainPeers$Blocks", "hashes", "[I", true)
  | 2 => ("ChainPeers$Blocks", "parents", "[I", true)
  | 3 => ("ChainPeers$Blocks", "totals", "[I", true)
  | 4 => ("ChainPeers$Blocks", "bodies", "[[I", true)
  | 5 => ("ChainPeers$Blocks", "bodySizes", "[I", true)
  | 6 => ("ChainPeers$Blocks", "imported", "[Z", true)
  | _ => ("ChainPeers$Blocks", "count", "I", false)
def t_Blocks : Nat → FieldType := fun k => match k with
  | 0 => .array (.array .int)
  | 1 => .array .int
  | 2 => .array .int
  | 3 => .array .int
  | 4 => .array (.array .int)
  | 5 => .array .int
  | 6 => .array .boolean
  | _ => .int
theorem n_Blocks : ∀ a, a < 8 → ∀ b, b < 8 → a ≠ b → (F_Blocks a).2.1 ≠ (F_Blocks b).2.1 := by decide +kernel
theorem t_Blocks_ok : ∀ k, k < 8 → parseFieldDescriptor (F_Blocks k).2.2.1 = some (t_Blocks k) := by decide +kernel
theorem in_Blocks : ∀ w ∈ u_ws "ChainPeers$Blocks" F_Blocks 8, w ∈ cz_T := by
  intro w h
  have h : w ∈ ([Cond.laysFinal "ChainPeers$Blocks" "ChainPeers$Blocks" "headers" "[[I", Cond.laysFinal "ChainPeers$Blocks" "ChainPeers$Blocks" "hashes" "[I", Cond.laysFinal "ChainPeers$Blocks" "ChainPeers$Blocks" "parents" "[I", Cond.laysFinal "ChainPeers$Blocks" "ChainPeers$Blocks" "totals" "[I", Cond.laysFinal "ChainPeers$Blocks" "ChainPeers$Blocks" "bodies" "[[I", Cond.laysFinal "ChainPeers$Blocks" "ChainPeers$Blocks" "bodySizes" "[I", Cond.laysFinal "ChainPeers$Blocks" "ChainPeers$Blocks" "imported" "[Z", Cond.lays "ChainPeers$Blocks" "ChainPeers$Blocks" "count" "I"] : List Cond) := h
  simp only [List.mem_cons, List.not_mem_nil, or_false] at h
  rcases h with rfl | rfl | rfl | rfl | rfl | rfl | rfl | rfl
  · exact mw_119
  · exact mw_121
  · exact mw_123
  · exact mw_125
  · exact mw_127
  · exact mw_129
  · exact mw_131
  · exact mw_133
abbrev cp_cl : List vw_C := [("ChainPeers", F_ChainPeers, 11), ("ChainPeers$Bytes", F_Bytes, 2), ("ChainPeers$Peer", F_Peer, 10), ("ChainPeers$Message", F_Message, 12), ("ChainPeers$Blocks", F_Blocks, 8)]
abbrev b_CP_isPeer : ByteArray := prog_1_method_16_code
def y_CP_isPeer : MethodName := ⟨"ChainPeers", "isPeer", "(I)Z"⟩
def rm_CP_isPeer : Room := { frames := 0, cells := 0, slots := 0, locals := 0 }
abbrev b_Peer_startGreeting : ByteArray := prog_5_method_4_code
def y_Peer_startGreeting : MethodName := ⟨"ChainPeers$Peer", "startGreeting", "()V"⟩
def rm_Peer_startGreeting : Room := { frames := 0, cells := 0, slots := 0, locals := 0 }
abbrev b_Bytes_add : ByteArray := prog_3_method_3_code
def y_Bytes_add : MethodName := ⟨"ChainPeers$Bytes", "add", "(I)V"⟩
def rm_Bytes_add : Room := { frames := 0, cells := 0, slots := 0, locals := 0 }
abbrev b_Bytes_beginList : ByteArray := prog_3_method_6_code
def y_Bytes_beginList : MethodName := ⟨"ChainPeers$Bytes", "beginList", "()I"⟩
def rm_Bytes_beginList : Room := { frames := 1, cells := 0, slots := 0, locals := 21 }
abbrev b_Bytes_codeLength : ByteArray := prog_3_method_10_code
def y_Bytes_codeLength : MethodName := ⟨"ChainPeers$Bytes", "codeLength", "(I)I"⟩
def rm_Bytes_codeLength : Room := { frames := 0, cells := 0, slots := 0, locals := 0 }
abbrev b_Bytes_addNumber : ByteArray := prog_3_method_9_code
def y_Bytes_addNumber : MethodName := ⟨"ChainPeers$Bytes", "addNumber", "(I)V"⟩
def rm_Bytes_addNumber : Room := { frames := 1, cells := 0, slots := 0, locals := 21 }
abbrev b_Bytes_begin : ByteArray := prog_3_method_5_code
def y_Bytes_begin : MethodName := ⟨"ChainPeers$Bytes", "begin", "(I)V"⟩
def rm_Bytes_begin : Room := { frames := 2, cells := 0, slots := 0, locals := 44 }
abbrev b_Blocks_head : ByteArray := prog_2_method_13_code
def y_Blocks_head : MethodName := ⟨"ChainPeers$Blocks", "head", "()I"⟩
def rm_Blocks_head : Room := { frames := 0, cells := 0, slots := 0, locals := 0 }
abbrev b_Blocks_numberOf : ByteArray := prog_2_method_4_code
def y_Blocks_numberOf : MethodName := ⟨"ChainPeers$Blocks", "numberOf", "(I)I"⟩
def rm_Blocks_numberOf : Room := { frames := 0, cells := 0, slots := 0, locals := 0 }
abbrev b_Bytes_endList : ByteArray := prog_3_method_7_code
def y_Bytes_endList : MethodName := ⟨"ChainPeers$Bytes", "endList", "(I)V"⟩
def rm_Bytes_endList : Room := { frames := 0, cells := 0, slots := 0, locals := 0 }
abbrev b_Bytes_copyFrom : ByteArray := prog_3_method_4_code
def y_Bytes_copyFrom : MethodName := ⟨"ChainPeers$Bytes", "copyFrom", "(LChainPeers$Bytes;)V"⟩
def rm_Bytes_copyFrom : Room := { frames := 1, cells := 0, slots := 0, locals := 60 }
abbrev b_Peer_addToOutbox : ByteArray := prog_5_method_13_code
def y_Peer_addToOutbox : MethodName := ⟨"ChainPeers$Peer", "addToOutbox", "(LChainPeers$Bytes;)V"⟩
def rm_Peer_addToOutbox : Room := { frames := 2, cells := 0, slots := 0, locals := 81 }
abbrev b_CP_sendDraft : ByteArray := prog_1_method_29_code
def y_CP_sendDraft : MethodName := ⟨"ChainPeers", "sendDraft", "(LChainPeers$Peer;)V"⟩
def rm_CP_sendDraft : Room := { frames := 3, cells := 0, slots := 0, locals := 102 }
abbrev b_CP_sendHello : ByteArray := prog_1_method_26_code
def y_CP_sendHello : MethodName := ⟨"ChainPeers", "sendHello", "(LChainPeers$Peer;)V"⟩
def rm_CP_sendHello : Room := { frames := 4, cells := 0, slots := 0, locals := 123 }
abbrev b_CP_open : ByteArray := prog_1_method_2_code
def y_CP_open : MethodName := ⟨"ChainPeers", "open", "(I)Z"⟩
def rm_CP_open : Room := { frames := 5, cells := 0, slots := 0, locals := 144 }
abbrev b_Peer_isTalking : ByteArray := prog_5_method_2_code
def y_Peer_isTalking : MethodName := ⟨"ChainPeers$Peer", "isTalking", "()Z"⟩
def rm_Peer_isTalking : Room := { frames := 0, cells := 0, slots := 0, locals := 0 }
abbrev b_Peer_dropRequest : ByteArray := prog_5_method_9_code
def y_Peer_dropRequest : MethodName := ⟨"ChainPeers$Peer", "dropRequest", "()V"⟩
def rm_Peer_dropRequest : Room := { frames := 0, cells := 0, slots := 0, locals := 0 }
abbrev b_Peer_leave : ByteArray := prog_5_method_5_code
def y_Peer_leave : MethodName := ⟨"ChainPeers$Peer", "leave", "(I)V"⟩
def rm_Peer_leave : Room := { frames := 1, cells := 0, slots := 0, locals := 20 }
abbrev b_CP_close : ByteArray := prog_1_method_3_code
def y_CP_close : MethodName := ⟨"ChainPeers", "close", "(I)Z"⟩
def rm_CP_close : Room := { frames := 2, cells := 0, slots := 0, locals := 41 }
abbrev b_CP_put : ByteArray := prog_1_method_4_code
def y_CP_put : MethodName := ⟨"ChainPeers", "put", "(IJ)Z"⟩
def rm_CP_put : Room := { frames := 1, cells := 0, slots := 0, locals := 21 }
abbrev b_CP_clear : ByteArray := prog_1_method_5_code
def y_CP_clear : MethodName := ⟨"ChainPeers", "clear", "()V"⟩
def rm_CP_clear : Room := { frames := 0, cells := 0, slots := 0, locals := 0 }
abbrev b_Bytes_at : ByteArray := prog_3_method_2_code
def y_Bytes_at : MethodName := ⟨"ChainPeers$Bytes", "at", "(I)I"⟩
def rm_Bytes_at : Room := { frames := 0, cells := 0, slots := 0, locals := 0 }
abbrev b_CP_wire : ByteArray := prog_1_method_6_code
def y_CP_wire : MethodName := ⟨"ChainPeers", "wire", "(I)I"⟩
def rm_CP_wire : Room := { frames := 1, cells := 0, slots := 0, locals := 21 }
abbrev b_Message_enterList : ByteArray := prog_4_method_7_code
def y_Message_enterList : MethodName := ⟨"ChainPeers$Message", "enterList", "(I)I"⟩
def rm_Message_enterList : Room := { frames := 1, cells := 0, slots := 0, locals := 21 }
abbrev b_Message_nextNumber : ByteArray := prog_4_method_8_code
def y_Message_nextNumber : MethodName := ⟨"ChainPeers$Message", "nextNumber", "(I)I"⟩
def rm_Message_nextNumber : Room := { frames := 1, cells := 0, slots := 0, locals := 21 }
abbrev b_Message_parseHeader : ByteArray := prog_4_method_5_code
def y_Message_parseHeader : MethodName := ⟨"ChainPeers$Message", "parseHeader", "([II)Z"⟩
def rm_Message_parseHeader : Room := { frames := 2, cells := 0, slots := 0, locals := 47 }
abbrev b_Message_parseHeaders : ByteArray := prog_4_method_4_code
def y_Message_parseHeaders : MethodName := ⟨"ChainPeers$Message", "parseHeaders", "(I)Z"⟩
def rm_Message_parseHeaders : Room := { frames := 3, cells := 0, slots := 0, locals := 71 }
abbrev b_Message_parseBody : ByteArray := prog_4_method_6_code
def y_Message_parseBody : MethodName := ⟨"ChainPeers$Message", "parseBody", "(I)Z"⟩
def rm_Message_parseBody : Room := { frames := 2, cells := 0, slots := 0, locals := 47 }
abbrev b_Message_parseFields : ByteArray := prog_4_method_3_code
def y_Message_parseFields : MethodName := ⟨"ChainPeers$Message", "parseFields", "(I)Z"⟩
def rm_Message_parseFields : Room := { frames := 4, cells := 0, slots := 0, locals := 93 }
abbrev b_Message_parse : ByteArray := prog_4_method_2_code
def y_Message_parse : MethodName := ⟨"ChainPeers$Message", "parse", "(LChainPeers$Bytes;)Z"⟩
def rm_Message_parse : Room := { frames := 5, cells := 0, slots := 0, locals := 114 }
abbrev b_Peer_fault : ByteArray := prog_5_method_6_code
def y_Peer_fault : MethodName := ⟨"ChainPeers$Peer", "fault", "(I)V"⟩
def rm_Peer_fault : Room := { frames := 2, cells := 0, slots := 0, locals := 41 }
abbrev b_CP_greet : ByteArray := prog_1_method_21_code
def y_CP_greet : MethodName := ⟨"ChainPeers", "greet", "(LChainPeers$Peer;)V"⟩
def rm_CP_greet : Room := { frames := 2, cells := 0, slots := 0, locals := 41 }
abbrev b_CP_readGreeting : ByteArray := prog_1_method_20_code
def y_CP_readGreeting : MethodName := ⟨"ChainPeers", "readGreeting", "(LChainPeers$Peer;)I"⟩
def rm_CP_readGreeting : Room := { frames := 3, cells := 0, slots := 0, locals := 62 }
abbrev b_Blocks_ancestor : ByteArray := prog_2_method_14_code
def y_Blocks_ancestor : MethodName := ⟨"ChainPeers$Blocks", "ancestor", "(II)I"⟩
def rm_Blocks_ancestor : Room := { frames := 1, cells := 0, slots := 0, locals := 21 }
abbrev b_Bytes_addHeader : ByteArray := prog_3_method_8_code
def y_Bytes_addHeader : MethodName := ⟨"ChainPeers$Bytes", "addHeader", "([I)V"⟩
def rm_Bytes_addHeader : Room := { frames := 2, cells := 0, slots := 0, locals := 44 }
abbrev b_CP_sendHeaders : ByteArray := prog_1_method_27_code
def y_CP_sendHeaders : MethodName := ⟨"ChainPeers", "sendHeaders", "(LChainPeers$Peer;)V"⟩
def rm_CP_sendHeaders : Room := { frames := 4, cells := 0, slots := 0, locals := 123 }
abbrev b_Peer_wasAsked : ByteArray := prog_5_method_10_code
def y_Peer_wasAsked : MethodName := ⟨"ChainPeers$Peer", "wasAsked", "(II)Z"⟩
def rm_Peer_wasAsked : Room := { frames := 0, cells := 0, slots := 0, locals := 0 }
abbrev b_CP_mix : ByteArray := prog_1_method_19_code
def y_CP_mix : MethodName := ⟨"ChainPeers", "mix", "(I[II)I"⟩
def rm_CP_mix : Room := { frames := 0, cells := 0, slots := 0, locals := 0 }
abbrev b_CP_hashOf : ByteArray := prog_1_method_17_code
def y_CP_hashOf : MethodName := ⟨"ChainPeers", "hashOf", "([I)I"⟩
def rm_CP_hashOf : Room := { frames := 1, cells := 0, slots := 0, locals := 25 }
abbrev b_Blocks_find : ByteArray := prog_2_method_7_code
def y_Blocks_find : MethodName := ⟨"ChainPeers$Blocks", "find", "(I)I"⟩
def rm_Blocks_find : Room := { frames := 0, cells := 0, slots := 0, locals := 0 }
abbrev b_Blocks_isKnown : ByteArray := prog_2_method_8_code
def y_Blocks_isKnown : MethodName := ⟨"ChainPeers$Blocks", "isKnown", "(I)Z"⟩
def rm_Blocks_isKnown : Room := { frames := 1, cells := 0, slots := 0, locals := 22 }
abbrev b_Blocks_isGood : ByteArray := prog_2_method_9_code
def y_Blocks_isGood : MethodName := ⟨"ChainPeers$Blocks", "isGood", "([I)Z"⟩
def rm_Blocks_isGood : Room := { frames := 1, cells := 0, slots := 0, locals := 24 }
abbrev b_Blocks_isFull : ByteArray := prog_2_method_3_code
def y_Blocks_isFull : MethodName := ⟨"ChainPeers$Blocks", "isFull", "()Z"⟩
def rm_Blocks_isFull : Room := { frames := 0, cells := 0, slots := 0, locals := 0 }
abbrev b_Blocks_append : ByteArray := prog_2_method_10_code
def y_Blocks_append : MethodName := ⟨"ChainPeers$Blocks", "append", "([I)V"⟩
def rm_Blocks_append : Room := { frames := 2, cells := 0, slots := 0, locals := 60 }
abbrev b_CP_takeHeaders : ByteArray := prog_1_method_24_code
def y_CP_takeHeaders : MethodName := ⟨"ChainPeers", "takeHeaders", "()Z"⟩
def rm_CP_takeHeaders : Room := { frames := 3, cells := 0, slots := 0, locals := 82 }
abbrev b_Peer_merit : ByteArray := prog_5_method_7_code
def y_Peer_merit : MethodName := ⟨"ChainPeers$Peer", "merit", "()V"⟩
def rm_Peer_merit : Room := { frames := 1, cells := 0, slots := 0, locals := 24 }
abbrev b_CP_readHeaders : ByteArray := prog_1_method_23_code
def y_CP_readHeaders : MethodName := ⟨"ChainPeers", "readHeaders", "(LChainPeers$Peer;)I"⟩
def rm_CP_readHeaders : Room := { frames := 4, cells := 0, slots := 0, locals := 105 }
abbrev b_Blocks_hasBody : ByteArray := prog_2_method_5_code
def y_Blocks_hasBody : MethodName := ⟨"ChainPeers$Blocks", "hasBody", "(I)Z"⟩
def rm_Blocks_hasBody : Room := { frames := 0, cells := 0, slots := 0, locals := 0 }
abbrev b_CP_sendBody : ByteArray := prog_1_method_28_code
def y_CP_sendBody : MethodName := ⟨"ChainPeers", "sendBody", "(LChainPeers$Peer;)V"⟩
def rm_CP_sendBody : Room := { frames := 4, cells := 0, slots := 0, locals := 123 }
abbrev b_CP_rootOf : ByteArray := prog_1_method_18_code
def y_CP_rootOf : MethodName := ⟨"ChainPeers", "rootOf", "([II)I"⟩
def rm_CP_rootOf : Room := { frames := 1, cells := 0, slots := 0, locals := 25 }
abbrev b_Blocks_setBody : ByteArray := prog_2_method_11_code
def y_Blocks_setBody : MethodName := ⟨"ChainPeers$Blocks", "setBody", "(I[II)V"⟩
def rm_Blocks_setBody : Room := { frames := 1, cells := 0, slots := 0, locals := 60 }
abbrev b_CP_readBody : ByteArray := prog_1_method_25_code
def y_CP_readBody : MethodName := ⟨"ChainPeers", "readBody", "(LChainPeers$Peer;)I"⟩
def rm_CP_readBody : Room := { frames := 2, cells := 0, slots := 0, locals := 84 }
abbrev b_CP_readReady : ByteArray := prog_1_method_22_code
def y_CP_readReady : MethodName := ⟨"ChainPeers", "readReady", "(LChainPeers$Peer;)I"⟩
def rm_CP_readReady : Room := { frames := 5, cells := 0, slots := 0, locals := 150 }
abbrev b_CP_receive : ByteArray := prog_1_method_7_code
def y_CP_receive : MethodName := ⟨"ChainPeers", "receive", "(I)I"⟩
def rm_CP_receive : Room := { frames := 6, cells := 0, slots := 0, locals := 171 }
abbrev b_Peer_moveFirstTo : ByteArray := prog_5_method_14_code
def y_Peer_moveFirstTo : MethodName := ⟨"ChainPeers$Peer", "moveFirstTo", "(LChainPeers$Bytes;)V"⟩
def rm_Peer_moveFirstTo : Room := { frames := 2, cells := 0, slots := 0, locals := 81 }
abbrev b_CP_send : ByteArray := prog_1_method_8_code
def y_CP_send : MethodName := ⟨"ChainPeers", "send", "(I)I"⟩
def rm_CP_send : Room := { frames := 3, cells := 0, slots := 0, locals := 104 }
abbrev b_Peer_isIdle : ByteArray := prog_5_method_3_code
def y_Peer_isIdle : MethodName := ⟨"ChainPeers$Peer", "isIdle", "()Z"⟩
def rm_Peer_isIdle : Room := { frames := 0, cells := 0, slots := 0, locals := 0 }
abbrev b_Blocks_heaviest : ByteArray := prog_2_method_12_code
def y_Blocks_heaviest : MethodName := ⟨"ChainPeers$Blocks", "heaviest", "()I"⟩
def rm_Blocks_heaviest : Room := { frames := 0, cells := 0, slots := 0, locals := 0 }
abbrev b_Peer_isAskedForBody : ByteArray := prog_5_method_11_code
def y_Peer_isAskedForBody : MethodName := ⟨"ChainPeers$Peer", "isAskedForBody", "(I)Z"⟩
def rm_Peer_isAskedForBody : Room := { frames := 0, cells := 0, slots := 0, locals := 0 }
abbrev b_CP_isBodyAsked : ByteArray := prog_1_method_34_code
def y_CP_isBodyAsked : MethodName := ⟨"ChainPeers", "isBodyAsked", "(I)Z"⟩
def rm_CP_isBodyAsked : Room := { frames := 1, cells := 0, slots := 0, locals := 21 }
abbrev b_CP_wantedBlock : ByteArray := prog_1_method_33_code
def y_CP_wantedBlock : MethodName := ⟨"ChainPeers", "wantedBlock", "()I"⟩
def rm_CP_wantedBlock : Room := { frames := 2, cells := 0, slots := 0, locals := 43 }
abbrev b_Peer_setRequest : ByteArray := prog_5_method_8_code
def y_Peer_setRequest : MethodName := ⟨"ChainPeers$Peer", "setRequest", "(IIII)V"⟩
def rm_Peer_setRequest : Room := { frames := 0, cells := 0, slots := 0, locals := 0 }
abbrev b_CP_askForBody : ByteArray := prog_1_method_31_code
def y_CP_askForBody : MethodName := ⟨"ChainPeers", "askForBody", "(LChainPeers$Peer;I)V"⟩
def rm_CP_askForBody : Room := { frames := 4, cells := 0, slots := 0, locals := 123 }
abbrev b_CP_askForHeaders : ByteArray := prog_1_method_32_code
def y_CP_askForHeaders : MethodName := ⟨"ChainPeers", "askForHeaders", "(LChainPeers$Peer;I)V"⟩
def rm_CP_askForHeaders : Room := { frames := 4, cells := 0, slots := 0, locals := 123 }
abbrev b_CP_ask : ByteArray := prog_1_method_30_code
def y_CP_ask : MethodName := ⟨"ChainPeers", "ask", "(LChainPeers$Peer;)Z"⟩
def rm_CP_ask : Room := { frames := 5, cells := 0, slots := 0, locals := 145 }
abbrev b_CP_work : ByteArray := prog_1_method_9_code
def y_CP_work : MethodName := ⟨"ChainPeers", "work", "()I"⟩
def rm_CP_work : Room := { frames := 6, cells := 0, slots := 0, locals := 168 }
abbrev b_Peer_isLate : ByteArray := prog_5_method_12_code
def y_Peer_isLate : MethodName := ⟨"ChainPeers$Peer", "isLate", "(I)Z"⟩
def rm_Peer_isLate : Room := { frames := 0, cells := 0, slots := 0, locals := 0 }
abbrev b_CP_loseLateRequests : ByteArray := prog_1_method_35_code
def y_CP_loseLateRequests : MethodName := ⟨"ChainPeers", "loseLateRequests", "()I"⟩
def rm_CP_loseLateRequests : Room := { frames := 3, cells := 0, slots := 0, locals := 62 }
abbrev b_CP_tick : ByteArray := prog_1_method_10_code
def y_CP_tick : MethodName := ⟨"ChainPeers", "tick", "(I)I"⟩
def rm_CP_tick : Room := { frames := 4, cells := 0, slots := 0, locals := 84 }
abbrev b_CP_seal : ByteArray := prog_1_method_11_code
def y_CP_seal : MethodName := ⟨"ChainPeers", "seal", "(III)I"⟩
def rm_CP_seal : Room := { frames := 3, cells := 0, slots := 0, locals := 84 }
abbrev b_Peer_look : ByteArray := prog_5_method_15_code
def y_Peer_look : MethodName := ⟨"ChainPeers$Peer", "look", "(I)I"⟩
def rm_Peer_look : Room := { frames := 0, cells := 0, slots := 0, locals := 0 }
abbrev b_CP_peer : ByteArray := prog_1_method_12_code
def y_CP_peer : MethodName := ⟨"ChainPeers", "peer", "(II)I"⟩
def rm_CP_peer : Room := { frames := 1, cells := 0, slots := 0, locals := 21 }
abbrev b_Blocks_isBlock : ByteArray := prog_2_method_2_code
def y_Blocks_isBlock : MethodName := ⟨"ChainPeers$Blocks", "isBlock", "(I)Z"⟩
def rm_Blocks_isBlock : Room := { frames := 0, cells := 0, slots := 0, locals := 0 }
abbrev b_Blocks_look : ByteArray := prog_2_method_15_code
def y_Blocks_look : MethodName := ⟨"ChainPeers$Blocks", "look", "(II)I"⟩
def rm_Blocks_look : Room := { frames := 1, cells := 0, slots := 0, locals := 21 }
abbrev b_CP_block : ByteArray := prog_1_method_13_code
def y_CP_block : MethodName := ⟨"ChainPeers", "block", "(II)I"⟩
def rm_CP_block : Room := { frames := 2, cells := 0, slots := 0, locals := 43 }
abbrev b_Blocks_hasInBody : ByteArray := prog_2_method_6_code
def y_Blocks_hasInBody : MethodName := ⟨"ChainPeers$Blocks", "hasInBody", "(II)Z"⟩
def rm_Blocks_hasInBody : Room := { frames := 1, cells := 0, slots := 0, locals := 21 }
abbrev b_CP_tx : ByteArray := prog_1_method_14_code
def y_CP_tx : MethodName := ⟨"ChainPeers", "tx", "(II)I"⟩
def rm_CP_tx : Room := { frames := 2, cells := 0, slots := 0, locals := 43 }
abbrev b_CP_state : ByteArray := prog_1_method_15_code
def y_CP_state : MethodName := ⟨"ChainPeers", "state", "(I)I"⟩
def rm_CP_state : Room := { frames := 1, cells := 0, slots := 0, locals := 22 }
theorem Y_CP_isPeer : cz_Y cz_T y_CP_isPeer b_CP_isPeer 1 (some .boolean) 1 := ⟨cz_goodT, mw_229, mw_1, by decide +kernel⟩
theorem Y_Peer_startGreeting : cz_Y cz_T y_Peer_startGreeting b_Peer_startGreeting 1 none 0 := ⟨cz_goodT, mw_233, mw_6, by decide +kernel⟩
theorem Y_Bytes_add : cz_Y cz_T y_Bytes_add b_Bytes_add 2 none 1 := ⟨cz_goodT, mw_249, mw_2, by decide +kernel⟩
theorem Y_Bytes_beginList : cz_Y cz_T y_Bytes_beginList b_Bytes_beginList 2 (some .int) 0 := ⟨cz_goodT, mw_245, mw_2, by decide +kernel⟩
theorem Y_Bytes_codeLength : cz_Y cz_T y_Bytes_codeLength b_Bytes_codeLength 1 (some .int) 1 := ⟨cz_goodT, mw_256, mw_2, by decide +kernel⟩
theorem Y_Bytes_addNumber : cz_Y cz_T y_Bytes_addNumber b_Bytes_addNumber 4 none 1 := ⟨cz_goodT, mw_253, mw_2, by decide +kernel⟩
theorem Y_Bytes_begin : cz_Y cz_T y_Bytes_begin b_Bytes_begin 2 none 1 := ⟨cz_goodT, mw_241, mw_2, by decide +kernel⟩
theorem Y_Blocks_head : cz_Y cz_T y_Blocks_head b_Blocks_head 3 (some .int) 0 := ⟨cz_goodT, mw_263, mw_4, by decide +kernel⟩
theorem Y_Blocks_numberOf : cz_Y cz_T y_Blocks_numberOf b_Blocks_numberOf 2 (some .int) 1 := ⟨cz_goodT, mw_267, mw_4, by decide +kernel⟩
theorem Y_Bytes_endList : cz_Y cz_T y_Bytes_endList b_Bytes_endList 2 none 1 := ⟨cz_goodT, mw_275, mw_2, by decide +kernel⟩
theorem Y_Bytes_copyFrom : cz_Y cz_T y_Bytes_copyFrom b_Bytes_copyFrom 2 none 1 := ⟨cz_goodT, mw_283, mw_2, by decide +kernel⟩
theorem Y_Peer_addToOutbox : cz_Y cz_T y_Peer_addToOutbox b_Peer_addToOutbox 2 none 1 := ⟨cz_goodT, mw_279, mw_6, by decide +kernel⟩
theorem Y_CP_sendDraft : cz_Y cz_T y_CP_sendDraft b_CP_sendDraft 2 none 1 := ⟨cz_goodT, mw_271, mw_1, by decide +kernel⟩
theorem Y_CP_sendHello : cz_Y cz_T y_CP_sendHello b_CP_sendHello 2 none 1 := ⟨cz_goodT, mw_237, mw_1, by decide +kernel⟩
theorem Y_CP_open : cz_Y cz_T y_CP_open b_CP_open 2 (some .boolean) 1 := ⟨cz_goodT, mw_226, mw_1, by decide +kernel⟩
theorem Y_Peer_isTalking : cz_Y cz_T y_Peer_isTalking b_Peer_isTalking 1 (some .boolean) 0 := ⟨cz_goodT, mw_294, mw_6, by decide +kernel⟩
theorem Y_Peer_dropRequest : cz_Y cz_T y_Peer_dropRequest b_Peer_dropRequest 1 none 0 := ⟨cz_goodT, mw_302, mw_6, by decide +kernel⟩
theorem Y_Peer_leave : cz_Y cz_T y_Peer_leave b_Peer_leave 2 none 1 := ⟨cz_goodT, mw_298, mw_6, by decide +kernel⟩
theorem Y_CP_close : cz_Y cz_T y_CP_close b_CP_close 2 (some .boolean) 1 := ⟨cz_goodT, mw_290, mw_1, by decide +kernel⟩
theorem Y_CP_put : cz_Y cz_T y_CP_put b_CP_put 5 (some .boolean) 2 := ⟨cz_goodT, mw_306, mw_1, by decide +kernel⟩
theorem Y_CP_clear : cz_Y cz_T y_CP_clear b_CP_clear 1 none 0 := ⟨cz_goodT, mw_311, mw_1, by decide +kernel⟩
theorem Y_Bytes_at : cz_Y cz_T y_Bytes_at b_Bytes_at 2 (some .int) 1 := ⟨cz_goodT, mw_319, mw_2, by decide +kernel⟩
theorem Y_CP_wire : cz_Y cz_T y_CP_wire b_CP_wire 2 (some .int) 1 := ⟨cz_goodT, mw_315, mw_1, by decide +kernel⟩
theorem Y_Message_enterList : cz_Y cz_T y_Message_enterList b_Message_enterList 3 (some .int) 1 := ⟨cz_goodT, mw_332, mw_3, by decide +kernel⟩
theorem Y_Message_nextNumber : cz_Y cz_T y_Message_nextNumber b_Message_nextNumber 7 (some .int) 1 := ⟨cz_goodT, mw_337, mw_3, by decide +kernel⟩
theorem Y_Message_parseHeader : cz_Y cz_T y_Message_parseHeader b_Message_parseHeader 5 (some .boolean) 2 := ⟨cz_goodT, mw_352, mw_3, by decide +kernel⟩
theorem Y_Message_parseHeaders : cz_Y cz_T y_Message_parseHeaders b_Message_parseHeaders 3 (some .boolean) 1 := ⟨cz_goodT, mw_348, mw_3, by decide +kernel⟩
theorem Y_Message_parseBody : cz_Y cz_T y_Message_parseBody b_Message_parseBody 3 (some .boolean) 1 := ⟨cz_goodT, mw_356, mw_3, by decide +kernel⟩
theorem Y_Message_parseFields : cz_Y cz_T y_Message_parseFields b_Message_parseFields 2 (some .boolean) 1 := ⟨cz_goodT, mw_344, mw_3, by decide +kernel⟩
theorem Y_Message_parse : cz_Y cz_T y_Message_parse b_Message_parse 3 (some .boolean) 1 := ⟨cz_goodT, mw_327, mw_3, by decide +kernel⟩
theorem Y_Peer_fault : cz_Y cz_T y_Peer_fault b_Peer_fault 2 none 1 := ⟨cz_goodT, mw_360, mw_6, by decide +kernel⟩
theorem Y_CP_greet : cz_Y cz_T y_CP_greet b_CP_greet 2 none 1 := ⟨cz_goodT, mw_369, mw_1, by decide +kernel⟩
theorem Y_CP_readGreeting : cz_Y cz_T y_CP_readGreeting b_CP_readGreeting 2 (some .int) 1 := ⟨cz_goodT, mw_365, mw_1, by decide +kernel⟩
theorem Y_Blocks_ancestor : cz_Y cz_T y_Blocks_ancestor b_Blocks_ancestor 5 (some .int) 2 := ⟨cz_goodT, mw_382, mw_4, by decide +kernel⟩
theorem Y_Bytes_addHeader : cz_Y cz_T y_Bytes_addHeader b_Bytes_addHeader 4 none 1 := ⟨cz_goodT, mw_387, mw_2, by decide +kernel⟩
theorem Y_CP_sendHeaders : cz_Y cz_T y_CP_sendHeaders b_CP_sendHeaders 8 none 1 := ⟨cz_goodT, mw_377, mw_1, by decide +kernel⟩
theorem Y_Peer_wasAsked : cz_Y cz_T y_Peer_wasAsked b_Peer_wasAsked 3 (some .boolean) 2 := ⟨cz_goodT, mw_396, mw_6, by decide +kernel⟩
theorem Y_CP_mix : cz_Y cz_T y_CP_mix b_CP_mix 6 (some .int) 3 := ⟨cz_goodT, mw_102, mw_1, by decide +kernel⟩
theorem Y_CP_hashOf : cz_Y cz_T y_CP_hashOf b_CP_hashOf 1 (some .int) 1 := ⟨cz_goodT, mw_99, mw_1, by decide +kernel⟩
theorem Y_Blocks_find : cz_Y cz_T y_Blocks_find b_Blocks_find 3 (some .int) 1 := ⟨cz_goodT, mw_406, mw_4, by decide +kernel⟩
theorem Y_Blocks_isKnown : cz_Y cz_T y_Blocks_isKnown b_Blocks_isKnown 2 (some .boolean) 1 := ⟨cz_goodT, mw_402, mw_4, by decide +kernel⟩
theorem Y_Blocks_isGood : cz_Y cz_T y_Blocks_isGood b_Blocks_isGood 5 (some .boolean) 1 := ⟨cz_goodT, mw_414, mw_4, by decide +kernel⟩
theorem Y_Blocks_isFull : cz_Y cz_T y_Blocks_isFull b_Blocks_isFull 1 (some .boolean) 0 := ⟨cz_goodT, mw_421, mw_4, by decide +kernel⟩
theorem Y_Blocks_append : cz_Y cz_T y_Blocks_append b_Blocks_append 3 none 1 := ⟨cz_goodT, mw_425, mw_4, by decide +kernel⟩
theorem Y_CP_takeHeaders : cz_Y cz_T y_CP_takeHeaders b_CP_takeHeaders 4 (some .boolean) 0 := ⟨cz_goodT, mw_410, mw_1, by decide +kernel⟩
theorem Y_Peer_merit : cz_Y cz_T y_Peer_merit b_Peer_merit 1 none 0 := ⟨cz_goodT, mw_431, mw_6, by decide +kernel⟩
theorem Y_CP_readHeaders : cz_Y cz_T y_CP_readHeaders b_CP_readHeaders 4 (some .int) 1 := ⟨cz_goodT, mw_392, mw_1, by decide +kernel⟩
theorem Y_Blocks_hasBody : cz_Y cz_T y_Blocks_hasBody b_Blocks_hasBody 2 (some .boolean) 1 := ⟨cz_goodT, mw_441, mw_4, by decide +kernel⟩
theorem Y_CP_sendBody : cz_Y cz_T y_CP_sendBody b_CP_sendBody 5 none 1 := ⟨cz_goodT, mw_436, mw_1, by decide +kernel⟩
theorem Y_CP_rootOf : cz_Y cz_T y_CP_rootOf b_CP_rootOf 2 (some .int) 2 := ⟨cz_goodT, mw_448, mw_1, by decide +kernel⟩
theorem Y_Blocks_setBody : cz_Y cz_T y_Blocks_setBody b_Blocks_setBody 5 none 3 := ⟨cz_goodT, mw_452, mw_4, by decide +kernel⟩
theorem Y_CP_readBody : cz_Y cz_T y_CP_readBody b_CP_readBody 3 (some .int) 1 := ⟨cz_goodT, mw_445, mw_1, by decide +kernel⟩
theorem Y_CP_readReady : cz_Y cz_T y_CP_readReady b_CP_readReady 2 (some .int) 1 := ⟨cz_goodT, mw_373, mw_1, by decide +kernel⟩
theorem Y_CP_receive : cz_Y cz_T y_CP_receive b_CP_receive 4 (some .int) 1 := ⟨cz_goodT, mw_323, mw_1, by decide +kernel⟩
theorem Y_Peer_moveFirstTo : cz_Y cz_T y_Peer_moveFirstTo b_Peer_moveFirstTo 4 none 1 := ⟨cz_goodT, mw_461, mw_6, by decide +kernel⟩
theorem Y_CP_send : cz_Y cz_T y_CP_send b_CP_send 2 (some .int) 1 := ⟨cz_goodT, mw_457, mw_1, by decide +kernel⟩
theorem Y_Peer_isIdle : cz_Y cz_T y_Peer_isIdle b_Peer_isIdle 1 (some .boolean) 0 := ⟨cz_goodT, mw_469, mw_6, by decide +kernel⟩
theorem Y_Blocks_heaviest : cz_Y cz_T y_Blocks_heaviest b_Blocks_heaviest 3 (some .int) 0 := ⟨cz_goodT, mw_481, mw_4, by decide +kernel⟩
theorem Y_Peer_isAskedForBody : cz_Y cz_T y_Peer_isAskedForBody b_Peer_isAskedForBody 2 (some .boolean) 1 := ⟨cz_goodT, mw_489, mw_6, by decide +kernel⟩
theorem Y_CP_isBodyAsked : cz_Y cz_T y_CP_isBodyAsked b_CP_isBodyAsked 3 (some .boolean) 1 := ⟨cz_goodT, mw_485, mw_1, by decide +kernel⟩
theorem Y_CP_wantedBlock : cz_Y cz_T y_CP_wantedBlock b_CP_wantedBlock 4 (some .int) 0 := ⟨cz_goodT, mw_477, mw_1, by decide +kernel⟩
theorem Y_Peer_setRequest : cz_Y cz_T y_Peer_setRequest b_Peer_setRequest 5 none 4 := ⟨cz_goodT, mw_497, mw_6, by decide +kernel⟩
theorem Y_CP_askForBody : cz_Y cz_T y_CP_askForBody b_CP_askForBody 3 none 2 := ⟨cz_goodT, mw_493, mw_1, by decide +kernel⟩
theorem Y_CP_askForHeaders : cz_Y cz_T y_CP_askForHeaders b_CP_askForHeaders 3 none 2 := ⟨cz_goodT, mw_501, mw_1, by decide +kernel⟩
theorem Y_CP_ask : cz_Y cz_T y_CP_ask b_CP_ask 4 (some .boolean) 1 := ⟨cz_goodT, mw_473, mw_1, by decide +kernel⟩
theorem Y_CP_work : cz_Y cz_T y_CP_work b_CP_work 3 (some .int) 0 := ⟨cz_goodT, mw_465, mw_1, by decide +kernel⟩
theorem Y_Peer_isLate : cz_Y cz_T y_Peer_isLate b_Peer_isLate 2 (some .boolean) 1 := ⟨cz_goodT, mw_513, mw_6, by decide +kernel⟩
theorem Y_CP_loseLateRequests : cz_Y cz_T y_CP_loseLateRequests b_CP_loseLateRequests 3 (some .int) 0 := ⟨cz_goodT, mw_509, mw_1, by decide +kernel⟩
theorem Y_CP_tick : cz_Y cz_T y_CP_tick b_CP_tick 4 (some .int) 1 := ⟨cz_goodT, mw_505, mw_1, by decide +kernel⟩
theorem Y_CP_seal : cz_Y cz_T y_CP_seal b_CP_seal 7 (some .int) 3 := ⟨cz_goodT, mw_517, mw_1, by decide +kernel⟩
theorem Y_Peer_look : cz_Y cz_T y_Peer_look b_Peer_look 2 (some .int) 1 := ⟨cz_goodT, mw_525, mw_6, by decide +kernel⟩
theorem Y_CP_peer : cz_Y cz_T y_CP_peer b_CP_peer 3 (some .int) 2 := ⟨cz_goodT, mw_521, mw_1, by decide +kernel⟩
theorem Y_Blocks_isBlock : cz_Y cz_T y_Blocks_isBlock b_Blocks_isBlock 2 (some .boolean) 1 := ⟨cz_goodT, mw_537, mw_4, by decide +kernel⟩
theorem Y_Blocks_look : cz_Y cz_T y_Blocks_look b_Blocks_look 3 (some .int) 2 := ⟨cz_goodT, mw_533, mw_4, by decide +kernel⟩
theorem Y_CP_block : cz_Y cz_T y_CP_block b_CP_block 3 (some .int) 2 := ⟨cz_goodT, mw_529, mw_1, by decide +kernel⟩
theorem Y_Blocks_hasInBody : cz_Y cz_T y_Blocks_hasInBody b_Blocks_hasInBody 3 (some .boolean) 2 := ⟨cz_goodT, mw_545, mw_4, by decide +kernel⟩
theorem Y_CP_tx : cz_Y cz_T y_CP_tx b_CP_tx 3 (some .int) 2 := ⟨cz_goodT, mw_541, mw_1, by decide +kernel⟩
theorem Y_CP_state : cz_Y cz_T y_CP_state b_CP_state 2 (some .int) 1 := ⟨cz_goodT, mw_549, mw_1, by decide +kernel⟩
