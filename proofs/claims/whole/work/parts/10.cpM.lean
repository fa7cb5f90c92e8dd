set_option maxHeartbeats 4000000 in
set_option maxRecDepth 100000 in
theorem c_Message_enterList (l : Launch) {X : cz_X} {A : Nat → Prop} (hD : ∀ M, va_D A (cp_wl X M)) (M : cz_M) (a1 : Int32) {r2 : Int32} {M2 : cz_M} (h : f_Message_enterList M a1 = some (r2, M2)) : cp_Ct l X A y_Message_enterList (Cond.code y_Message_enterList b_Message_enterList 3 (some .int) :: cz_T) rm_Message_enterList [.ref (X.2.1 16), .int a1] M (some (.int r2)) M2 := by
  refine cz_Met (by decide) rfl (Nat.le_of_ble_eq_true rfl) hD ?_
  intro p e s m args below meth c hargs S hr hlocks hP ls hl
  have S : cz_Cx p m c b_Message_enterList 3 s args cz_T "ChainPeers$Message" X.1 cp_cl (cp_tys X) cz_N A (cp_wl X) := S
  have hx := S.1.1
  have hb := S.1.2.1
  have hS : va_S A s.heap s.heap [] := va_S.rf
  have hl : lv_has ls 3 [(0, .ref (X.2.1 16)), (1, .int a1)] := hl
  refine lv_aload_n hx hb d_Message_enterList_0 rfl (lv_at hl 0 rfl) ?_
  refine gf_Message_23 S hP d_Message_enterList_1 ?_
  refine lv_aload_n hx hb d_Message_enterList_4 rfl (lv_at hl 0 rfl) ?_
  refine gf_Message_31 S hP d_Message_enterList_5 ?_
  obtain ⟨r8, M8, hq8, h⟩ := cz_ubi h
  refine iv_Message_83 (rest := []) S hl.1 hP hS (c_Bytes_at l hD M 14 (M.1 16 11) cp_k14 hq8) cp_k14 ⟨Nat.le_of_ble_eq_true rfl, Nat.le_of_ble_eq_true rfl⟩ (Nat.le_of_ble_eq_true rfl) rfl d_Message_enterList_8 (fun H locs hP hS => ?_)
  refine lv_sipush (v := 192) hx hb d_Message_enterList_11 (by decide) ?_
  refine lv_isub hx hb d_Message_enterList_14 ?_
  refine lv_istore_n (lv' := [(2, .int (r8 - (192 : Int32))), (0, .ref (X.2.1 16)), (1, .int a1)]) hx hb d_Message_enterList_15 rfl hl (by decide) rfl (fun ls hl => ?_)
  refine lv_iload_n hx hb d_Message_enterList_16 rfl (lv_at hl 0 rfl) ?_
  refine lv_if_lt (tgt := 36) hx hb d_Message_enterList_17 rfl (fun hc => ?_) (fun hc => ?_)
  · have h := cz_t hc h
    refine lv_iconst (v := -1) hx hb d_Message_enterList_36 (by decide) ?_
    exact cz_ireth S hr hlocks hP hS h d_Message_enterList_37
  have h := cz_f hc h
  refine lv_iload_n hx hb d_Message_enterList_20 rfl (lv_at hl 0 rfl) ?_
  refine lv_bipush (v := 55) hx hb d_Message_enterList_21 (by decide) ?_
  refine lv_icmp_gt (tgt := 36) hx hb d_Message_enterList_23 rfl (fun hc => ?_) (fun hc => ?_)
  · have h := cz_t hc h
    refine lv_iconst (v := -1) hx hb d_Message_enterList_36 (by decide) ?_
    exact cz_ireth S hr hlocks hP hS h d_Message_enterList_37
  have h := cz_f hc h
  refine lv_aload_n hx hb d_Message_enterList_26 rfl (lv_at hl 1 rfl) ?_
  refine gf_Message_31 S hP d_Message_enterList_27 ?_
  refine lv_iload_n hx hb d_Message_enterList_30 rfl (lv_at hl 0 rfl) ?_
  refine lv_iadd hx hb d_Message_enterList_31 ?_
  refine lv_iload_n hx hb d_Message_enterList_32 rfl (lv_at hl 2 rfl) ?_
  refine lv_icmp_lt (tgt := 38) hx hb d_Message_enterList_33 rfl (fun hc => ?_) (fun hc => ?_)
  · have h := cz_t hc h
    refine lv_aload_n hx hb d_Message_enterList_38 rfl (lv_at hl 1 rfl) ?_
    refine lv_dup hx hb d_Message_enterList_39 rfl ?_
    refine gf_Message_31 S hP d_Message_enterList_40 ?_
    refine lv_iconst (v := 1) hx hb d_Message_enterList_43 (by decide) ?_
    refine lv_iadd hx hb d_Message_enterList_44 ?_
    refine pf_Message_31 S hP hS d_Message_enterList_45 (fun H locs hP hS => ?_)
    refine lv_aload_n hx hb d_Message_enterList_48 rfl (lv_at hl 1 rfl) ?_
    refine gf_Message_31 S hP d_Message_enterList_49 ?_
    refine lv_iload_n hx hb d_Message_enterList_52 rfl (lv_at hl 0 rfl) ?_
    refine lv_iadd hx hb d_Message_enterList_53 ?_
    exact cz_ireth S hr hlocks hP hS h d_Message_enterList_54
  have h := cz_f hc h
  refine lv_iconst (v := -1) hx hb d_Message_enterList_36 (by decide) ?_
  exact cz_ireth S hr hlocks hP hS h d_Message_enterList_37
set_option maxHeartbeats 4000000 in
set_option maxRecDepth 100000 in
theorem c_Message_nextNumber (l : Launch) {X : cz_X} {A : Nat → Prop} (hD : ∀ M, va_D A (cp_wl X M)) (M : cz_M) (a1 : Int32) {r2 : Int32} {M2 : cz_M} (h : f_Message_nextNumber M a1 = some (r2, M2)) : cp_Ct l X A y_Message_nextNumber (Cond.code y_Message_nextNumber b_Message_nextNumber 7 (some .int) :: cz_T) rm_Message_nextNumber [.ref (X.2.1 16), .int a1] M (some (.int r2)) M2 := by
  refine cz_Met (by decide) rfl (Nat.le_of_ble_eq_true rfl) hD ?_
  intro p e s m args below meth c hargs S hr hlocks hP ls hl
  have S : cz_Cx p m c b_Message_nextNumber 7 s args cz_T "ChainPeers$Message" X.1 cp_cl (cp_tys X) cz_N A (cp_wl X) := S
  have hx := S.1.1
  have hb := S.1.2.1
  have hS : va_S A s.heap s.heap [] := va_S.rf
  have hl : lv_has ls 7 [(0, .ref (X.2.1 16)), (1, .int a1)] := hl
  have hb112 : ∀ (M : cz_M) (v3 : Int32) (w4 : Int64), b_Message_nextNumber_112 a1 M v3 w4 = some (r2, M2) → ∀ (H : Heap) (locs : List Loc) (ls : Array Slot), va_P X.1 cp_cl (cp_wl X M) H → va_S A s.heap H locs → lv_has ls 7 [(0, .ref (X.2.1 16)), (3, .int v3), (4, .long w4)] → W p l e rm_Message_nextNumber s m args below meth c H locs 0 0 (MQ below (cz_Qw X.1 cp_cl (some (.int r2)) (cp_wl X M2) A) args s 0 0 A) (F0 m 112 ls []) := by
    intro M v3 w4 h H locs ls hP hS hl
    refine lv_lload hx hb d_Message_nextNumber_112 (lv_at hl 2 rfl) ?_
    refine lv_ldc2 (v := 2147483647) hx hb S.1.2.2.2.1 (S.1.2.2.2.2 _ mw_339) d_Message_nextNumber_114 ?_
    refine W.lcmp hx hb d_Message_nextNumber_117 ?_
    refine lv_if_gt (tgt := 133) hx hb d_Message_nextNumber_118 rfl (fun hc => ?_) (fun hc => ?_)
    · have h := cz_t hc h
      refine lv_iconst (v := -1) hx hb d_Message_nextNumber_133 (by decide) ?_
      exact cz_ireth S hr hlocks hP hS h d_Message_nextNumber_134
    have h := cz_f hc h
    refine lv_lload hx hb d_Message_nextNumber_121 (lv_at hl 2 rfl) ?_
    refine lv_l2i (v := w4.toInt32) hx hb d_Message_nextNumber_123 rfl ?_
    obtain ⟨r124, M124, hq124, h⟩ := cz_ubi h
    refine iv_Message_89 (rest := []) S hl.1 hP hS (c_Bytes_codeLength l hD M w4.toInt32 hq124) ⟨Nat.le_of_ble_eq_true rfl, Nat.le_of_ble_eq_true rfl⟩ (Nat.le_of_ble_eq_true rfl) rfl d_Message_nextNumber_124 (fun H locs hP hS => ?_)
    refine lv_iconst (v := 1) hx hb d_Message_nextNumber_127 (by decide) ?_
    refine lv_iload_n hx hb d_Message_nextNumber_128 rfl (lv_at hl 1 rfl) ?_
    refine lv_iadd hx hb d_Message_nextNumber_129 ?_
    refine lv_icmp_eq (tgt := 135) hx hb d_Message_nextNumber_130 rfl (fun hc => ?_) (fun hc => ?_)
    · have h := cz_t hc h
      refine lv_aload_n hx hb d_Message_nextNumber_135 rfl (lv_at hl 0 rfl) ?_
      refine lv_dup hx hb d_Message_nextNumber_136 rfl ?_
      refine gf_Message_31 S hP d_Message_nextNumber_137 ?_
      refine lv_iconst (v := 1) hx hb d_Message_nextNumber_140 (by decide) ?_
      refine lv_iload_n hx hb d_Message_nextNumber_141 rfl (lv_at hl 1 rfl) ?_
      refine lv_iadd hx hb d_Message_nextNumber_142 ?_
      refine lv_iadd hx hb d_Message_nextNumber_143 ?_
      refine pf_Message_31 S hP hS d_Message_nextNumber_144 (fun H locs hP hS => ?_)
      refine lv_lload hx hb d_Message_nextNumber_147 (lv_at hl 2 rfl) ?_
      refine lv_l2i (v := w4.toInt32) hx hb d_Message_nextNumber_149 rfl ?_
      exact cz_ireth S hr hlocks hP hS h d_Message_nextNumber_150
    have h := cz_f hc h
    refine lv_iconst (v := -1) hx hb d_Message_nextNumber_133 (by decide) ?_
    exact cz_ireth S hr hlocks hP hS h d_Message_nextNumber_134
  have hb76 : ∀ (n : Nat) (M : cz_M) (v3 : Int32) (w4 : Int64) (v6 : Int32), cz_lp4 (l_Message_nextNumber_76 a1) n M v3 w4 v6 = some (r2, M2) → ∀ (H : Heap) (locs : List Loc) (ls : Array Slot), va_P X.1 cp_cl (cp_wl X M) H → va_S A s.heap H locs → lv_has ls 7 [(0, .ref (X.2.1 16)), (3, .int v3), (4, .long w4), (6, .int v6)] → W p l e rm_Message_nextNumber s m args below meth c H locs 0 0 (MQ below (cz_Qw X.1 cp_cl (some (.int r2)) (cp_wl X M2) A) args s 0 0 A) (F0 m 76 ls []) := by
    refine cz_ind4 (fun rec76 ih76 M v3 w4 v6 h H locs ls hP hS hl => ?_)
    refine lv_iload hx hb d_Message_nextNumber_76 (lv_at hl 3 rfl) ?_
    refine lv_iload_n hx hb d_Message_nextNumber_78 rfl (lv_at hl 1 rfl) ?_
    refine lv_icmp_gt (tgt := 112) hx hb d_Message_nextNumber_79 rfl (fun hc => ?_) (fun hc => ?_)
    · have h := cz_t hc h
      exact hb112 M v3 w4 h _ _ _ hP hS (lv_sub hl [0, 1, 2] rfl)
    have h := cz_f hc h
    refine lv_lload hx hb d_Message_nextNumber_82 (lv_at hl 2 rfl) ?_
    refine lv_ldc2 (v := 256) hx hb S.1.2.2.2.1 (S.1.2.2.2.2 _ mw_338) d_Message_nextNumber_84 ?_
    refine lv_lmul hx hb d_Message_nextNumber_87 ?_
    refine lv_aload_n hx hb d_Message_nextNumber_88 rfl (lv_at hl 0 rfl) ?_
    refine gf_Message_23 S hP d_Message_nextNumber_89 ?_
    refine lv_aload_n hx hb d_Message_nextNumber_92 rfl (lv_at hl 0 rfl) ?_
    refine gf_Message_31 S hP d_Message_nextNumber_93 ?_
    refine lv_iload hx hb d_Message_nextNumber_96 (lv_at hl 3 rfl) ?_
    refine lv_iadd hx hb d_Message_nextNumber_98 ?_
    obtain ⟨r99, M99, hq99, h⟩ := cz_ubi h
    refine iv_Message_83 (rest := [.long (w4 * (256 : Int64))]) S hl.1 hP hS (c_Bytes_at l hD M 14 ((M.1 16 11) + v6) cp_k14 hq99) cp_k14 ⟨Nat.le_of_ble_eq_true rfl, Nat.le_of_ble_eq_true rfl⟩ (Nat.le_of_ble_eq_true rfl) rfl d_Message_nextNumber_99 (fun H locs hP hS => ?_)
    refine lv_i2l (v := r99.toInt64) hx hb d_Message_nextNumber_102 rfl ?_
    refine lv_ladd hx hb d_Message_nextNumber_103 ?_
    refine lv_lstore (lv' := [(4, .long ((w4 * (256 : Int64)) + r99.toInt64)), (0, .ref (X.2.1 16)), (3, .int v3), (6, .int v6)]) hx hb d_Message_nextNumber_104 hl (by decide) rfl (fun ls hl => ?_)
    refine lv_iinc (lv' := [(6, .int (v6 + 1)), (4, .long ((w4 * (256 : Int64)) + r99.toInt64)), (0, .ref (X.2.1 16)), (3, .int v3)]) (v := v6 + 1) (k := 3) hx hb d_Message_nextNumber_106 hl rfl (cz_inc1 _) (by decide) rfl (fun ls hl => ?_)
    refine lv_goto (tgt := 76) hx hb d_Message_nextNumber_109 rfl ?_
    exact ih76 M99 v3 ((w4 * (256 : Int64)) + r99.toInt64) (v6 + 1) h _ _ _ hP hS (lv_sub hl [2, 3, 1, 0] rfl)
  have hb43 : ∀ (M : cz_M) (v2 : Int32), b_Message_nextNumber_43 a1 M v2 = some (r2, M2) → ∀ (H : Heap) (locs : List Loc) (ls : Array Slot), va_P X.1 cp_cl (cp_wl X M) H → va_S A s.heap H locs → lv_has ls 7 [(0, .ref (X.2.1 16)), (1, .int a1), (2, .int v2)] → W p l e rm_Message_nextNumber s m args below meth c H locs 0 0 (MQ below (cz_Qw X.1 cp_cl (some (.int r2)) (cp_wl X M2) A) args s 0 0 A) (F0 m 43 ls []) := by
    intro M v2 h H locs ls hP hS hl
    refine lv_iload_n hx hb d_Message_nextNumber_43 rfl (lv_at hl 2 rfl) ?_
    refine lv_sipush (v := 128) hx hb d_Message_nextNumber_44 (by decide) ?_
    refine lv_isub hx hb d_Message_nextNumber_47 ?_
    refine lv_istore_n (lv' := [(3, .int (v2 - (128 : Int32))), (0, .ref (X.2.1 16)), (1, .int a1), (2, .int v2)]) hx hb d_Message_nextNumber_48 rfl hl (by decide) rfl (fun ls hl => ?_)
    refine lv_iload_n hx hb d_Message_nextNumber_49 rfl (lv_at hl 0 rfl) ?_
    refine lv_if_lt (tgt := 68) hx hb d_Message_nextNumber_50 rfl (fun hc => ?_) (fun hc => ?_)
    · have h := cz_t hc h
      refine lv_iconst (v := -1) hx hb d_Message_nextNumber_68 (by decide) ?_
      exact cz_ireth S hr hlocks hP hS h d_Message_nextNumber_69
    have h := cz_f hc h
    refine lv_iload_n hx hb d_Message_nextNumber_53 rfl (lv_at hl 0 rfl) ?_
    refine lv_iconst (v := 4) hx hb d_Message_nextNumber_54 (by decide) ?_
    refine lv_icmp_gt (tgt := 68) hx hb d_Message_nextNumber_55 rfl (fun hc => ?_) (fun hc => ?_)
    · have h := cz_t hc h
      refine lv_iconst (v := -1) hx hb d_Message_nextNumber_68 (by decide) ?_
      exact cz_ireth S hr hlocks hP hS h d_Message_nextNumber_69
    have h := cz_f hc h
    refine lv_aload_n hx hb d_Message_nextNumber_58 rfl (lv_at hl 1 rfl) ?_
    refine gf_Message_31 S hP d_Message_nextNumber_59 ?_
    refine lv_iload_n hx hb d_Message_nextNumber_62 rfl (lv_at hl 0 rfl) ?_
    refine lv_iadd hx hb d_Message_nextNumber_63 ?_
    refine lv_iload_n hx hb d_Message_nextNumber_64 rfl (lv_at hl 2 rfl) ?_
    refine lv_icmp_lt (tgt := 70) hx hb d_Message_nextNumber_65 rfl (fun hc => ?_) (fun hc => ?_)
    · have h := cz_t hc h
      refine lv_lconst (v := 0) hx hb d_Message_nextNumber_70 (by decide) ?_
      refine lv_lstore (lv' := [(4, .long (0 : Int64)), (3, .int (v2 - (128 : Int32))), (0, .ref (X.2.1 16)), (1, .int a1), (2, .int v2)]) hx hb d_Message_nextNumber_71 hl (by decide) rfl (fun ls hl => ?_)
      refine lv_iconst (v := 1) hx hb d_Message_nextNumber_73 (by decide) ?_
      refine lv_istore (lv' := [(6, .int (1 : Int32)), (4, .long (0 : Int64)), (3, .int (v2 - (128 : Int32))), (0, .ref (X.2.1 16)), (1, .int a1), (2, .int v2)]) hx hb d_Message_nextNumber_74 hl (by decide) rfl (fun ls hl => ?_)
      exact hb76 _ M (v2 - (128 : Int32)) (0 : Int64) (1 : Int32) h _ _ _ hP hS (lv_sub hl [3, 2, 1, 0] rfl)
    have h := cz_f hc h
    refine lv_iconst (v := -1) hx hb d_Message_nextNumber_68 (by decide) ?_
    exact cz_ireth S hr hlocks hP hS h d_Message_nextNumber_69
  refine lv_aload_n hx hb d_Message_nextNumber_0 rfl (lv_at hl 0 rfl) ?_
  refine gf_Message_23 S hP d_Message_nextNumber_1 ?_
  refine lv_aload_n hx hb d_Message_nextNumber_4 rfl (lv_at hl 0 rfl) ?_
  refine gf_Message_31 S hP d_Message_nextNumber_5 ?_
  obtain ⟨r8, M8, hq8, h⟩ := cz_ubi h
  refine iv_Message_83 (rest := []) S hl.1 hP hS (c_Bytes_at l hD M 14 (M.1 16 11) cp_k14 hq8) cp_k14 ⟨Nat.le_of_ble_eq_true rfl, Nat.le_of_ble_eq_true rfl⟩ (Nat.le_of_ble_eq_true rfl) rfl d_Message_nextNumber_8 (fun H locs hP hS => ?_)
  refine lv_istore_n (lv' := [(2, .int r8), (0, .ref (X.2.1 16)), (1, .int a1)]) hx hb d_Message_nextNumber_11 rfl hl (by decide) rfl (fun ls hl => ?_)
  refine lv_iload_n hx hb d_Message_nextNumber_12 rfl (lv_at hl 0 rfl) ?_
  refine lv_if_le (tgt := 43) hx hb d_Message_nextNumber_13 rfl (fun hc => ?_) (fun hc => ?_)
  · have h := cz_t hc h
    exact hb43 M8 r8 h _ _ _ hP hS (lv_sub hl [1, 2, 0] rfl)
  have h := cz_f hc h
  refine lv_iload_n hx hb d_Message_nextNumber_16 rfl (lv_at hl 0 rfl) ?_
  refine lv_sipush (v := 128) hx hb d_Message_nextNumber_17 (by decide) ?_
  refine lv_icmp_ge (tgt := 43) hx hb d_Message_nextNumber_20 rfl (fun hc => ?_) (fun hc => ?_)
  · have h := cz_t hc h
    exact hb43 M8 r8 h _ _ _ hP hS (lv_sub hl [1, 2, 0] rfl)
  have h := cz_f hc h
  refine lv_aload_n hx hb d_Message_nextNumber_23 rfl (lv_at hl 1 rfl) ?_
  refine gf_Message_31 S hP d_Message_nextNumber_24 ?_
  refine lv_iload_n hx hb d_Message_nextNumber_27 rfl (lv_at hl 2 rfl) ?_
  refine lv_icmp_ge (tgt := 43) hx hb d_Message_nextNumber_28 rfl (fun hc => ?_) (fun hc => ?_)
  · have h := cz_t hc h
    exact hb43 M8 r8 h _ _ _ hP hS (lv_sub hl [1, 2, 0] rfl)
  have h := cz_f hc h
  refine lv_aload_n hx hb d_Message_nextNumber_31 rfl (lv_at hl 1 rfl) ?_
  refine lv_dup hx hb d_Message_nextNumber_32 rfl ?_
  refine gf_Message_31 S hP d_Message_nextNumber_33 ?_
  refine lv_iconst (v := 1) hx hb d_Message_nextNumber_36 (by decide) ?_
  refine lv_iadd hx hb d_Message_nextNumber_37 ?_
  refine pf_Message_31 S hP hS d_Message_nextNumber_38 (fun H locs hP hS => ?_)
  refine lv_iload_n hx hb d_Message_nextNumber_41 rfl (lv_at hl 0 rfl) ?_
  exact cz_ireth S hr hlocks hP hS h d_Message_nextNumber_42
set_option maxHeartbeats 4000000 in
set_option maxRecDepth 100000 in
theorem c_Message_parseHeader (l : Launch) {X : cz_X} {A : Nat → Prop} (hD : ∀ M, va_D A (cp_wl X M)) (M : cz_M) (a1 : Nat) (a2 : Int32) (k1 : cp_I a1) {r2 : Int32} {M2 : cz_M} (h : f_Message_parseHeader M a1 a2 = some (r2, M2)) : cp_Ct l X A y_Message_parseHeader (Cond.code y_Message_parseHeader b_Message_parseHeader 5 (some .boolean) :: cz_T) rm_Message_parseHeader [.ref (X.2.1 16), .ref (X.2.1 a1), .int a2] M (some (.int r2)) M2 := by
  refine cz_Met (by decide) rfl (Nat.le_of_ble_eq_true rfl) hD ?_
  intro p e s m args below meth c hargs S hr hlocks hP ls hl
  have S : cz_Cx p m c b_Message_parseHeader 5 s args cz_T "ChainPeers$Message" X.1 cp_cl (cp_tys X) cz_N A (cp_wl X) := S
  have hx := S.1.1
  have hb := S.1.2.1
  have hS : va_S A s.heap s.heap [] := va_S.rf
  have hl : lv_has ls 5 [(0, .ref (X.2.1 16)), (1, .ref (X.2.1 a1)), (2, .int a2)] := hl
  have hb40 : ∀ (M : cz_M) (v3 : Int32), b_Message_parseHeader_40 a1 a2 M v3 = some (r2, M2) → ∀ (H : Heap) (locs : List Loc) (ls : Array Slot), va_P X.1 cp_cl (cp_wl X M) H → va_S A s.heap H locs → lv_has ls 5 [(0, .ref (X.2.1 16)), (3, .int v3)] → W p l e rm_Message_parseHeader s m args below meth c H locs 0 0 (MQ below (cz_Qw X.1 cp_cl (some (.int r2)) (cp_wl X M2) A) args s 0 0 A) (F0 m 40 ls []) := by
    intro M v3 h H locs ls hP hS hl
    refine lv_aload_n hx hb d_Message_parseHeader_40 rfl (lv_at hl 0 rfl) ?_
    refine gf_Message_31 S hP d_Message_parseHeader_41 ?_
    refine lv_iload_n hx hb d_Message_parseHeader_44 rfl (lv_at hl 1 rfl) ?_
    refine lv_icmp_ne (tgt := 52) hx hb d_Message_parseHeader_45 rfl (fun hc => ?_) (fun hc => ?_)
    · have h := cz_f hc h
      refine lv_iconst (v := 0) hx hb d_Message_parseHeader_52 (by decide) ?_
      exact cz_zreth S hr hlocks hP hS h rfl d_Message_parseHeader_53
    have h := cz_t hc h
    refine lv_iconst (v := 1) hx hb d_Message_parseHeader_48 (by decide) ?_
    refine lv_goto (tgt := 53) hx hb d_Message_parseHeader_49 rfl ?_
    exact cz_zreth S hr hlocks hP hS h rfl d_Message_parseHeader_53
  have hb9 : ∀ (n : Nat) (M : cz_M) (v3 : Int32) (v4 : Int32), cz_lp3 (l_Message_parseHeader_9 a1 a2) n M v3 v4 = some (r2, M2) → ∀ (H : Heap) (locs : List Loc) (ls : Array Slot), va_P X.1 cp_cl (cp_wl X M) H → va_S A s.heap H locs → lv_has ls 5 [(0, .ref (X.2.1 16)), (1, .ref (X.2.1 a1)), (3, .int v3), (4, .int v4)] → W p l e rm_Message_parseHeader s m args below meth c H locs 0 0 (MQ below (cz_Qw X.1 cp_cl (some (.int r2)) (cp_wl X M2) A) args s 0 0 A) (F0 m 9 ls []) := by
    refine cz_ind3 (fun rec9 ih9 M v3 v4 h H locs ls hP hS hl => ?_)
    refine lv_iload hx hb d_Message_parseHeader_9 (lv_at hl 3 rfl) ?_
    refine lv_iconst (v := 5) hx hb d_Message_parseHeader_11 (by decide) ?_
    refine lv_icmp_ge (tgt := 40) hx hb d_Message_parseHeader_12 rfl (fun hc => ?_) (fun hc => ?_)
    · have h := cz_t hc h
      exact hb40 M v3 h _ _ _ hP hS (lv_sub hl [0, 2] rfl)
    have h := cz_f hc h
    refine lv_aload_n hx hb d_Message_parseHeader_15 rfl (lv_at hl 1 rfl) ?_
    refine lv_iload hx hb d_Message_parseHeader_16 (lv_at hl 3 rfl) ?_
    refine lv_aload_n hx hb d_Message_parseHeader_18 rfl (lv_at hl 0 rfl) ?_
    refine lv_iload_n hx hb d_Message_parseHeader_19 rfl (lv_at hl 2 rfl) ?_
    obtain ⟨r20, M20, hq20, h⟩ := cz_ubi h
    refine iv_Message_42 (rest := [.int v4, .ref (X.2.1 a1)]) S hl.1 hP hS (c_Message_nextNumber l hD M v3 hq20) ⟨Nat.le_of_ble_eq_true rfl, Nat.le_of_ble_eq_true rfl⟩ (Nat.le_of_ble_eq_true rfl) rfl d_Message_parseHeader_20 (fun H locs hP hS => ?_)
    obtain ⟨hin23, h⟩ := cz_ck h
    refine cp_is S hP hS k1 hin23 d_Message_parseHeader_23 (fun H locs hP hS => ?_)
    refine lv_aload_n hx hb d_Message_parseHeader_24 rfl (lv_at hl 1 rfl) ?_
    refine lv_iload hx hb d_Message_parseHeader_25 (lv_at hl 3 rfl) ?_
    obtain ⟨hin27, h⟩ := cz_ck h
    refine cp_ia S hP k1 hin27 d_Message_parseHeader_27 ?_
    refine lv_iconst (v := -1) hx hb d_Message_parseHeader_28 (by decide) ?_
    refine lv_icmp_ne (tgt := 34) hx hb d_Message_parseHeader_29 rfl (fun hc => ?_) (fun hc => ?_)
    · have h := cz_f hc h
      refine lv_iinc (lv' := [(4, .int (v4 + 1)), (0, .ref (X.2.1 16)), (1, .ref (X.2.1 a1)), (3, .int v3)]) (v := v4 + 1) (k := 3) hx hb d_Message_parseHeader_34 hl rfl (cz_inc1 _) (by decide) rfl (fun ls hl => ?_)
      refine lv_goto (tgt := 9) hx hb d_Message_parseHeader_37 rfl ?_
      exact ih9 (cz_i M20 a1 v4.toNatClampNeg r20) v3 (v4 + 1) h _ _ _ hP hS (lv_sub hl [1, 2, 3, 0] rfl)
    have h := cz_t hc h
    refine lv_iconst (v := 0) hx hb d_Message_parseHeader_32 (by decide) ?_
    exact cz_zreth S hr hlocks hP hS h rfl d_Message_parseHeader_33
  refine lv_aload_n hx hb d_Message_parseHeader_0 rfl (lv_at hl 0 rfl) ?_
  refine lv_iload_n hx hb d_Message_parseHeader_1 rfl (lv_at hl 2 rfl) ?_
  obtain ⟨r2, M2, hq2, h⟩ := cz_ubi h
  refine iv_Message_38 (rest := []) S hl.1 hP hS (c_Message_enterList l hD M a2 hq2) ⟨Nat.le_of_ble_eq_true rfl, Nat.le_of_ble_eq_true rfl⟩ (Nat.le_of_ble_eq_true rfl) rfl d_Message_parseHeader_2 (fun H locs hP hS => ?_)
  refine lv_istore_n (lv' := [(3, .int r2), (0, .ref (X.2.1 16)), (1, .ref (X.2.1 a1)), (2, .int a2)]) hx hb d_Message_parseHeader_5 rfl hl (by decide) rfl (fun ls hl => ?_)
  refine lv_iconst (v := 0) hx hb d_Message_parseHeader_6 (by decide) ?_
  refine lv_istore (lv' := [(4, .int (0 : Int32)), (3, .int r2), (0, .ref (X.2.1 16)), (1, .ref (X.2.1 a1)), (2, .int a2)]) hx hb d_Message_parseHeader_7 hl (by decide) rfl (fun ls hl => ?_)
  exact hb9 _ M2 r2 (0 : Int32) h _ _ _ hP hS (lv_sub hl [2, 3, 1, 0] rfl)
set_option maxHeartbeats 4000000 in
set_option maxRecDepth 100000 in
theorem c_Message_parseHeaders (l : Launch) {X : cz_X} {A : Nat → Prop} (hD : ∀ M, va_D A (cp_wl X M)) (M : cz_M) (a1 : Int32) {r2 : Int32} {M2 : cz_M} (h : f_Message_parseHeaders M a1 = some (r2, M2)) : cp_Ct l X A y_Message_parseHeaders (Cond.code y_Message_parseHeaders b_Message_parseHeaders 3 (some .boolean) :: cz_T) rm_Message_parseHeaders [.ref (X.2.1 16), .int a1] M (some (.int r2)) M2 := by
  refine cz_Met (by decide) rfl (Nat.le_of_ble_eq_true rfl) hD ?_
  intro p e s m args below meth c hargs S hr hlocks hP ls hl
  have S : cz_Cx p m c b_Message_parseHeaders 3 s args cz_T "ChainPeers$Message" X.1 cp_cl (cp_tys X) cz_N A (cp_wl X) := S
  have hx := S.1.1
  have hb := S.1.2.1
  have hS : va_S A s.heap s.heap [] := va_S.rf
  have hl : lv_has ls 3 [(0, .ref (X.2.1 16)), (1, .int a1)] := hl
  have hb60 : ∀ (M : cz_M) (v2 : Int32), b_Message_parseHeaders_60 a1 M v2 = some (r2, M2) → ∀ (H : Heap) (locs : List Loc) (ls : Array Slot), va_P X.1 cp_cl (cp_wl X M) H → va_S A s.heap H locs → lv_has ls 3 [(0, .ref (X.2.1 16)), (2, .int v2)] → W p l e rm_Message_parseHeaders s m args below meth c H locs 0 0 (MQ below (cz_Qw X.1 cp_cl (some (.int r2)) (cp_wl X M2) A) args s 0 0 A) (F0 m 60 ls []) := by
    intro M v2 h H locs ls hP hS hl
    refine lv_aload_n hx hb d_Message_parseHeaders_60 rfl (lv_at hl 0 rfl) ?_
    refine gf_Message_31 S hP d_Message_parseHeaders_61 ?_
    refine lv_iload_n hx hb d_Message_parseHeaders_64 rfl (lv_at hl 1 rfl) ?_
    refine lv_icmp_ne (tgt := 72) hx hb d_Message_parseHeaders_65 rfl (fun hc => ?_) (fun hc => ?_)
    · have h := cz_f hc h
      refine lv_iconst (v := 0) hx hb d_Message_parseHeaders_72 (by decide) ?_
      exact cz_zreth S hr hlocks hP hS h rfl d_Message_parseHeaders_73
    have h := cz_t hc h
    refine lv_iconst (v := 1) hx hb d_Message_parseHeaders_68 (by decide) ?_
    refine lv_goto (tgt := 73) hx hb d_Message_parseHeaders_69 rfl ?_
    exact cz_zreth S hr hlocks hP hS h rfl d_Message_parseHeaders_73
  have hb11 : ∀ (n : Nat) (M : cz_M) (v2 : Int32), cz_lp2 (l_Message_parseHeaders_11 a1) n M v2 = some (r2, M2) → ∀ (H : Heap) (locs : List Loc) (ls : Array Slot), va_P X.1 cp_cl (cp_wl X M) H → va_S A s.heap H locs → lv_has ls 3 [(0, .ref (X.2.1 16)), (2, .int v2)] → W p l e rm_Message_parseHeaders s m args below meth c H locs 0 0 (MQ below (cz_Qw X.1 cp_cl (some (.int r2)) (cp_wl X M2) A) args s 0 0 A) (F0 m 11 ls []) := by
    refine cz_ind2 (fun rec11 ih11 M v2 h H locs ls hP hS hl => ?_)
    refine lv_aload_n hx hb d_Message_parseHeaders_11 rfl (lv_at hl 0 rfl) ?_
    refine gf_Message_76 S hP d_Message_parseHeaders_12 ?_
    refine lv_bipush (v := 8) hx hb d_Message_parseHeaders_15 (by decide) ?_
    refine lv_icmp_ge (tgt := 60) hx hb d_Message_parseHeaders_17 rfl (fun hc => ?_) (fun hc => ?_)
    · have h := cz_t hc h
      exact hb60 M v2 h _ _ _ hP hS (lv_sub hl [0, 1] rfl)
    have h := cz_f hc h
    refine lv_aload_n hx hb d_Message_parseHeaders_20 rfl (lv_at hl 0 rfl) ?_
    refine gf_Message_31 S hP d_Message_parseHeaders_21 ?_
    refine lv_iload_n hx hb d_Message_parseHeaders_24 rfl (lv_at hl 1 rfl) ?_
    refine lv_icmp_ge (tgt := 60) hx hb d_Message_parseHeaders_25 rfl (fun hc => ?_) (fun hc => ?_)
    · have h := cz_t hc h
      exact hb60 M v2 h _ _ _ hP hS (lv_sub hl [0, 1] rfl)
    have h := cz_f hc h
    refine lv_aload_n hx hb d_Message_parseHeaders_28 rfl (lv_at hl 0 rfl) ?_
    refine lv_aload_n hx hb d_Message_parseHeaders_29 rfl (lv_at hl 0 rfl) ?_
    refine gf_Message_11 S hP d_Message_parseHeaders_30 ?_
    refine lv_aload_n hx hb d_Message_parseHeaders_33 rfl (lv_at hl 0 rfl) ?_
    refine gf_Message_76 S hP d_Message_parseHeaders_34 ?_
    obtain ⟨hin37, h⟩ := cz_ck h
    refine cp_aaG8 S hP hin37 d_Message_parseHeaders_37 ?_
    refine lv_iload_n hx hb d_Message_parseHeaders_38 rfl (lv_at hl 1 rfl) ?_
    obtain ⟨r39, M39, hq39, h⟩ := cz_ubi h
    refine iv_Message_79 (rest := []) S hl.1 hP hS (c_Message_parseHeader l hD M (61 + (M.1 16 7).toNatClampNeg) v2 (cp_r61 hin37) hq39) ⟨Nat.le_of_ble_eq_true rfl, Nat.le_of_ble_eq_true rfl⟩ (Nat.le_of_ble_eq_true rfl) rfl d_Message_parseHeaders_39 (fun H locs hP hS => ?_)
    refine lv_if_ne (tgt := 47) hx hb d_Message_parseHeaders_42 rfl (fun hc => ?_) (fun hc => ?_)
    · have h := cz_f hc h
      refine lv_aload_n hx hb d_Message_parseHeaders_47 rfl (lv_at hl 0 rfl) ?_
      refine lv_dup hx hb d_Message_parseHeaders_48 rfl ?_
      refine gf_Message_76 S hP d_Message_parseHeaders_49 ?_
      refine lv_iconst (v := 1) hx hb d_Message_parseHeaders_52 (by decide) ?_
      refine lv_iadd hx hb d_Message_parseHeaders_53 ?_
      refine pf_Message_76 S hP hS d_Message_parseHeaders_54 (fun H locs hP hS => ?_)
      refine lv_goto (tgt := 11) hx hb d_Message_parseHeaders_57 rfl ?_
      exact ih11 (cz_i M39 16 7 ((M39.1 16 7) + (1 : Int32))) v2 h _ _ _ hP hS (lv_sub hl [0, 1] rfl)
    have h := cz_t hc h
    refine lv_iconst (v := 0) hx hb d_Message_parseHeaders_45 (by decide) ?_
    exact cz_zreth S hr hlocks hP hS h rfl d_Message_parseHeaders_46
  refine lv_aload_n hx hb d_Message_parseHeaders_0 rfl (lv_at hl 0 rfl) ?_
  refine lv_iload_n hx hb d_Message_parseHeaders_1 rfl (lv_at hl 1 rfl) ?_
  obtain ⟨r2, M2, hq2, h⟩ := cz_ubi h
  refine iv_Message_38 (rest := []) S hl.1 hP hS (c_Message_enterList l hD M a1 hq2) ⟨Nat.le_of_ble_eq_true rfl, Nat.le_of_ble_eq_true rfl⟩ (Nat.le_of_ble_eq_true rfl) rfl d_Message_parseHeaders_2 (fun H locs hP hS => ?_)
  refine lv_istore_n (lv' := [(2, .int r2), (0, .ref (X.2.1 16)), (1, .int a1)]) hx hb d_Message_parseHeaders_5 rfl hl (by decide) rfl (fun ls hl => ?_)
  refine lv_aload_n hx hb d_Message_parseHeaders_6 rfl (lv_at hl 1 rfl) ?_
  refine lv_iconst (v := 0) hx hb d_Message_parseHeaders_7 (by decide) ?_
  refine pf_Message_76 S hP hS d_Message_parseHeaders_8 (fun H locs hP hS => ?_)
  exact hb11 _ (cz_i M2 16 7 (0 : Int32)) r2 h _ _ _ hP hS (lv_sub hl [1, 0] rfl)
set_option maxHeartbeats 4000000 in
set_option maxRecDepth 100000 in
theorem c_Message_parseBody (l : Launch) {X : cz_X} {A : Nat → Prop} (hD : ∀ M, va_D A (cp_wl X M)) (M : cz_M) (a1 : Int32) {r2 : Int32} {M2 : cz_M} (h : f_Message_parseBody M a1 = some (r2, M2)) : cp_Ct l X A y_Message_parseBody (Cond.code y_Message_parseBody b_Message_parseBody 3 (some .boolean) :: cz_T) rm_Message_parseBody [.ref (X.2.1 16), .int a1] M (some (.int r2)) M2 := by
  refine cz_Met (by decide) rfl (Nat.le_of_ble_eq_true rfl) hD ?_
  intro p e s m args below meth c hargs S hr hlocks hP ls hl
  have S : cz_Cx p m c b_Message_parseBody 3 s args cz_T "ChainPeers$Message" X.1 cp_cl (cp_tys X) cz_N A (cp_wl X) := S
  have hx := S.1.1
  have hb := S.1.2.1
  have hS : va_S A s.heap s.heap [] := va_S.rf
  have hl : lv_has ls 3 [(0, .ref (X.2.1 16)), (1, .int a1)] := hl
  have hb70 : ∀ (M : cz_M) (v2 : Int32), b_Message_parseBody_70 a1 M v2 = some (r2, M2) → ∀ (H : Heap) (locs : List Loc) (ls : Array Slot), va_P X.1 cp_cl (cp_wl X M) H → va_S A s.heap H locs → lv_has ls 3 [(0, .ref (X.2.1 16)), (2, .int v2)] → W p l e rm_Message_parseBody s m args below meth c H locs 0 0 (MQ below (cz_Qw X.1 cp_cl (some (.int r2)) (cp_wl X M2) A) args s 0 0 A) (F0 m 70 ls []) := by
    intro M v2 h H locs ls hP hS hl
    refine lv_aload_n hx hb d_Message_parseBody_70 rfl (lv_at hl 0 rfl) ?_
    refine gf_Message_31 S hP d_Message_parseBody_71 ?_
    refine lv_iload_n hx hb d_Message_parseBody_74 rfl (lv_at hl 1 rfl) ?_
    refine lv_icmp_ne (tgt := 82) hx hb d_Message_parseBody_75 rfl (fun hc => ?_) (fun hc => ?_)
    · have h := cz_f hc h
      refine lv_iconst (v := 0) hx hb d_Message_parseBody_82 (by decide) ?_
      exact cz_zreth S hr hlocks hP hS h rfl d_Message_parseBody_83
    have h := cz_t hc h
    refine lv_iconst (v := 1) hx hb d_Message_parseBody_78 (by decide) ?_
    refine lv_goto (tgt := 83) hx hb d_Message_parseBody_79 rfl ?_
    exact cz_zreth S hr hlocks hP hS h rfl d_Message_parseBody_83
  have hb11 : ∀ (n : Nat) (M : cz_M) (v2 : Int32), cz_lp2 (l_Message_parseBody_11 a1) n M v2 = some (r2, M2) → ∀ (H : Heap) (locs : List Loc) (ls : Array Slot), va_P X.1 cp_cl (cp_wl X M) H → va_S A s.heap H locs → lv_has ls 3 [(0, .ref (X.2.1 16)), (2, .int v2)] → W p l e rm_Message_parseBody s m args below meth c H locs 0 0 (MQ below (cz_Qw X.1 cp_cl (some (.int r2)) (cp_wl X M2) A) args s 0 0 A) (F0 m 11 ls []) := by
    refine cz_ind2 (fun rec11 ih11 M v2 h H locs ls hP hS hl => ?_)
    refine lv_aload_n hx hb d_Message_parseBody_11 rfl (lv_at hl 0 rfl) ?_
    refine gf_Message_76 S hP d_Message_parseBody_12 ?_
    refine lv_bipush (v := 8) hx hb d_Message_parseBody_15 (by decide) ?_
    refine lv_icmp_ge (tgt := 70) hx hb d_Message_parseBody_17 rfl (fun hc => ?_) (fun hc => ?_)
    · have h := cz_t hc h
      exact hb70 M v2 h _ _ _ hP hS (lv_sub hl [0, 1] rfl)
    have h := cz_f hc h
    refine lv_aload_n hx hb d_Message_parseBody_20 rfl (lv_at hl 0 rfl) ?_
    refine gf_Message_31 S hP d_Message_parseBody_21 ?_
    refine lv_iload_n hx hb d_Message_parseBody_24 rfl (lv_at hl 1 rfl) ?_
    refine lv_icmp_ge (tgt := 70) hx hb d_Message_parseBody_25 rfl (fun hc => ?_) (fun hc => ?_)
    · have h := cz_t hc h
      exact hb70 M v2 h _ _ _ hP hS (lv_sub hl [0, 1] rfl)
    have h := cz_f hc h
    refine lv_aload_n hx hb d_Message_parseBody_28 rfl (lv_at hl 0 rfl) ?_
    refine gf_Message_16 S hP d_Message_parseBody_29 ?_
    refine lv_aload_n hx hb d_Message_parseBody_32 rfl (lv_at hl 0 rfl) ?_
    refine gf_Message_76 S hP d_Message_parseBody_33 ?_
    refine lv_aload_n hx hb d_Message_parseBody_36 rfl (lv_at hl 0 rfl) ?_
    refine lv_iload_n hx hb d_Message_parseBody_37 rfl (lv_at hl 1 rfl) ?_
    obtain ⟨r38, M38, hq38, h⟩ := cz_ubi h
    refine iv_Message_42 (rest := [.int (M.1 16 7), .ref (X.2.1 18)]) S hl.1 hP hS (c_Message_nextNumber l hD M v2 hq38) ⟨Nat.le_of_ble_eq_true rfl, Nat.le_of_ble_eq_true rfl⟩ (Nat.le_of_ble_eq_true rfl) rfl d_Message_parseBody_38 (fun H locs hP hS => ?_)
    obtain ⟨hin41, h⟩ := cz_ck h
    refine cp_is S hP hS cp_k18 hin41 d_Message_parseBody_41 (fun H locs hP hS => ?_)
    refine lv_aload_n hx hb d_Message_parseBody_42 rfl (lv_at hl 0 rfl) ?_
    refine gf_Message_16 S hP d_Message_parseBody_43 ?_
    refine lv_aload_n hx hb d_Message_parseBody_46 rfl (lv_at hl 0 rfl) ?_
    refine gf_Message_76 S hP d_Message_parseBody_47 ?_
    obtain ⟨hin50, h⟩ := cz_ck h
    refine cp_ia S hP cp_k18 hin50 d_Message_parseBody_50 ?_
    refine lv_iconst (v := -1) hx hb d_Message_parseBody_51 (by decide) ?_
    refine lv_icmp_ne (tgt := 57) hx hb d_Message_parseBody_52 rfl (fun hc => ?_) (fun hc => ?_)
    · have h := cz_f hc h
      refine lv_aload_n hx hb d_Message_parseBody_57 rfl (lv_at hl 0 rfl) ?_
      refine lv_dup hx hb d_Message_parseBody_58 rfl ?_
      refine gf_Message_76 S hP d_Message_parseBody_59 ?_
      refine lv_iconst (v := 1) hx hb d_Message_parseBody_62 (by decide) ?_
      refine lv_iadd hx hb d_Message_parseBody_63 ?_
      refine pf_Message_76 S hP hS d_Message_parseBody_64 (fun H locs hP hS => ?_)
      refine lv_goto (tgt := 11) hx hb d_Message_parseBody_67 rfl ?_
      exact ih11 (cz_i (cz_i M38 18 (M.1 16 7).toNatClampNeg r38) 16 7 (((cz_i M38 18 (M.1 16 7).toNatClampNeg r38).1 16 7) + (1 : Int32))) v2 h _ _ _ hP hS (lv_sub hl [0, 1] rfl)
    have h := cz_t hc h
    refine lv_iconst (v := 0) hx hb d_Message_parseBody_55 (by decide) ?_
    exact cz_zreth S hr hlocks hP hS h rfl d_Message_parseBody_56
  refine lv_aload_n hx hb d_Message_parseBody_0 rfl (lv_at hl 0 rfl) ?_
  refine lv_iload_n hx hb d_Message_parseBody_1 rfl (lv_at hl 1 rfl) ?_
  obtain ⟨r2, M2, hq2, h⟩ := cz_ubi h
  refine iv_Message_38 (rest := []) S hl.1 hP hS (c_Message_enterList l hD M a1 hq2) ⟨Nat.le_of_ble_eq_true rfl, Nat.le_of_ble_eq_true rfl⟩ (Nat.le_of_ble_eq_true rfl) rfl d_Message_parseBody_2 (fun H locs hP hS => ?_)
  refine lv_istore_n (lv' := [(2, .int r2), (0, .ref (X.2.1 16)), (1, .int a1)]) hx hb d_Message_parseBody_5 rfl hl (by decide) rfl (fun ls hl => ?_)
  refine lv_aload_n hx hb d_Message_parseBody_6 rfl (lv_at hl 1 rfl) ?_
  refine lv_iconst (v := 0) hx hb d_Message_parseBody_7 (by decide) ?_
  refine pf_Message_76 S hP hS d_Message_parseBody_8 (fun H locs hP hS => ?_)
  exact hb11 _ (cz_i M2 16 7 (0 : Int32)) r2 h _ _ _ hP hS (lv_sub hl [1, 0] rfl)
set_option maxHeartbeats 4000000 in
set_option maxRecDepth 100000 in
theorem c_Message_parseFields (l : Launch) {X : cz_X} {A : Nat → Prop} (hD : ∀ M, va_D A (cp_wl X M)) (M : cz_M) (a1 : Int32) {r2 : Int32} {M2 : cz_M} (h : f_Message_parseFields M a1 = some (r2, M2)) : cp_Ct l X A y_Message_parseFields (Cond.code y_Message_parseFields b_Message_parseFields 2 (some .boolean) :: cz_T) rm_Message_parseFields [.ref (X.2.1 16), .int a1] M (some (.int r2)) M2 := by
  refine cz_Met (by decide) rfl (Nat.le_of_ble_eq_true rfl) hD ?_
  intro p e s m args below meth c hargs S hr hlocks hP ls hl
  have S : cz_Cx p m c b_Message_parseFields 2 s args cz_T "ChainPeers$Message" X.1 cp_cl (cp_tys X) cz_N A (cp_wl X) := S
  have hx := S.1.1
  have hb := S.1.2.1
  have hS : va_S A s.heap s.heap [] := va_S.rf
  have hl : lv_has ls 2 [(0, .ref (X.2.1 16)), (1, .int a1)] := hl
  refine lv_aload_n hx hb d_Message_parseFields_0 rfl (lv_at hl 0 rfl) ?_
  refine gf_Message_45 S hP d_Message_parseFields_1 ?_
  refine (Decidable.em ((M.1 16 0) = (0 : Int32))).elim (fun hc => ?_) (fun hc0 => ?_)
  · have h := cz_t hc h
    refine lv_tableIn (tgt := 44) hx hb d_Message_parseFields_4 (by rw [hc]; decide) (by rw [hc]; decide) (by rw [hc]; rfl) rfl ?_
    refine lv_aload_n hx hb d_Message_parseFields_44 rfl (lv_at hl 0 rfl) ?_
    refine lv_aload_n hx hb d_Message_parseFields_45 rfl (lv_at hl 0 rfl) ?_
    refine lv_iload_n hx hb d_Message_parseFields_46 rfl (lv_at hl 1 rfl) ?_
    obtain ⟨r47, M47, hq47, h⟩ := cz_ubi h
    refine iv_Message_42 (rest := [.ref (X.2.1 16)]) S hl.1 hP hS (c_Message_nextNumber l hD M a1 hq47) ⟨Nat.le_of_ble_eq_true rfl, Nat.le_of_ble_eq_true rfl⟩ (Nat.le_of_ble_eq_true rfl) rfl d_Message_parseFields_47 (fun H locs hP hS => ?_)
    refine pf_Message_52 S hP hS d_Message_parseFields_50 (fun H locs hP hS => ?_)
    refine lv_aload_n hx hb d_Message_parseFields_53 rfl (lv_at hl 0 rfl) ?_
    refine lv_aload_n hx hb d_Message_parseFields_54 rfl (lv_at hl 0 rfl) ?_
    refine lv_iload_n hx hb d_Message_parseFields_55 rfl (lv_at hl 1 rfl) ?_
    obtain ⟨r56, M56, hq56, h⟩ := cz_ubi h
    refine iv_Message_42 (rest := [.ref (X.2.1 16)]) S hl.1 hP hS (c_Message_nextNumber l hD (cz_i M47 16 1 r47) a1 hq56) ⟨Nat.le_of_ble_eq_true rfl, Nat.le_of_ble_eq_true rfl⟩ (Nat.le_of_ble_eq_true rfl) rfl d_Message_parseFields_56 (fun H locs hP hS => ?_)
    refine pf_Message_55 S hP hS d_Message_parseFields_59 (fun H locs hP hS => ?_)
    refine lv_aload_n hx hb d_Message_parseFields_62 rfl (lv_at hl 0 rfl) ?_
    refine gf_Message_52 S hP d_Message_parseFields_63 ?_
    refine lv_iconst (v := -1) hx hb d_Message_parseFields_66 (by decide) ?_
    refine lv_icmp_eq (tgt := 82) hx hb d_Message_parseFields_67 rfl (fun hc => ?_) (fun hc => ?_)
    · have h := cz_t hc h
      refine lv_iconst (v := 0) hx hb d_Message_parseFields_82 (by decide) ?_
      exact cz_zreth S hr hlocks hP hS h rfl d_Message_parseFields_83
    have h := cz_f hc h
    refine lv_aload_n hx hb d_Message_parseFields_70 rfl (lv_at hl 0 rfl) ?_
    refine gf_Message_55 S hP d_Message_parseFields_71 ?_
    refine lv_iconst (v := -1) hx hb d_Message_parseFields_74 (by decide) ?_
    refine lv_icmp_eq (tgt := 82) hx hb d_Message_parseFields_75 rfl (fun hc => ?_) (fun hc => ?_)
    · have h := cz_t hc h
      refine lv_iconst (v := 0) hx hb d_Message_parseFields_82 (by decide) ?_
      exact cz_zreth S hr hlocks hP hS h rfl d_Message_parseFields_83
    have h := cz_f hc h
    refine lv_iconst (v := 1) hx hb d_Message_parseFields_78 (by decide) ?_
    refine lv_goto (tgt := 83) hx hb d_Message_parseFields_79 rfl ?_
    exact cz_zreth S hr hlocks hP hS h rfl d_Message_parseFields_83
  have h := cz_f hc0 h
  refine (Decidable.em ((M.1 16 0) = (1 : Int32))).elim (fun hc => ?_) (fun hc1 => ?_)
  · have h := cz_t hc h
    refine lv_tableIn (tgt := 84) hx hb d_Message_parseFields_4 (by rw [hc]; decide) (by rw [hc]; decide) (by rw [hc]; rfl) rfl ?_
    refine lv_aload_n hx hb d_Message_parseFields_84 rfl (lv_at hl 0 rfl) ?_
    refine lv_aload_n hx hb d_Message_parseFields_85 rfl (lv_at hl 0 rfl) ?_
    refine lv_iload_n hx hb d_Message_parseFields_86 rfl (lv_at hl 1 rfl) ?_
    obtain ⟨r87, M87, hq87, h⟩ := cz_ubi h
    refine iv_Message_42 (rest := [.ref (X.2.1 16)]) S hl.1 hP hS (c_Message_nextNumber l hD M a1 hq87) ⟨Nat.le_of_ble_eq_true rfl, Nat.le_of_ble_eq_true rfl⟩ (Nat.le_of_ble_eq_true rfl) rfl d_Message_parseFields_87 (fun H locs hP hS => ?_)
    refine pf_Message_58 S hP hS d_Message_parseFields_90 (fun H locs hP hS => ?_)
    refine lv_aload_n hx hb d_Message_parseFields_93 rfl (lv_at hl 0 rfl) ?_
    refine lv_aload_n hx hb d_Message_parseFields_94 rfl (lv_at hl 0 rfl) ?_
    refine lv_iload_n hx hb d_Message_parseFields_95 rfl (lv_at hl 1 rfl) ?_
    obtain ⟨r96, M96, hq96, h⟩ := cz_ubi h
    refine iv_Message_42 (rest := [.ref (X.2.1 16)]) S hl.1 hP hS (c_Message_nextNumber l hD (cz_i M87 16 3 r87) a1 hq96) ⟨Nat.le_of_ble_eq_true rfl, Nat.le_of_ble_eq_true rfl⟩ (Nat.le_of_ble_eq_true rfl) rfl d_Message_parseFields_96 (fun H locs hP hS => ?_)
    refine pf_Message_61 S hP hS d_Message_parseFields_99 (fun H locs hP hS => ?_)
    refine lv_aload_n hx hb d_Message_parseFields_102 rfl (lv_at hl 0 rfl) ?_
    refine lv_aload_n hx hb d_Message_parseFields_103 rfl (lv_at hl 0 rfl) ?_
    refine lv_iload_n hx hb d_Message_parseFields_104 rfl (lv_at hl 1 rfl) ?_
    obtain ⟨r105, M105, hq105, h⟩ := cz_ubi h
    refine iv_Message_42 (rest := [.ref (X.2.1 16)]) S hl.1 hP hS (c_Message_nextNumber l hD (cz_i M96 16 4 r96) a1 hq105) ⟨Nat.le_of_ble_eq_true rfl, Nat.le_of_ble_eq_true rfl⟩ (Nat.le_of_ble_eq_true rfl) rfl d_Message_parseFields_105 (fun H locs hP hS => ?_)
    refine pf_Message_64 S hP hS d_Message_parseFields_108 (fun H locs hP hS => ?_)
    refine lv_aload_n hx hb d_Message_parseFields_111 rfl (lv_at hl 0 rfl) ?_
    refine gf_Message_58 S hP d_Message_parseFields_112 ?_
    refine lv_iconst (v := -1) hx hb d_Message_parseFields_115 (by decide) ?_
    refine lv_icmp_eq (tgt := 139) hx hb d_Message_parseFields_116 rfl (fun hc => ?_) (fun hc => ?_)
    · have h := cz_t hc h
      refine lv_iconst (v := 0) hx hb d_Message_parseFields_139 (by decide) ?_
      exact cz_zreth S hr hlocks hP hS h rfl d_Message_parseFields_140
    have h := cz_f hc h
    refine lv_aload_n hx hb d_Message_parseFields_119 rfl (lv_at hl 0 rfl) ?_
    refine gf_Message_61 S hP d_Message_parseFields_120 ?_
    refine lv_iconst (v := -1) hx hb d_Message_parseFields_123 (by decide) ?_
    refine lv_icmp_eq (tgt := 139) hx hb d_Message_parseFields_124 rfl (fun hc => ?_) (fun hc => ?_)
    · have h := cz_t hc h
      refine lv_iconst (v := 0) hx hb d_Message_parseFields_139 (by decide) ?_
      exact cz_zreth S hr hlocks hP hS h rfl d_Message_parseFields_140
    have h := cz_f hc h
    refine lv_aload_n hx hb d_Message_parseFields_127 rfl (lv_at hl 0 rfl) ?_
    refine gf_Message_64 S hP d_Message_parseFields_128 ?_
    refine lv_iconst (v := -1) hx hb d_Message_parseFields_131 (by decide) ?_
    refine lv_icmp_eq (tgt := 139) hx hb d_Message_parseFields_132 rfl (fun hc => ?_) (fun hc => ?_)
    · have h := cz_t hc h
      refine lv_iconst (v := 0) hx hb d_Message_parseFields_139 (by decide) ?_
      exact cz_zreth S hr hlocks hP hS h rfl d_Message_parseFields_140
    have h := cz_f hc h
    refine lv_iconst (v := 1) hx hb d_Message_parseFields_135 (by decide) ?_
    refine lv_goto (tgt := 140) hx hb d_Message_parseFields_136 rfl ?_
    exact cz_zreth S hr hlocks hP hS h rfl d_Message_parseFields_140
  have h := cz_f hc1 h
  refine (Decidable.em ((M.1 16 0) = (2 : Int32))).elim (fun hc => ?_) (fun hc2 => ?_)
  · have h := cz_t hc h
    refine lv_tableIn (tgt := 141) hx hb d_Message_parseFields_4 (by rw [hc]; decide) (by rw [hc]; decide) (by rw [hc]; rfl) rfl ?_
    refine lv_aload_n hx hb d_Message_parseFields_141 rfl (lv_at hl 0 rfl) ?_
    refine lv_aload_n hx hb d_Message_parseFields_142 rfl (lv_at hl 0 rfl) ?_
    refine lv_iload_n hx hb d_Message_parseFields_143 rfl (lv_at hl 1 rfl) ?_
    obtain ⟨r144, M144, hq144, h⟩ := cz_ubi h
    refine iv_Message_42 (rest := [.ref (X.2.1 16)]) S hl.1 hP hS (c_Message_nextNumber l hD M a1 hq144) ⟨Nat.le_of_ble_eq_true rfl, Nat.le_of_ble_eq_true rfl⟩ (Nat.le_of_ble_eq_true rfl) rfl d_Message_parseFields_144 (fun H locs hP hS => ?_)
    refine pf_Message_58 S hP hS d_Message_parseFields_147 (fun H locs hP hS => ?_)
    refine lv_aload_n hx hb d_Message_parseFields_150 rfl (lv_at hl 0 rfl) ?_
    refine gf_Message_58 S hP d_Message_parseFields_151 ?_
    refine lv_iconst (v := -1) hx hb d_Message_parseFields_154 (by decide) ?_
    refine lv_icmp_eq (tgt := 170) hx hb d_Message_parseFields_155 rfl (fun hc => ?_) (fun hc => ?_)
    · have h := cz_t hc h
      refine lv_iconst (v := 0) hx hb d_Message_parseFields_170 (by decide) ?_
      exact cz_zreth S hr hlocks hP hS h rfl d_Message_parseFields_171
    have h := cz_f hc h
    refine lv_aload_n hx hb d_Message_parseFields_158 rfl (lv_at hl 0 rfl) ?_
    refine lv_iload_n hx hb d_Message_parseFields_159 rfl (lv_at hl 1 rfl) ?_
    obtain ⟨r160, M160, hq160, h⟩ := cz_ubi h
    refine iv_Message_67 (rest := []) S hl.1 hP hS (c_Message_parseHeaders l hD (cz_i M144 16 3 r144) a1 hq160) ⟨Nat.le_of_ble_eq_true rfl, Nat.le_of_ble_eq_true rfl⟩ (Nat.le_of_ble_eq_true rfl) rfl d_Message_parseFields_160 (fun H locs hP hS => ?_)
    refine lv_if_eq (tgt := 170) hx hb d_Message_parseFields_163 rfl (fun hc => ?_) (fun hc => ?_)
    · have h := cz_t hc h
      refine lv_iconst (v := 0) hx hb d_Message_parseFields_170 (by decide) ?_
      exact cz_zreth S hr hlocks hP hS h rfl d_Message_parseFields_171
    have h := cz_f hc h
    refine lv_iconst (v := 1) hx hb d_Message_parseFields_166 (by decide) ?_
    refine lv_goto (tgt := 171) hx hb d_Message_parseFields_167 rfl ?_
    exact cz_zreth S hr hlocks hP hS h rfl d_Message_parseFields_171
  have h := cz_f hc2 h
  refine (Decidable.em ((M.1 16 0) = (3 : Int32))).elim (fun hc => ?_) (fun hc3 => ?_)
  · have h := cz_t hc h
    refine lv_tableIn (tgt := 172) hx hb d_Message_parseFields_4 (by rw [hc]; decide) (by rw [hc]; decide) (by rw [hc]; rfl) rfl ?_
    refine lv_aload_n hx hb d_Message_parseFields_172 rfl (lv_at hl 0 rfl) ?_
    refine lv_aload_n hx hb d_Message_parseFields_173 rfl (lv_at hl 0 rfl) ?_
    refine lv_iload_n hx hb d_Message_parseFields_174 rfl (lv_at hl 1 rfl) ?_
    obtain ⟨r175, M175, hq175, h⟩ := cz_ubi h
    refine iv_Message_42 (rest := [.ref (X.2.1 16)]) S hl.1 hP hS (c_Message_nextNumber l hD M a1 hq175) ⟨Nat.le_of_ble_eq_true rfl, Nat.le_of_ble_eq_true rfl⟩ (Nat.le_of_ble_eq_true rfl) rfl d_Message_parseFields_175 (fun H locs hP hS => ?_)
    refine pf_Message_58 S hP hS d_Message_parseFields_178 (fun H locs hP hS => ?_)
    refine lv_aload_n hx hb d_Message_parseFields_181 rfl (lv_at hl 0 rfl) ?_
    refine lv_aload_n hx hb d_Message_parseFields_182 rfl (lv_at hl 0 rfl) ?_
    refine lv_iload_n hx hb d_Message_parseFields_183 rfl (lv_at hl 1 rfl) ?_
    obtain ⟨r184, M184, hq184, h⟩ := cz_ubi h
    refine iv_Message_42 (rest := [.ref (X.2.1 16)]) S hl.1 hP hS (c_Message_nextNumber l hD (cz_i M175 16 3 r175) a1 hq184) ⟨Nat.le_of_ble_eq_true rfl, Nat.le_of_ble_eq_true rfl⟩ (Nat.le_of_ble_eq_true rfl) rfl d_Message_parseFields_184 (fun H locs hP hS => ?_)
    refine pf_Message_70 S hP hS d_Message_parseFields_187 (fun H locs hP hS => ?_)
    refine lv_aload_n hx hb d_Message_parseFields_190 rfl (lv_at hl 0 rfl) ?_
    refine gf_Message_58 S hP d_Message_parseFields_191 ?_
    refine lv_iconst (v := -1) hx hb d_Message_parseFields_194 (by decide) ?_
    refine lv_icmp_eq (tgt := 210) hx hb d_Message_parseFields_195 rfl (fun hc => ?_) (fun hc => ?_)
    · have h := cz_t hc h
      refine lv_iconst (v := 0) hx hb d_Message_parseFields_210 (by decide) ?_
      exact cz_zreth S hr hlocks hP hS h rfl d_Message_parseFields_211
    have h := cz_f hc h
    refine lv_aload_n hx hb d_Message_parseFields_198 rfl (lv_at hl 0 rfl) ?_
    refine gf_Message_70 S hP d_Message_parseFields_199 ?_
    refine lv_iconst (v := -1) hx hb d_Message_parseFields_202 (by decide) ?_
    refine lv_icmp_eq (tgt := 210) hx hb d_Message_parseFields_203 rfl (fun hc => ?_) (fun hc => ?_)
    · have h := cz_t hc h
      refine lv_iconst (v := 0) hx hb d_Message_parseFields_210 (by decide) ?_
      exact cz_zreth S hr hlocks hP hS h rfl d_Message_parseFields_211
    have h := cz_f hc h
    refine lv_iconst (v := 1) hx hb d_Message_parseFields_206 (by decide) ?_
    refine lv_goto (tgt := 211) hx hb d_Message_parseFields_207 rfl ?_
    exact cz_zreth S hr hlocks hP hS h rfl d_Message_parseFields_211
  have h := cz_f hc3 h
  refine (Decidable.em ((M.1 16 0) = (4 : Int32))).elim (fun hc => ?_) (fun hc4 => ?_)
  · have h := cz_t hc h
    refine lv_tableIn (tgt := 212) hx hb d_Message_parseFields_4 (by rw [hc]; decide) (by rw [hc]; decide) (by rw [hc]; rfl) rfl ?_
    refine lv_aload_n hx hb d_Message_parseFields_212 rfl (lv_at hl 0 rfl) ?_
    refine lv_aload_n hx hb d_Message_parseFields_213 rfl (lv_at hl 0 rfl) ?_
    refine lv_iload_n hx hb d_Message_parseFields_214 rfl (lv_at hl 1 rfl) ?_
    obtain ⟨r215, M215, hq215, h⟩ := cz_ubi h
    refine iv_Message_42 (rest := [.ref (X.2.1 16)]) S hl.1 hP hS (c_Message_nextNumber l hD M a1 hq215) ⟨Nat.le_of_ble_eq_true rfl, Nat.le_of_ble_eq_true rfl⟩ (Nat.le_of_ble_eq_true rfl) rfl d_Message_parseFields_215 (fun H locs hP hS => ?_)
    refine pf_Message_58 S hP hS d_Message_parseFields_218 (fun H locs hP hS => ?_)
    refine lv_aload_n hx hb d_Message_parseFields_221 rfl (lv_at hl 0 rfl) ?_
    refine gf_Message_58 S hP d_Message_parseFields_222 ?_
    refine lv_iconst (v := -1) hx hb d_Message_parseFields_225 (by decide) ?_
    refine lv_icmp_eq (tgt := 241) hx hb d_Message_parseFields_226 rfl (fun hc => ?_) (fun hc => ?_)
    · have h := cz_t hc h
      refine lv_iconst (v := 0) hx hb d_Message_parseFields_241 (by decide) ?_
      exact cz_zreth S hr hlocks hP hS h rfl d_Message_parseFields_242
    have h := cz_f hc h
    refine lv_aload_n hx hb d_Message_parseFields_229 rfl (lv_at hl 0 rfl) ?_
    refine lv_iload_n hx hb d_Message_parseFields_230 rfl (lv_at hl 1 rfl) ?_
    obtain ⟨r231, M231, hq231, h⟩ := cz_ubi h
    refine iv_Message_73 (rest := []) S hl.1 hP hS (c_Message_parseBody l hD (cz_i M215 16 3 r215) a1 hq231) ⟨Nat.le_of_ble_eq_true rfl, Nat.le_of_ble_eq_true rfl⟩ (Nat.le_of_ble_eq_true rfl) rfl d_Message_parseFields_231 (fun H locs hP hS => ?_)
    refine lv_if_eq (tgt := 241) hx hb d_Message_parseFields_234 rfl (fun hc => ?_) (fun hc => ?_)
    · have h := cz_t hc h
      refine lv_iconst (v := 0) hx hb d_Message_parseFields_241 (by decide) ?_
      exact cz_zreth S hr hlocks hP hS h rfl d_Message_parseFields_242
    have h := cz_f hc h
    refine lv_iconst (v := 1) hx hb d_Message_parseFields_237 (by decide) ?_
    refine lv_goto (tgt := 242) hx hb d_Message_parseFields_238 rfl ?_
    exact cz_zreth S hr hlocks hP hS h rfl d_Message_parseFields_242
  have h := cz_f hc4 h
  refine (Decidable.em ((M.1 16 0) = (5 : Int32))).elim (fun hc => ?_) (fun hc5 => ?_)
  · have h := cz_t hc h
    refine lv_tableIn (tgt := 243) hx hb d_Message_parseFields_4 (by rw [hc]; decide) (by rw [hc]; decide) (by rw [hc]; rfl) rfl ?_
    refine lv_iconst (v := 1) hx hb d_Message_parseFields_243 (by decide) ?_
    exact cz_zreth S hr hlocks hP hS h rfl d_Message_parseFields_244
  have h := cz_f hc5 h
  refine lv_tableOut (tgt := 245) hx hb d_Message_parseFields_4 (by have e0 := lv_neT (a := 0) hc0 rfl; have e1 := lv_neT (a := 1) hc1 rfl; have e2 := lv_neT (a := 2) hc2 rfl; have e3 := lv_neT (a := 3) hc3 rfl; have e4 := lv_neT (a := 4) hc4 rfl; have e5 := lv_neT (a := 5) hc5 rfl; omega) rfl ?_
  refine lv_iconst (v := 0) hx hb d_Message_parseFields_245 (by decide) ?_
  exact cz_zreth S hr hlocks hP hS h rfl d_Message_parseFields_246
set_option maxHeartbeats 4000000 in
set_option maxRecDepth 100000 in
theorem c_Message_parse (l : Launch) {X : cz_X} {A : Nat → Prop} (hD : ∀ M, va_D A (cp_wl X M)) (M : cz_M) (a1 : Nat) (k1 : cp_B a1) {r2 : Int32} {M2 : cz_M} (h : f_Message_parse M a1 = some (r2, M2)) : cp_Ct l X A y_Message_parse (Cond.code y_Message_parse b_Message_parse 3 (some .boolean) :: cz_T) rm_Message_parse [.ref (X.2.1 16), .ref (X.2.1 a1)] M (some (.int r2)) M2 := by
  refine cz_Met (by decide) rfl (Nat.le_of_ble_eq_true rfl) hD ?_
  intro p e s m args below meth c hargs S hr hlocks hP ls hl
  have S : cz_Cx p m c b_Message_parse 3 s args cz_T "ChainPeers$Message" X.1 cp_cl (cp_tys X) cz_N A (cp_wl X) := S
  have hx := S.1.1
  have hb := S.1.2.1
  have hS : va_S A s.heap s.heap [] := va_S.rf
  have hl : lv_has ls 3 [(0, .ref (X.2.1 16)), (1, .ref (X.2.1 a1))] := hl
  refine lv_aload_n hx hb d_Message_parse_0 rfl (lv_at hl 0 rfl) ?_
  refine gf_Message_23 S hP d_Message_parse_1 ?_
  refine lv_aload_n hx hb d_Message_parse_4 rfl (lv_at hl 1 rfl) ?_
  obtain ⟨M5, hq5, h⟩ := cz_ubv h
  refine iv_Message_27 (rest := []) S hl.1 hP hS (c_Bytes_copyFrom l hD M 14 a1 cp_k14 k1 hq5) cp_k14 ⟨Nat.le_of_ble_eq_true rfl, Nat.le_of_ble_eq_true rfl⟩ (Nat.le_of_ble_eq_true rfl) rfl d_Message_parse_5 (fun H locs hP hS => ?_)
  refine lv_aload_n hx hb d_Message_parse_8 rfl (lv_at hl 0 rfl) ?_
  refine lv_iconst (v := 0) hx hb d_Message_parse_9 (by decide) ?_
  refine pf_Message_31 S hP hS d_Message_parse_10 (fun H locs hP hS => ?_)
  refine lv_aload_n hx hb d_Message_parse_13 rfl (lv_at hl 0 rfl) ?_
  refine lv_aload_n hx hb d_Message_parse_14 rfl (lv_at hl 0 rfl) ?_
  refine gf_Message_23 S hP d_Message_parse_15 ?_
  refine gf_Message_35 S hP cp_k14 d_Message_parse_18 ?_
  obtain ⟨r21, M21, hq21, h⟩ := cz_ubi h
  refine iv_Message_38 (rest := []) S hl.1 hP hS (c_Message_enterList l hD (cz_i M5 16 11 (0 : Int32)) ((cz_i M5 16 11 (0 : Int32)).1 14 1) hq21) ⟨Nat.le_of_ble_eq_true rfl, Nat.le_of_ble_eq_true rfl⟩ (Nat.le_of_ble_eq_true rfl) rfl d_Message_parse_21 (fun H locs hP hS => ?_)
  refine lv_istore_n (lv' := [(2, .int r21), (0, .ref (X.2.1 16)), (1, .ref (X.2.1 a1))]) hx hb d_Message_parse_24 rfl hl (by decide) rfl (fun ls hl => ?_)
  refine lv_iload_n hx hb d_Message_parse_25 rfl (lv_at hl 0 rfl) ?_
  refine lv_aload_n hx hb d_Message_parse_26 rfl (lv_at hl 1 rfl) ?_
  refine gf_Message_23 S hP d_Message_parse_27 ?_
  refine gf_Message_35 S hP cp_k14 d_Message_parse_30 ?_
  refine lv_icmp_eq (tgt := 38) hx hb d_Message_parse_33 rfl (fun hc => ?_) (fun hc => ?_)
  · have h := cz_t hc h
    refine lv_aload_n hx hb d_Message_parse_38 rfl (lv_at hl 1 rfl) ?_
    refine lv_aload_n hx hb d_Message_parse_39 rfl (lv_at hl 1 rfl) ?_
    refine lv_iload_n hx hb d_Message_parse_40 rfl (lv_at hl 0 rfl) ?_
    obtain ⟨r41, M41, hq41, h⟩ := cz_ubi h
    refine iv_Message_42 (rest := [.ref (X.2.1 16)]) S hl.1 hP hS (c_Message_nextNumber l hD M21 r21 hq41) ⟨Nat.le_of_ble_eq_true rfl, Nat.le_of_ble_eq_true rfl⟩ (Nat.le_of_ble_eq_true rfl) rfl d_Message_parse_41 (fun H locs hP hS => ?_)
    refine pf_Message_45 S hP hS d_Message_parse_44 (fun H locs hP hS => ?_)
    refine lv_aload_n hx hb d_Message_parse_47 rfl (lv_at hl 1 rfl) ?_
    refine lv_iload_n hx hb d_Message_parse_48 rfl (lv_at hl 0 rfl) ?_
    obtain ⟨r49, M49, hq49, h⟩ := cz_ubi h
    refine iv_Message_48 (rest := []) S hl.1 hP hS (c_Message_parseFields l hD (cz_i M41 16 0 r41) r21 hq49) ⟨Nat.le_of_ble_eq_true rfl, Nat.le_of_ble_eq_true rfl⟩ (Nat.le_of_ble_eq_true rfl) rfl d_Message_parse_49 (fun H locs hP hS => ?_)
    refine lv_if_eq (tgt := 67) hx hb d_Message_parse_52 rfl (fun hc => ?_) (fun hc => ?_)
    · have h := cz_t hc h
      refine lv_iconst (v := 0) hx hb d_Message_parse_67 (by decide) ?_
      exact cz_zreth S hr hlocks hP hS h rfl d_Message_parse_68
    have h := cz_f hc h
    refine lv_aload_n hx hb d_Message_parse_55 rfl (lv_at hl 1 rfl) ?_
    refine gf_Message_31 S hP d_Message_parse_56 ?_
    refine lv_iload_n hx hb d_Message_parse_59 rfl (lv_at hl 0 rfl) ?_
    refine lv_icmp_ne (tgt := 67) hx hb d_Message_parse_60 rfl (fun hc => ?_) (fun hc => ?_)
    · have h := cz_f hc h
      refine lv_iconst (v := 0) hx hb d_Message_parse_67 (by decide) ?_
      exact cz_zreth S hr hlocks hP hS h rfl d_Message_parse_68
    have h := cz_t hc h
    refine lv_iconst (v := 1) hx hb d_Message_parse_63 (by decide) ?_
    refine lv_goto (tgt := 68) hx hb d_Message_parse_64 rfl ?_
    exact cz_zreth S hr hlocks hP hS h rfl d_Message_parse_68
  have h := cz_f hc h
  refine lv_iconst (v := 0) hx hb d_Message_parse_36 (by decide) ?_
  exact cz_zreth S hr hlocks hP hS h rfl d_Message_parse_37
