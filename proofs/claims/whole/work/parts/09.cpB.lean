set_option maxHeartbeats 4000000 in
set_option maxRecDepth 100000 in
theorem c_Peer_startGreeting (l : Launch) {X : cz_X} {A : Nat → Prop} (hD : ∀ M, va_D A (cp_wl X M)) (M : cz_M) (a0 : Nat) (k0 : cp_Q a0) {M2 : cz_M} (h : f_Peer_startGreeting M a0 = some M2) : cp_Ct l X A y_Peer_startGreeting (Cond.code y_Peer_startGreeting b_Peer_startGreeting 1 none :: cz_T) rm_Peer_startGreeting [.ref (X.2.1 a0)] M none M2 := by
  refine cz_Met (by decide) rfl (Nat.le_of_ble_eq_true rfl) hD ?_
  intro p e s m args below meth c hargs S hr hlocks hP ls hl
  have S : cz_Cx p m c b_Peer_startGreeting 1 s args cz_T "ChainPeers$Peer" X.1 cp_cl (cp_tys X) cz_N A (cp_wl X) := S
  have hx := S.1.1
  have hb := S.1.2.1
  have hS : va_S A s.heap s.heap [] := va_S.rf
  have hl : lv_has ls 1 [(0, .ref (X.2.1 a0))] := hl
  refine lv_aload_n hx hb d_Peer_startGreeting_0 rfl (lv_at hl 0 rfl) ?_
  refine lv_iconst (v := 1) hx hb d_Peer_startGreeting_1 (by decide) ?_
  refine pf_Peer_9 S hP hS k0 d_Peer_startGreeting_2 (fun H locs hP hS => ?_)
  refine lv_aload_n hx hb d_Peer_startGreeting_5 rfl (lv_at hl 0 rfl) ?_
  refine lv_iconst (v := 0) hx hb d_Peer_startGreeting_6 (by decide) ?_
  refine pf_Peer_25 S hP hS k0 d_Peer_startGreeting_7 (fun H locs hP hS => ?_)
  refine lv_aload_n hx hb d_Peer_startGreeting_10 rfl (lv_at hl 0 rfl) ?_
  refine lv_iconst (v := 0) hx hb d_Peer_startGreeting_11 (by decide) ?_
  refine pf_Peer_28 S hP hS k0 d_Peer_startGreeting_12 (fun H locs hP hS => ?_)
  exact cz_vreth S hr hlocks hP hS h d_Peer_startGreeting_15
set_option maxHeartbeats 4000000 in
set_option maxRecDepth 100000 in
theorem c_Bytes_add (l : Launch) {X : cz_X} {A : Nat → Prop} (hD : ∀ M, va_D A (cp_wl X M)) (M : cz_M) (a0 : Nat) (a1 : Int32) (k0 : cp_B a0) {M2 : cz_M} (h : f_Bytes_add M a0 a1 = some M2) : cp_Ct l X A y_Bytes_add (Cond.code y_Bytes_add b_Bytes_add 2 none :: cz_T) rm_Bytes_add [.ref (X.2.1 a0), .int a1] M none M2 := by
  refine cz_Met (by decide) rfl (Nat.le_of_ble_eq_true rfl) hD ?_
  intro p e s m args below meth c hargs S hr hlocks hP ls hl
  have S : cz_Cx p m c b_Bytes_add 2 s args cz_T "ChainPeers$Bytes" X.1 cp_cl (cp_tys X) cz_N A (cp_wl X) := S
  have hx := S.1.1
  have hb := S.1.2.1
  have hS : va_S A s.heap s.heap [] := va_S.rf
  have hl : lv_has ls 2 [(0, .ref (X.2.1 a0)), (1, .int a1)] := hl
  refine lv_aload_n hx hb d_Bytes_add_0 rfl (lv_at hl 0 rfl) ?_
  refine gf_Bytes_15 S hP k0 d_Bytes_add_1 ?_
  refine lv_bipush (v := 56) hx hb d_Bytes_add_4 (by decide) ?_
  refine lv_icmp_ge (tgt := 29) hx hb d_Bytes_add_6 rfl (fun hc => ?_) (fun hc => ?_)
  · have h := cz_t hc h
    exact cz_vreth S hr hlocks hP hS h d_Bytes_add_29
  have h := cz_f hc h
  refine lv_aload_n hx hb d_Bytes_add_9 rfl (lv_at hl 0 rfl) ?_
  refine gf_Bytes_9 S hP k0 d_Bytes_add_10 ?_
  refine lv_aload_n hx hb d_Bytes_add_13 rfl (lv_at hl 0 rfl) ?_
  refine gf_Bytes_15 S hP k0 d_Bytes_add_14 ?_
  refine lv_iload_n hx hb d_Bytes_add_17 rfl (lv_at hl 1 rfl) ?_
  obtain ⟨hin18, h⟩ := cz_ck h
  refine cp_is S hP hS (cp_row k0) hin18 d_Bytes_add_18 (fun H locs hP hS => ?_)
  refine lv_aload_n hx hb d_Bytes_add_19 rfl (lv_at hl 0 rfl) ?_
  refine lv_dup hx hb d_Bytes_add_20 rfl ?_
  refine gf_Bytes_15 S hP k0 d_Bytes_add_21 ?_
  refine lv_iconst (v := 1) hx hb d_Bytes_add_24 (by decide) ?_
  refine lv_iadd hx hb d_Bytes_add_25 ?_
  refine pf_Bytes_15 S hP hS k0 d_Bytes_add_26 (fun H locs hP hS => ?_)
  exact cz_vreth S hr hlocks hP hS h d_Bytes_add_29
set_option maxHeartbeats 4000000 in
set_option maxRecDepth 100000 in
theorem c_Bytes_beginList (l : Launch) {X : cz_X} {A : Nat → Prop} (hD : ∀ M, va_D A (cp_wl X M)) (M : cz_M) (a0 : Nat) (k0 : cp_B a0) {r2 : Int32} {M2 : cz_M} (h : f_Bytes_beginList M a0 = some (r2, M2)) : cp_Ct l X A y_Bytes_beginList (Cond.code y_Bytes_beginList b_Bytes_beginList 2 (some .int) :: cz_T) rm_Bytes_beginList [.ref (X.2.1 a0)] M (some (.int r2)) M2 := by
  refine cz_Met (by decide) rfl (Nat.le_of_ble_eq_true rfl) hD ?_
  intro p e s m args below meth c hargs S hr hlocks hP ls hl
  have S : cz_Cx p m c b_Bytes_beginList 2 s args cz_T "ChainPeers$Bytes" X.1 cp_cl (cp_tys X) cz_N A (cp_wl X) := S
  have hx := S.1.1
  have hb := S.1.2.1
  have hS : va_S A s.heap s.heap [] := va_S.rf
  have hl : lv_has ls 2 [(0, .ref (X.2.1 a0))] := hl
  refine lv_aload_n hx hb d_Bytes_beginList_0 rfl (lv_at hl 0 rfl) ?_
  refine gf_Bytes_15 S hP k0 d_Bytes_beginList_1 ?_
  refine lv_istore_n (lv' := [(1, .int (M.1 a0 1)), (0, .ref (X.2.1 a0))]) hx hb d_Bytes_beginList_4 rfl hl (by decide) rfl (fun ls hl => ?_)
  refine lv_aload_n hx hb d_Bytes_beginList_5 rfl (lv_at hl 1 rfl) ?_
  refine lv_sipush (v := 192) hx hb d_Bytes_beginList_6 (by decide) ?_
  obtain ⟨M9, hq9, h⟩ := cz_ubv h
  refine iv_Bytes_33 (rest := []) S hl.1 hP hS (c_Bytes_add l hD M a0 (192 : Int32) k0 hq9) k0 ⟨Nat.le_of_ble_eq_true rfl, Nat.le_of_ble_eq_true rfl⟩ (Nat.le_of_ble_eq_true rfl) rfl d_Bytes_beginList_9 (fun H locs hP hS => ?_)
  refine lv_iload_n hx hb d_Bytes_beginList_12 rfl (lv_at hl 0 rfl) ?_
  exact cz_ireth S hr hlocks hP hS h d_Bytes_beginList_13
set_option maxHeartbeats 4000000 in
set_option maxRecDepth 100000 in
theorem c_Bytes_codeLength (l : Launch) {X : cz_X} {A : Nat → Prop} (hD : ∀ M, va_D A (cp_wl X M)) (M : cz_M) (a0 : Int32) {r2 : Int32} {M2 : cz_M} (h : f_Bytes_codeLength M a0 = some (r2, M2)) : cp_Ct l X A y_Bytes_codeLength (Cond.code y_Bytes_codeLength b_Bytes_codeLength 1 (some .int) :: cz_T) rm_Bytes_codeLength [.int a0] M (some (.int r2)) M2 := by
  refine cz_Met (by decide) rfl (Nat.le_of_ble_eq_true rfl) hD ?_
  intro p e s m args below meth c hargs S hr hlocks hP ls hl
  have S : cz_Cx p m c b_Bytes_codeLength 1 s args cz_T "ChainPeers$Bytes" X.1 cp_cl (cp_tys X) cz_N A (cp_wl X) := S
  have hx := S.1.1
  have hb := S.1.2.1
  have hS : va_S A s.heap s.heap [] := va_S.rf
  have hl : lv_has ls 1 [(0, .int a0)] := hl
  refine lv_iload_n hx hb d_Bytes_codeLength_0 rfl (lv_at hl 0 rfl) ?_
  refine lv_sipush (v := 128) hx hb d_Bytes_codeLength_1 (by decide) ?_
  refine lv_icmp_ge (tgt := 9) hx hb d_Bytes_codeLength_4 rfl (fun hc => ?_) (fun hc => ?_)
  · have h := cz_t hc h
    refine lv_iload_n hx hb d_Bytes_codeLength_9 rfl (lv_at hl 0 rfl) ?_
    refine lv_sipush (v := 256) hx hb d_Bytes_codeLength_10 (by decide) ?_
    refine lv_icmp_ge (tgt := 18) hx hb d_Bytes_codeLength_13 rfl (fun hc => ?_) (fun hc => ?_)
    · have h := cz_t hc h
      refine lv_iload_n hx hb d_Bytes_codeLength_18 rfl (lv_at hl 0 rfl) ?_
      refine lv_ldc (v := 65536) hx hb S.1.2.2.2.1 (S.1.2.2.2.2 _ mw_257) d_Bytes_codeLength_19 ?_
      refine lv_icmp_ge (tgt := 26) hx hb d_Bytes_codeLength_21 rfl (fun hc => ?_) (fun hc => ?_)
      · have h := cz_t hc h
        refine lv_iload_n hx hb d_Bytes_codeLength_26 rfl (lv_at hl 0 rfl) ?_
        refine lv_ldc (v := 16777216) hx hb S.1.2.2.2.1 (S.1.2.2.2.2 _ mw_258) d_Bytes_codeLength_27 ?_
        refine lv_icmp_ge (tgt := 36) hx hb d_Bytes_codeLength_29 rfl (fun hc => ?_) (fun hc => ?_)
        · have h := cz_t hc h
          refine lv_iconst (v := 5) hx hb d_Bytes_codeLength_36 (by decide) ?_
          exact cz_ireth S hr hlocks hP hS h d_Bytes_codeLength_37
        have h := cz_f hc h
        refine lv_iconst (v := 4) hx hb d_Bytes_codeLength_32 (by decide) ?_
        refine lv_goto (tgt := 37) hx hb d_Bytes_codeLength_33 rfl ?_
        exact cz_ireth S hr hlocks hP hS h d_Bytes_codeLength_37
      have h := cz_f hc h
      refine lv_iconst (v := 3) hx hb d_Bytes_codeLength_24 (by decide) ?_
      exact cz_ireth S hr hlocks hP hS h d_Bytes_codeLength_25
    have h := cz_f hc h
    refine lv_iconst (v := 2) hx hb d_Bytes_codeLength_16 (by decide) ?_
    exact cz_ireth S hr hlocks hP hS h d_Bytes_codeLength_17
  have h := cz_f hc h
  refine lv_iconst (v := 1) hx hb d_Bytes_codeLength_7 (by decide) ?_
  exact cz_ireth S hr hlocks hP hS h d_Bytes_codeLength_8
set_option maxHeartbeats 4000000 in
set_option maxRecDepth 100000 in
theorem c_Bytes_addNumber (l : Launch) {X : cz_X} {A : Nat → Prop} (hD : ∀ M, va_D A (cp_wl X M)) (M : cz_M) (a0 : Nat) (a1 : Int32) (k0 : cp_B a0) {M2 : cz_M} (h : f_Bytes_addNumber M a0 a1 = some M2) : cp_Ct l X A y_Bytes_addNumber (Cond.code y_Bytes_addNumber b_Bytes_addNumber 4 none :: cz_T) rm_Bytes_addNumber [.ref (X.2.1 a0), .int a1] M none M2 := by
  refine cz_Met (by decide) rfl (Nat.le_of_ble_eq_true rfl) hD ?_
  intro p e s m args below meth c hargs S hr hlocks hP ls hl
  have S : cz_Cx p m c b_Bytes_addNumber 4 s args cz_T "ChainPeers$Bytes" X.1 cp_cl (cp_tys X) cz_N A (cp_wl X) := S
  have hx := S.1.1
  have hb := S.1.2.1
  have hS : va_S A s.heap s.heap [] := va_S.rf
  have hl : lv_has ls 4 [(0, .ref (X.2.1 a0)), (1, .int a1)] := hl
  have hb40 : ∀ (n : Nat) (M : cz_M) (v3 : Int32), cz_lp2 (l_Bytes_addNumber_40 a0 a1) n M v3 = some M2 → ∀ (H : Heap) (locs : List Loc) (ls : Array Slot), va_P X.1 cp_cl (cp_wl X M) H → va_S A s.heap H locs → lv_has ls 4 [(0, .ref (X.2.1 a0)), (1, .int a1), (3, .int v3)] → W p l e rm_Bytes_addNumber s m args below meth c H locs 0 0 (MQ below (cz_Qw X.1 cp_cl none (cp_wl X M2) A) args s 0 0 A) (F0 m 40 ls []) := by
    refine cz_ind2 (fun rec40 ih40 M v3 h H locs ls hP hS hl => ?_)
    refine lv_iload_n hx hb d_Bytes_addNumber_40 rfl (lv_at hl 2 rfl) ?_
    refine lv_if_lt (tgt := 64) hx hb d_Bytes_addNumber_41 rfl (fun hc => ?_) (fun hc => ?_)
    · have h := cz_t hc h
      exact cz_vreth S hr hlocks hP hS h d_Bytes_addNumber_64
    have h := cz_f hc h
    refine lv_aload_n hx hb d_Bytes_addNumber_44 rfl (lv_at hl 0 rfl) ?_
    refine lv_iload_n hx hb d_Bytes_addNumber_45 rfl (lv_at hl 1 rfl) ?_
    refine lv_bipush (v := 8) hx hb d_Bytes_addNumber_46 (by decide) ?_
    refine lv_iload_n hx hb d_Bytes_addNumber_48 rfl (lv_at hl 2 rfl) ?_
    refine lv_imul hx hb d_Bytes_addNumber_49 ?_
    refine lv_iushr (v := cz_iushr a1 ((8 : Int32) * v3)) hx hb d_Bytes_addNumber_50 rfl ?_
    refine lv_sipush (v := 255) hx hb d_Bytes_addNumber_51 (by decide) ?_
    refine lv_iand hx hb d_Bytes_addNumber_54 ?_
    obtain ⟨M55, hq55, h⟩ := cz_ubv h
    refine iv_Bytes_33 (rest := []) S hl.1 hP hS (c_Bytes_add l hD M a0 ((cz_iushr a1 ((8 : Int32) * v3)) &&& (255 : Int32)) k0 hq55) k0 ⟨Nat.le_of_ble_eq_true rfl, Nat.le_of_ble_eq_true rfl⟩ (Nat.le_of_ble_eq_true rfl) rfl d_Bytes_addNumber_55 (fun H locs hP hS => ?_)
    refine lv_iinc (lv' := [(3, .int (v3 - 1)), (0, .ref (X.2.1 a0)), (1, .int a1)]) (v := v3 - 1) (k := 2) hx hb d_Bytes_addNumber_58 hl rfl (cz_incm1 _) (by decide) rfl (fun ls hl => ?_)
    refine lv_goto (tgt := 40) hx hb d_Bytes_addNumber_61 rfl ?_
    exact ih40 M55 (v3 - 1) h _ _ _ hP hS (lv_sub hl [1, 2, 0] rfl)
  have hb23 : ∀ (M : cz_M) (s0 : Int32), b_Bytes_addNumber_23 a0 a1 M s0 = some M2 → ∀ (H : Heap) (locs : List Loc) (ls : Array Slot), va_P X.1 cp_cl (cp_wl X M) H → va_S A s.heap H locs → lv_has ls 4 [] → W p l e rm_Bytes_addNumber s m args below meth c H locs 0 0 (MQ below (cz_Qw X.1 cp_cl none (cp_wl X M2) A) args s 0 0 A) (F0 m 23 ls [.int s0, .ref (X.2.1 a0)]) := by
    intro M s0 h H locs ls hP hS hl
    obtain ⟨M23, hq23, h⟩ := cz_ubv h
    refine iv_Bytes_33 (rest := []) S hl.1 hP hS (c_Bytes_add l hD M a0 s0 k0 hq23) k0 ⟨Nat.le_of_ble_eq_true rfl, Nat.le_of_ble_eq_true rfl⟩ (Nat.le_of_ble_eq_true rfl) rfl d_Bytes_addNumber_23 (fun H locs hP hS => ?_)
    exact cz_vreth S hr hlocks hP hS h d_Bytes_addNumber_26
  refine lv_iload_n hx hb d_Bytes_addNumber_0 rfl (lv_at hl 1 rfl) ?_
  obtain ⟨r1, M1, hq1, h⟩ := cz_ubi h
  refine iv_Bytes_39 (rest := []) S hl.1 hP hS (c_Bytes_codeLength l hD M a1 hq1) ⟨Nat.le_of_ble_eq_true rfl, Nat.le_of_ble_eq_true rfl⟩ (Nat.le_of_ble_eq_true rfl) rfl d_Bytes_addNumber_1 (fun H locs hP hS => ?_)
  refine lv_iconst (v := 1) hx hb d_Bytes_addNumber_4 (by decide) ?_
  refine lv_isub hx hb d_Bytes_addNumber_5 ?_
  refine lv_istore_n (lv' := [(2, .int (r1 - (1 : Int32))), (0, .ref (X.2.1 a0)), (1, .int a1)]) hx hb d_Bytes_addNumber_6 rfl hl (by decide) rfl (fun ls hl => ?_)
  refine lv_iload_n hx hb d_Bytes_addNumber_7 rfl (lv_at hl 0 rfl) ?_
  refine lv_if_ne (tgt := 27) hx hb d_Bytes_addNumber_8 rfl (fun hc => ?_) (fun hc => ?_)
  · have h := cz_f hc h
    refine lv_aload_n hx hb d_Bytes_addNumber_27 rfl (lv_at hl 1 rfl) ?_
    refine lv_sipush (v := 128) hx hb d_Bytes_addNumber_28 (by decide) ?_
    refine lv_iload_n hx hb d_Bytes_addNumber_31 rfl (lv_at hl 0 rfl) ?_
    refine lv_iadd hx hb d_Bytes_addNumber_32 ?_
    obtain ⟨M33, hq33, h⟩ := cz_ubv h
    refine iv_Bytes_33 (rest := []) S hl.1 hP hS (c_Bytes_add l hD M1 a0 ((128 : Int32) + (r1 - (1 : Int32))) k0 hq33) k0 ⟨Nat.le_of_ble_eq_true rfl, Nat.le_of_ble_eq_true rfl⟩ (Nat.le_of_ble_eq_true rfl) rfl d_Bytes_addNumber_33 (fun H locs hP hS => ?_)
    refine lv_iload_n hx hb d_Bytes_addNumber_36 rfl (lv_at hl 0 rfl) ?_
    refine lv_iconst (v := 1) hx hb d_Bytes_addNumber_37 (by decide) ?_
    refine lv_isub hx hb d_Bytes_addNumber_38 ?_
    refine lv_istore_n (lv' := [(3, .int ((r1 - (1 : Int32)) - (1 : Int32))), (2, .int (r1 - (1 : Int32))), (0, .ref (X.2.1 a0)), (1, .int a1)]) hx hb d_Bytes_addNumber_39 rfl hl (by decide) rfl (fun ls hl => ?_)
    exact hb40 _ M33 ((r1 - (1 : Int32)) - (1 : Int32)) h _ _ _ hP hS (lv_sub hl [2, 3, 0] rfl)
  have h := cz_t hc h
  refine lv_aload_n hx hb d_Bytes_addNumber_11 rfl (lv_at hl 1 rfl) ?_
  refine lv_iload_n hx hb d_Bytes_addNumber_12 rfl (lv_at hl 2 rfl) ?_
  refine lv_if_ne (tgt := 22) hx hb d_Bytes_addNumber_13 rfl (fun hc => ?_) (fun hc => ?_)
  · have h := cz_f hc h
    refine lv_iload_n hx hb d_Bytes_addNumber_22 rfl (lv_at hl 2 rfl) ?_
    exact hb23 M1 a1 h _ _ _ hP hS (lv_sub hl [] rfl)
  have h := cz_t hc h
  refine lv_sipush (v := 128) hx hb d_Bytes_addNumber_16 (by decide) ?_
  refine lv_goto (tgt := 23) hx hb d_Bytes_addNumber_19 rfl ?_
  exact hb23 M1 (128 : Int32) h _ _ _ hP hS (lv_sub hl [] rfl)
set_option maxHeartbeats 4000000 in
set_option maxRecDepth 100000 in
theorem c_Bytes_begin (l : Launch) {X : cz_X} {A : Nat → Prop} (hD : ∀ M, va_D A (cp_wl X M)) (M : cz_M) (a0 : Nat) (a1 : Int32) (k0 : cp_B a0) {M2 : cz_M} (h : f_Bytes_begin M a0 a1 = some M2) : cp_Ct l X A y_Bytes_begin (Cond.code y_Bytes_begin b_Bytes_begin 2 none :: cz_T) rm_Bytes_begin [.ref (X.2.1 a0), .int a1] M none M2 := by
  refine cz_Met (by decide) rfl (Nat.le_of_ble_eq_true rfl) hD ?_
  intro p e s m args below meth c hargs S hr hlocks hP ls hl
  have S : cz_Cx p m c b_Bytes_begin 2 s args cz_T "ChainPeers$Bytes" X.1 cp_cl (cp_tys X) cz_N A (cp_wl X) := S
  have hx := S.1.1
  have hb := S.1.2.1
  have hS : va_S A s.heap s.heap [] := va_S.rf
  have hl : lv_has ls 2 [(0, .ref (X.2.1 a0)), (1, .int a1)] := hl
  refine lv_aload_n hx hb d_Bytes_begin_0 rfl (lv_at hl 0 rfl) ?_
  refine lv_iconst (v := 0) hx hb d_Bytes_begin_1 (by decide) ?_
  refine pf_Bytes_15 S hP hS k0 d_Bytes_begin_2 (fun H locs hP hS => ?_)
  refine lv_aload_n hx hb d_Bytes_begin_5 rfl (lv_at hl 0 rfl) ?_
  obtain ⟨r6, M6, hq6, h⟩ := cz_ubi h
  refine iv_Bytes_25 (rest := []) S hl.1 hP hS (c_Bytes_beginList l hD (cz_i M a0 1 (0 : Int32)) a0 k0 hq6) k0 ⟨Nat.le_of_ble_eq_true rfl, Nat.le_of_ble_eq_true rfl⟩ (Nat.le_of_ble_eq_true rfl) rfl d_Bytes_begin_6 (fun H locs hP hS => ?_)
  refine lv_pop hx hb d_Bytes_begin_9 rfl ?_
  refine lv_aload_n hx hb d_Bytes_begin_10 rfl (lv_at hl 0 rfl) ?_
  refine lv_iload_n hx hb d_Bytes_begin_11 rfl (lv_at hl 1 rfl) ?_
  obtain ⟨M12, hq12, h⟩ := cz_ubv h
  refine iv_Bytes_29 (rest := []) S hl.1 hP hS (c_Bytes_addNumber l hD M6 a0 a1 k0 hq12) k0 ⟨Nat.le_of_ble_eq_true rfl, Nat.le_of_ble_eq_true rfl⟩ (Nat.le_of_ble_eq_true rfl) rfl d_Bytes_begin_12 (fun H locs hP hS => ?_)
  exact cz_vreth S hr hlocks hP hS h d_Bytes_begin_15
set_option maxHeartbeats 4000000 in
set_option maxRecDepth 100000 in
theorem c_Bytes_endList (l : Launch) {X : cz_X} {A : Nat → Prop} (hD : ∀ M, va_D A (cp_wl X M)) (M : cz_M) (a0 : Nat) (a1 : Int32) (k0 : cp_B a0) {M2 : cz_M} (h : f_Bytes_endList M a0 a1 = some M2) : cp_Ct l X A y_Bytes_endList (Cond.code y_Bytes_endList b_Bytes_endList 2 none :: cz_T) rm_Bytes_endList [.ref (X.2.1 a0), .int a1] M none M2 := by
  refine cz_Met (by decide) rfl (Nat.le_of_ble_eq_true rfl) hD ?_
  intro p e s m args below meth c hargs S hr hlocks hP ls hl
  have S : cz_Cx p m c b_Bytes_endList 2 s args cz_T "ChainPeers$Bytes" X.1 cp_cl (cp_tys X) cz_N A (cp_wl X) := S
  have hx := S.1.1
  have hb := S.1.2.1
  have hS : va_S A s.heap s.heap [] := va_S.rf
  have hl : lv_has ls 2 [(0, .ref (X.2.1 a0)), (1, .int a1)] := hl
  refine lv_iload_n hx hb d_Bytes_endList_0 rfl (lv_at hl 1 rfl) ?_
  refine lv_if_lt (tgt := 30) hx hb d_Bytes_endList_1 rfl (fun hc => ?_) (fun hc => ?_)
  · have h := cz_t hc h
    exact cz_vreth S hr hlocks hP hS h d_Bytes_endList_30
  have h := cz_f hc h
  refine lv_iload_n hx hb d_Bytes_endList_4 rfl (lv_at hl 1 rfl) ?_
  refine lv_aload_n hx hb d_Bytes_endList_5 rfl (lv_at hl 0 rfl) ?_
  refine gf_Bytes_15 S hP k0 d_Bytes_endList_6 ?_
  refine lv_icmp_ge (tgt := 30) hx hb d_Bytes_endList_9 rfl (fun hc => ?_) (fun hc => ?_)
  · have h := cz_t hc h
    exact cz_vreth S hr hlocks hP hS h d_Bytes_endList_30
  have h := cz_f hc h
  refine lv_aload_n hx hb d_Bytes_endList_12 rfl (lv_at hl 0 rfl) ?_
  refine gf_Bytes_9 S hP k0 d_Bytes_endList_13 ?_
  refine lv_iload_n hx hb d_Bytes_endList_16 rfl (lv_at hl 1 rfl) ?_
  refine lv_sipush (v := 192) hx hb d_Bytes_endList_17 (by decide) ?_
  refine lv_aload_n hx hb d_Bytes_endList_20 rfl (lv_at hl 0 rfl) ?_
  refine gf_Bytes_15 S hP k0 d_Bytes_endList_21 ?_
  refine lv_iadd hx hb d_Bytes_endList_24 ?_
  refine lv_iload_n hx hb d_Bytes_endList_25 rfl (lv_at hl 1 rfl) ?_
  refine lv_isub hx hb d_Bytes_endList_26 ?_
  refine lv_iconst (v := 1) hx hb d_Bytes_endList_27 (by decide) ?_
  refine lv_isub hx hb d_Bytes_endList_28 ?_
  obtain ⟨hin29, h⟩ := cz_ck h
  refine cp_is S hP hS (cp_row k0) hin29 d_Bytes_endList_29 (fun H locs hP hS => ?_)
  exact cz_vreth S hr hlocks hP hS h d_Bytes_endList_30
set_option maxHeartbeats 4000000 in
set_option maxRecDepth 100000 in
theorem c_Bytes_copyFrom (l : Launch) {X : cz_X} {A : Nat → Prop} (hD : ∀ M, va_D A (cp_wl X M)) (M : cz_M) (a0 : Nat) (a1 : Nat) (k0 : cp_B a0) (k1 : cp_B a1) {M2 : cz_M} (h : f_Bytes_copyFrom M a0 a1 = some M2) : cp_Ct l X A y_Bytes_copyFrom (Cond.code y_Bytes_copyFrom b_Bytes_copyFrom 2 none :: cz_T) rm_Bytes_copyFrom [.ref (X.2.1 a0), .ref (X.2.1 a1)] M none M2 := by
  refine cz_Met (by decide) rfl (Nat.le_of_ble_eq_true rfl) hD ?_
  intro p e s m args below meth c hargs S hr hlocks hP ls hl
  have S : cz_Cx p m c b_Bytes_copyFrom 2 s args cz_T "ChainPeers$Bytes" X.1 cp_cl (cp_tys X) cz_N A (cp_wl X) := S
  have hx := S.1.1
  have hb := S.1.2.1
  have hS : va_S A s.heap s.heap [] := va_S.rf
  have hl : lv_has ls 2 [(0, .ref (X.2.1 a0)), (1, .ref (X.2.1 a1))] := hl
  refine lv_aload_n hx hb d_Bytes_copyFrom_0 rfl (lv_at hl 1 rfl) ?_
  refine gf_Bytes_9 S hP k1 d_Bytes_copyFrom_1 ?_
  refine lv_iconst (v := 0) hx hb d_Bytes_copyFrom_4 (by decide) ?_
  refine lv_aload_n hx hb d_Bytes_copyFrom_5 rfl (lv_at hl 0 rfl) ?_
  refine gf_Bytes_9 S hP k0 d_Bytes_copyFrom_6 ?_
  refine lv_iconst (v := 0) hx hb d_Bytes_copyFrom_9 (by decide) ?_
  refine lv_bipush (v := 56) hx hb d_Bytes_copyFrom_10 (by decide) ?_
  obtain ⟨hin12, h⟩ := cz_ck h
  refine ac_Bytes_19 S hl.1 hP hS (cp_row k1) (cp_row k0) hin12 (Nat.le_of_ble_eq_true rfl) (Nat.le_of_ble_eq_true rfl) d_Bytes_copyFrom_12 (fun H locs hP hS => ?_)
  refine lv_aload_n hx hb d_Bytes_copyFrom_15 rfl (lv_at hl 0 rfl) ?_
  refine lv_aload_n hx hb d_Bytes_copyFrom_16 rfl (lv_at hl 1 rfl) ?_
  refine gf_Bytes_15 S hP k1 d_Bytes_copyFrom_17 ?_
  refine pf_Bytes_15 S hP hS k0 d_Bytes_copyFrom_20 (fun H locs hP hS => ?_)
  exact cz_vreth S hr hlocks hP hS h d_Bytes_copyFrom_23
set_option maxHeartbeats 4000000 in
set_option maxRecDepth 100000 in
theorem c_Peer_addToOutbox (l : Launch) {X : cz_X} {A : Nat → Prop} (hD : ∀ M, va_D A (cp_wl X M)) (M : cz_M) (a0 : Nat) (a1 : Nat) (k0 : cp_Q a0) (k1 : cp_B a1) {M2 : cz_M} (h : f_Peer_addToOutbox M a0 a1 = some M2) : cp_Ct l X A y_Peer_addToOutbox (Cond.code y_Peer_addToOutbox b_Peer_addToOutbox 2 none :: cz_T) rm_Peer_addToOutbox [.ref (X.2.1 a0), .ref (X.2.1 a1)] M none M2 := by
  refine cz_Met (by decide) rfl (Nat.le_of_ble_eq_true rfl) hD ?_
  intro p e s m args below meth c hargs S hr hlocks hP ls hl
  have S : cz_Cx p m c b_Peer_addToOutbox 2 s args cz_T "ChainPeers$Peer" X.1 cp_cl (cp_tys X) cz_N A (cp_wl X) := S
  have hx := S.1.1
  have hb := S.1.2.1
  have hS : va_S A s.heap s.heap [] := va_S.rf
  have hl : lv_has ls 2 [(0, .ref (X.2.1 a0)), (1, .ref (X.2.1 a1))] := hl
  refine lv_aload_n hx hb d_Peer_addToOutbox_0 rfl (lv_at hl 0 rfl) ?_
  refine gf_Peer_31 S hP k0 d_Peer_addToOutbox_1 ?_
  refine lv_iconst (v := 4) hx hb d_Peer_addToOutbox_4 (by decide) ?_
  refine lv_icmp_ge (tgt := 31) hx hb d_Peer_addToOutbox_5 rfl (fun hc => ?_) (fun hc => ?_)
  · have h := cz_t hc h
    exact cz_vreth S hr hlocks hP hS h d_Peer_addToOutbox_31
  have h := cz_f hc h
  refine lv_aload_n hx hb d_Peer_addToOutbox_8 rfl (lv_at hl 0 rfl) ?_
  refine gf_Peer_17 S hP k0 d_Peer_addToOutbox_9 ?_
  refine lv_aload_n hx hb d_Peer_addToOutbox_12 rfl (lv_at hl 0 rfl) ?_
  refine gf_Peer_31 S hP k0 d_Peer_addToOutbox_13 ?_
  obtain ⟨hin16, h⟩ := cz_ck h
  obtain ⟨hk16, h⟩ := cz_ckp h
  refine cp_aaOA S hP k0 hin16 d_Peer_addToOutbox_16 ?_
  refine lv_aload_n hx hb d_Peer_addToOutbox_17 rfl (lv_at hl 1 rfl) ?_
  obtain ⟨M18, hq18, h⟩ := cz_ubv h
  refine iv_Peer_59 (rest := []) S hl.1 hP hS (c_Bytes_copyFrom l hD M (M.2 (a0 + 1) (M.1 a0 9).toNatClampNeg) a1 hk16 k1 hq18) hk16 ⟨Nat.le_of_ble_eq_true rfl, Nat.le_of_ble_eq_true rfl⟩ (Nat.le_of_ble_eq_true rfl) rfl d_Peer_addToOutbox_18 (fun H locs hP hS => ?_)
  refine lv_aload_n hx hb d_Peer_addToOutbox_21 rfl (lv_at hl 0 rfl) ?_
  refine lv_dup hx hb d_Peer_addToOutbox_22 rfl ?_
  refine gf_Peer_31 S hP k0 d_Peer_addToOutbox_23 ?_
  refine lv_iconst (v := 1) hx hb d_Peer_addToOutbox_26 (by decide) ?_
  refine lv_iadd hx hb d_Peer_addToOutbox_27 ?_
  refine pf_Peer_31 S hP hS k0 d_Peer_addToOutbox_28 (fun H locs hP hS => ?_)
  exact cz_vreth S hr hlocks hP hS h d_Peer_addToOutbox_31
set_option maxHeartbeats 4000000 in
set_option maxRecDepth 100000 in
theorem c_Peer_isTalking (l : Launch) {X : cz_X} {A : Nat → Prop} (hD : ∀ M, va_D A (cp_wl X M)) (M : cz_M) (a0 : Nat) (k0 : cp_Q a0) {r2 : Int32} {M2 : cz_M} (h : f_Peer_isTalking M a0 = some (r2, M2)) : cp_Ct l X A y_Peer_isTalking (Cond.code y_Peer_isTalking b_Peer_isTalking 1 (some .boolean) :: cz_T) rm_Peer_isTalking [.ref (X.2.1 a0)] M (some (.int r2)) M2 := by
  refine cz_Met (by decide) rfl (Nat.le_of_ble_eq_true rfl) hD ?_
  intro p e s m args below meth c hargs S hr hlocks hP ls hl
  have S : cz_Cx p m c b_Peer_isTalking 1 s args cz_T "ChainPeers$Peer" X.1 cp_cl (cp_tys X) cz_N A (cp_wl X) := S
  have hx := S.1.1
  have hb := S.1.2.1
  have hS : va_S A s.heap s.heap [] := va_S.rf
  have hl : lv_has ls 1 [(0, .ref (X.2.1 a0))] := hl
  have hb16 : ∀ (M : cz_M), b_Peer_isTalking_16 a0 M = some (r2, M2) → ∀ (H : Heap) (locs : List Loc) (ls : Array Slot), va_P X.1 cp_cl (cp_wl X M) H → va_S A s.heap H locs → lv_has ls 1 [] → W p l e rm_Peer_isTalking s m args below meth c H locs 0 0 (MQ below (cz_Qw X.1 cp_cl (some (.int r2)) (cp_wl X M2) A) args s 0 0 A) (F0 m 16 ls []) := by
    intro M h H locs ls hP hS hl
    refine lv_iconst (v := 1) hx hb d_Peer_isTalking_16 (by decide) ?_
    refine lv_goto (tgt := 21) hx hb d_Peer_isTalking_17 rfl ?_
    exact cz_zreth S hr hlocks hP hS h rfl d_Peer_isTalking_21
  refine lv_aload_n hx hb d_Peer_isTalking_0 rfl (lv_at hl 0 rfl) ?_
  refine gf_Peer_9 S hP k0 d_Peer_isTalking_1 ?_
  refine lv_iconst (v := 1) hx hb d_Peer_isTalking_4 (by decide) ?_
  refine lv_icmp_eq (tgt := 16) hx hb d_Peer_isTalking_5 rfl (fun hc => ?_) (fun hc => ?_)
  · have h := cz_t hc h
    exact hb16 M h _ _ _ hP hS (lv_sub hl [] rfl)
  have h := cz_f hc h
  refine lv_aload_n hx hb d_Peer_isTalking_8 rfl (lv_at hl 0 rfl) ?_
  refine gf_Peer_9 S hP k0 d_Peer_isTalking_9 ?_
  refine lv_iconst (v := 2) hx hb d_Peer_isTalking_12 (by decide) ?_
  refine lv_icmp_ne (tgt := 20) hx hb d_Peer_isTalking_13 rfl (fun hc => ?_) (fun hc => ?_)
  · have h := cz_f hc h
    refine lv_iconst (v := 0) hx hb d_Peer_isTalking_20 (by decide) ?_
    exact cz_zreth S hr hlocks hP hS h rfl d_Peer_isTalking_21
  have h := cz_t hc h
  exact hb16 M h _ _ _ hP hS (lv_sub hl [] rfl)
set_option maxHeartbeats 4000000 in
set_option maxRecDepth 100000 in
theorem c_Peer_dropRequest (l : Launch) {X : cz_X} {A : Nat → Prop} (hD : ∀ M, va_D A (cp_wl X M)) (M : cz_M) (a0 : Nat) (k0 : cp_Q a0) {M2 : cz_M} (h : f_Peer_dropRequest M a0 = some M2) : cp_Ct l X A y_Peer_dropRequest (Cond.code y_Peer_dropRequest b_Peer_dropRequest 1 none :: cz_T) rm_Peer_dropRequest [.ref (X.2.1 a0)] M none M2 := by
  refine cz_Met (by decide) rfl (Nat.le_of_ble_eq_true rfl) hD ?_
  intro p e s m args below meth c hargs S hr hlocks hP ls hl
  have S : cz_Cx p m c b_Peer_dropRequest 1 s args cz_T "ChainPeers$Peer" X.1 cp_cl (cp_tys X) cz_N A (cp_wl X) := S
  have hx := S.1.1
  have hb := S.1.2.1
  have hS : va_S A s.heap s.heap [] := va_S.rf
  have hl : lv_has ls 1 [(0, .ref (X.2.1 a0))] := hl
  refine lv_aload_n hx hb d_Peer_dropRequest_0 rfl (lv_at hl 0 rfl) ?_
  refine lv_iconst (v := 0) hx hb d_Peer_dropRequest_1 (by decide) ?_
  refine pf_Peer_22 S hP hS k0 d_Peer_dropRequest_2 (fun H locs hP hS => ?_)
  exact cz_vreth S hr hlocks hP hS h d_Peer_dropRequest_5
set_option maxHeartbeats 4000000 in
set_option maxRecDepth 100000 in
theorem c_Peer_leave (l : Launch) {X : cz_X} {A : Nat → Prop} (hD : ∀ M, va_D A (cp_wl X M)) (M : cz_M) (a0 : Nat) (a1 : Int32) (k0 : cp_Q a0) {M2 : cz_M} (h : f_Peer_leave M a0 a1 = some M2) : cp_Ct l X A y_Peer_leave (Cond.code y_Peer_leave b_Peer_leave 2 none :: cz_T) rm_Peer_leave [.ref (X.2.1 a0), .int a1] M none M2 := by
  refine cz_Met (by decide) rfl (Nat.le_of_ble_eq_true rfl) hD ?_
  intro p e s m args below meth c hargs S hr hlocks hP ls hl
  have S : cz_Cx p m c b_Peer_leave 2 s args cz_T "ChainPeers$Peer" X.1 cp_cl (cp_tys X) cz_N A (cp_wl X) := S
  have hx := S.1.1
  have hb := S.1.2.1
  have hS : va_S A s.heap s.heap [] := va_S.rf
  have hl : lv_has ls 2 [(0, .ref (X.2.1 a0)), (1, .int a1)] := hl
  refine lv_aload_n hx hb d_Peer_leave_0 rfl (lv_at hl 0 rfl) ?_
  refine lv_iload_n hx hb d_Peer_leave_1 rfl (lv_at hl 1 rfl) ?_
  refine pf_Peer_9 S hP hS k0 d_Peer_leave_2 (fun H locs hP hS => ?_)
  refine lv_aload_n hx hb d_Peer_leave_5 rfl (lv_at hl 0 rfl) ?_
  refine lv_iconst (v := 0) hx hb d_Peer_leave_6 (by decide) ?_
  refine pf_Peer_31 S hP hS k0 d_Peer_leave_7 (fun H locs hP hS => ?_)
  refine lv_aload_n hx hb d_Peer_leave_10 rfl (lv_at hl 0 rfl) ?_
  obtain ⟨M11, hq11, h⟩ := cz_ubv h
  refine iv_Peer_34 (rest := []) S hl.1 hP hS (c_Peer_dropRequest l hD (cz_i (cz_i M a0 0 a1) a0 9 (0 : Int32)) a0 k0 hq11) k0 ⟨Nat.le_of_ble_eq_true rfl, Nat.le_of_ble_eq_true rfl⟩ (Nat.le_of_ble_eq_true rfl) rfl d_Peer_leave_11 (fun H locs hP hS => ?_)
  exact cz_vreth S hr hlocks hP hS h d_Peer_leave_14
set_option maxHeartbeats 4000000 in
set_option maxRecDepth 100000 in
theorem c_Bytes_at (l : Launch) {X : cz_X} {A : Nat → Prop} (hD : ∀ M, va_D A (cp_wl X M)) (M : cz_M) (a0 : Nat) (a1 : Int32) (k0 : cp_B a0) {r2 : Int32} {M2 : cz_M} (h : f_Bytes_at M a0 a1 = some (r2, M2)) : cp_Ct l X A y_Bytes_at (Cond.code y_Bytes_at b_Bytes_at 2 (some .int) :: cz_T) rm_Bytes_at [.ref (X.2.1 a0), .int a1] M (some (.int r2)) M2 := by
  refine cz_Met (by decide) rfl (Nat.le_of_ble_eq_true rfl) hD ?_
  intro p e s m args below meth c hargs S hr hlocks hP ls hl
  have S : cz_Cx p m c b_Bytes_at 2 s args cz_T "ChainPeers$Bytes" X.1 cp_cl (cp_tys X) cz_N A (cp_wl X) := S
  have hx := S.1.1
  have hb := S.1.2.1
  have hS : va_S A s.heap s.heap [] := va_S.rf
  have hl : lv_has ls 2 [(0, .ref (X.2.1 a0)), (1, .int a1)] := hl
  refine lv_iload_n hx hb d_Bytes_at_0 rfl (lv_at hl 1 rfl) ?_
  refine lv_if_lt (tgt := 21) hx hb d_Bytes_at_1 rfl (fun hc => ?_) (fun hc => ?_)
  · have h := cz_t hc h
    refine lv_iconst (v := -1) hx hb d_Bytes_at_21 (by decide) ?_
    exact cz_ireth S hr hlocks hP hS h d_Bytes_at_22
  have h := cz_f hc h
  refine lv_iload_n hx hb d_Bytes_at_4 rfl (lv_at hl 1 rfl) ?_
  refine lv_aload_n hx hb d_Bytes_at_5 rfl (lv_at hl 0 rfl) ?_
  refine gf_Bytes_15 S hP k0 d_Bytes_at_6 ?_
  refine lv_icmp_ge (tgt := 21) hx hb d_Bytes_at_9 rfl (fun hc => ?_) (fun hc => ?_)
  · have h := cz_t hc h
    refine lv_iconst (v := -1) hx hb d_Bytes_at_21 (by decide) ?_
    exact cz_ireth S hr hlocks hP hS h d_Bytes_at_22
  have h := cz_f hc h
  refine lv_aload_n hx hb d_Bytes_at_12 rfl (lv_at hl 0 rfl) ?_
  refine gf_Bytes_9 S hP k0 d_Bytes_at_13 ?_
  refine lv_iload_n hx hb d_Bytes_at_16 rfl (lv_at hl 1 rfl) ?_
  obtain ⟨hin17, h⟩ := cz_ck h
  refine cp_ia S hP (cp_row k0) hin17 d_Bytes_at_17 ?_
  refine lv_goto (tgt := 22) hx hb d_Bytes_at_18 rfl ?_
  exact cz_ireth S hr hlocks hP hS h d_Bytes_at_22
set_option maxHeartbeats 4000000 in
set_option maxRecDepth 100000 in
theorem c_Peer_fault (l : Launch) {X : cz_X} {A : Nat → Prop} (hD : ∀ M, va_D A (cp_wl X M)) (M : cz_M) (a0 : Nat) (a1 : Int32) (k0 : cp_Q a0) {M2 : cz_M} (h : f_Peer_fault M a0 a1 = some M2) : cp_Ct l X A y_Peer_fault (Cond.code y_Peer_fault b_Peer_fault 2 none :: cz_T) rm_Peer_fault [.ref (X.2.1 a0), .int a1] M none M2 := by
  refine cz_Met (by decide) rfl (Nat.le_of_ble_eq_true rfl) hD ?_
  intro p e s m args below meth c hargs S hr hlocks hP ls hl
  have S : cz_Cx p m c b_Peer_fault 2 s args cz_T "ChainPeers$Peer" X.1 cp_cl (cp_tys X) cz_N A (cp_wl X) := S
  have hx := S.1.1
  have hb := S.1.2.1
  have hS : va_S A s.heap s.heap [] := va_S.rf
  have hl : lv_has ls 2 [(0, .ref (X.2.1 a0)), (1, .int a1)] := hl
  refine lv_aload_n hx hb d_Peer_fault_0 rfl (lv_at hl 0 rfl) ?_
  refine lv_dup hx hb d_Peer_fault_1 rfl ?_
  refine gf_Peer_37 S hP k0 d_Peer_fault_2 ?_
  refine lv_iload_n hx hb d_Peer_fault_5 rfl (lv_at hl 1 rfl) ?_
  refine lv_isub hx hb d_Peer_fault_6 ?_
  refine pf_Peer_37 S hP hS k0 d_Peer_fault_7 (fun H locs hP hS => ?_)
  refine lv_aload_n hx hb d_Peer_fault_10 rfl (lv_at hl 0 rfl) ?_
  refine gf_Peer_37 S hP k0 d_Peer_fault_11 ?_
  refine lv_bipush (v := -3) hx hb d_Peer_fault_14 (by decide) ?_
  refine lv_icmp_ge (tgt := 24) hx hb d_Peer_fault_16 rfl (fun hc => ?_) (fun hc => ?_)
  · have h := cz_t hc h
    exact cz_vreth S hr hlocks hP hS h d_Peer_fault_24
  have h := cz_f hc h
  refine lv_aload_n hx hb d_Peer_fault_19 rfl (lv_at hl 0 rfl) ?_
  refine lv_iconst (v := 3) hx hb d_Peer_fault_20 (by decide) ?_
  obtain ⟨M21, hq21, h⟩ := cz_ubv h
  refine iv_Peer_40 (rest := []) S hl.1 hP hS (c_Peer_leave l hD (cz_i M a0 1 ((M.1 a0 1) - a1)) a0 (3 : Int32) k0 hq21) k0 ⟨Nat.le_of_ble_eq_true rfl, Nat.le_of_ble_eq_true rfl⟩ (Nat.le_of_ble_eq_true rfl) rfl d_Peer_fault_21 (fun H locs hP hS => ?_)
  exact cz_vreth S hr hlocks hP hS h d_Peer_fault_24
set_option maxHeartbeats 4000000 in
set_option maxRecDepth 100000 in
theorem c_Bytes_addHeader (l : Launch) {X : cz_X} {A : Nat → Prop} (hD : ∀ M, va_D A (cp_wl X M)) (M : cz_M) (a0 : Nat) (a1 : Nat) (k0 : cp_B a0) (k1 : cp_I a1) {M2 : cz_M} (h : f_Bytes_addHeader M a0 a1 = some M2) : cp_Ct l X A y_Bytes_addHeader (Cond.code y_Bytes_addHeader b_Bytes_addHeader 4 none :: cz_T) rm_Bytes_addHeader [.ref (X.2.1 a0), .ref (X.2.1 a1)] M none M2 := by
  refine cz_Met (by decide) rfl (Nat.le_of_ble_eq_true rfl) hD ?_
  intro p e s m args below meth c hargs S hr hlocks hP ls hl
  have S : cz_Cx p m c b_Bytes_addHeader 4 s args cz_T "ChainPeers$Bytes" X.1 cp_cl (cp_tys X) cz_N A (cp_wl X) := S
  have hx := S.1.1
  have hb := S.1.2.1
  have hS : va_S A s.heap s.heap [] := va_S.rf
  have hl : lv_has ls 4 [(0, .ref (X.2.1 a0)), (1, .ref (X.2.1 a1))] := hl
  have hb25 : ∀ (M : cz_M) (v2 : Int32), b_Bytes_addHeader_25 a0 a1 M v2 = some M2 → ∀ (H : Heap) (locs : List Loc) (ls : Array Slot), va_P X.1 cp_cl (cp_wl X M) H → va_S A s.heap H locs → lv_has ls 4 [(0, .ref (X.2.1 a0)), (2, .int v2)] → W p l e rm_Bytes_addHeader s m args below meth c H locs 0 0 (MQ below (cz_Qw X.1 cp_cl none (cp_wl X M2) A) args s 0 0 A) (F0 m 25 ls []) := by
    intro M v2 h H locs ls hP hS hl
    refine lv_aload_n hx hb d_Bytes_addHeader_25 rfl (lv_at hl 0 rfl) ?_
    refine lv_iload_n hx hb d_Bytes_addHeader_26 rfl (lv_at hl 1 rfl) ?_
    obtain ⟨M27, hq27, h⟩ := cz_ubv h
    refine iv_Bytes_36 (rest := []) S hl.1 hP hS (c_Bytes_endList l hD M a0 v2 k0 hq27) k0 ⟨Nat.le_of_ble_eq_true rfl, Nat.le_of_ble_eq_true rfl⟩ (Nat.le_of_ble_eq_true rfl) rfl d_Bytes_addHeader_27 (fun H locs hP hS => ?_)
    exact cz_vreth S hr hlocks hP hS h d_Bytes_addHeader_30
  have hb7 : ∀ (n : Nat) (M : cz_M) (v2 : Int32) (v3 : Int32), cz_lp3 (l_Bytes_addHeader_7 a0 a1) n M v2 v3 = some M2 → ∀ (H : Heap) (locs : List Loc) (ls : Array Slot), va_P X.1 cp_cl (cp_wl X M) H → va_S A s.heap H locs → lv_has ls 4 [(0, .ref (X.2.1 a0)), (1, .ref (X.2.1 a1)), (2, .int v2), (3, .int v3)] → W p l e rm_Bytes_addHeader s m args below meth c H locs 0 0 (MQ below (cz_Qw X.1 cp_cl none (cp_wl X M2) A) args s 0 0 A) (F0 m 7 ls []) := by
    refine cz_ind3 (fun rec7 ih7 M v2 v3 h H locs ls hP hS hl => ?_)
    refine lv_iload_n hx hb d_Bytes_addHeader_7 rfl (lv_at hl 3 rfl) ?_
    refine lv_iconst (v := 5) hx hb d_Bytes_addHeader_8 (by decide) ?_
    refine lv_icmp_ge (tgt := 25) hx hb d_Bytes_addHeader_9 rfl (fun hc => ?_) (fun hc => ?_)
    · have h := cz_t hc h
      exact hb25 M v2 h _ _ _ hP hS (lv_sub hl [0, 2] rfl)
    have h := cz_f hc h
    refine lv_aload_n hx hb d_Bytes_addHeader_12 rfl (lv_at hl 0 rfl) ?_
    refine lv_aload_n hx hb d_Bytes_addHeader_13 rfl (lv_at hl 1 rfl) ?_
    refine lv_iload_n hx hb d_Bytes_addHeader_14 rfl (lv_at hl 3 rfl) ?_
    obtain ⟨hin15, h⟩ := cz_ck h
    refine cp_ia S hP k1 hin15 d_Bytes_addHeader_15 ?_
    obtain ⟨M16, hq16, h⟩ := cz_ubv h
    refine iv_Bytes_29 (rest := []) S hl.1 hP hS (c_Bytes_addNumber l hD M a0 (M.1 a1 v3.toNatClampNeg) k0 hq16) k0 ⟨Nat.le_of_ble_eq_true rfl, Nat.le_of_ble_eq_true rfl⟩ (Nat.le_of_ble_eq_true rfl) rfl d_Bytes_addHeader_16 (fun H locs hP hS => ?_)
    refine lv_iinc (lv' := [(3, .int (v3 + 1)), (0, .ref (X.2.1 a0)), (1, .ref (X.2.1 a1)), (2, .int v2)]) (v := v3 + 1) (k := 3) hx hb d_Bytes_addHeader_19 hl rfl (cz_inc1 _) (by decide) rfl (fun ls hl => ?_)
    refine lv_goto (tgt := 7) hx hb d_Bytes_addHeader_22 rfl ?_
    exact ih7 M16 v2 (v3 + 1) h _ _ _ hP hS (lv_sub hl [1, 2, 3, 0] rfl)
  refine lv_aload_n hx hb d_Bytes_addHeader_0 rfl (lv_at hl 0 rfl) ?_
  obtain ⟨r1, M1, hq1, h⟩ := cz_ubi h
  refine iv_Bytes_25 (rest := []) S hl.1 hP hS (c_Bytes_beginList l hD M a0 k0 hq1) k0 ⟨Nat.le_of_ble_eq_true rfl, Nat.le_of_ble_eq_true rfl⟩ (Nat.le_of_ble_eq_true rfl) rfl d_Bytes_addHeader_1 (fun H locs hP hS => ?_)
  refine lv_istore_n (lv' := [(2, .int r1), (0, .ref (X.2.1 a0)), (1, .ref (X.2.1 a1))]) hx hb d_Bytes_addHeader_4 rfl hl (by decide) rfl (fun ls hl => ?_)
  refine lv_iconst (v := 0) hx hb d_Bytes_addHeader_5 (by decide) ?_
  refine lv_istore_n (lv' := [(3, .int (0 : Int32)), (2, .int r1), (0, .ref (X.2.1 a0)), (1, .ref (X.2.1 a1))]) hx hb d_Bytes_addHeader_6 rfl hl (by decide) rfl (fun ls hl => ?_)
  exact hb7 _ M1 r1 (0 : Int32) h _ _ _ hP hS (lv_sub hl [2, 3, 1, 0] rfl)
set_option maxHeartbeats 4000000 in
set_option maxRecDepth 100000 in
theorem c_Peer_wasAsked (l : Launch) {X : cz_X} {A : Nat → Prop} (hD : ∀ M, va_D A (cp_wl X M)) (M : cz_M) (a0 : Nat) (a1 : Int32) (a2 : Int32) (k0 : cp_Q a0) {r2 : Int32} {M2 : cz_M} (h : f_Peer_wasAsked M a0 a1 a2 = some (r2, M2)) : cp_Ct l X A y_Peer_wasAsked (Cond.code y_Peer_wasAsked b_Peer_wasAsked 3 (some .boolean) :: cz_T) rm_Peer_wasAsked [.ref (X.2.1 a0), .int a1, .int a2] M (some (.int r2)) M2 := by
  refine cz_Met (by decide) rfl (Nat.le_of_ble_eq_true rfl) hD ?_
  intro p e s m args below meth c hargs S hr hlocks hP ls hl
  have S : cz_Cx p m c b_Peer_wasAsked 3 s args cz_T "ChainPeers$Peer" X.1 cp_cl (cp_tys X) cz_N A (cp_wl X) := S
  have hx := S.1.1
  have hb := S.1.2.1
  have hS : va_S A s.heap s.heap [] := va_S.rf
  have hl : lv_has ls 3 [(0, .ref (X.2.1 a0)), (1, .int a1), (2, .int a2)] := hl
  refine lv_aload_n hx hb d_Peer_wasAsked_0 rfl (lv_at hl 0 rfl) ?_
  refine gf_Peer_22 S hP k0 d_Peer_wasAsked_1 ?_
  refine lv_if_eq (tgt := 27) hx hb d_Peer_wasAsked_4 rfl (fun hc => ?_) (fun hc => ?_)
  · have h := cz_t hc h
    refine lv_iconst (v := 0) hx hb d_Peer_wasAsked_27 (by decide) ?_
    exact cz_zreth S hr hlocks hP hS h rfl d_Peer_wasAsked_28
  have h := cz_f hc h
  refine lv_aload_n hx hb d_Peer_wasAsked_7 rfl (lv_at hl 0 rfl) ?_
  refine gf_Peer_22 S hP k0 d_Peer_wasAsked_8 ?_
  refine lv_iload_n hx hb d_Peer_wasAsked_11 rfl (lv_at hl 2 rfl) ?_
  refine lv_icmp_ne (tgt := 27) hx hb d_Peer_wasAsked_12 rfl (fun hc => ?_) (fun hc => ?_)
  · have h := cz_f hc h
    refine lv_iconst (v := 0) hx hb d_Peer_wasAsked_27 (by decide) ?_
    exact cz_zreth S hr hlocks hP hS h rfl d_Peer_wasAsked_28
  have h := cz_t hc h
  refine lv_aload_n hx hb d_Peer_wasAsked_15 rfl (lv_at hl 0 rfl) ?_
  refine gf_Peer_50 S hP k0 d_Peer_wasAsked_16 ?_
  refine lv_iload_n hx hb d_Peer_wasAsked_19 rfl (lv_at hl 1 rfl) ?_
  refine lv_icmp_ne (tgt := 27) hx hb d_Peer_wasAsked_20 rfl (fun hc => ?_) (fun hc => ?_)
  · have h := cz_f hc h
    refine lv_iconst (v := 0) hx hb d_Peer_wasAsked_27 (by decide) ?_
    exact cz_zreth S hr hlocks hP hS h rfl d_Peer_wasAsked_28
  have h := cz_t hc h
  refine lv_iconst (v := 1) hx hb d_Peer_wasAsked_23 (by decide) ?_
  refine lv_goto (tgt := 28) hx hb d_Peer_wasAsked_24 rfl ?_
  exact cz_zreth S hr hlocks hP hS h rfl d_Peer_wasAsked_28
set_option maxHeartbeats 4000000 in
set_option maxRecDepth 100000 in
theorem c_Peer_merit (l : Launch) {X : cz_X} {A : Nat → Prop} (hD : ∀ M, va_D A (cp_wl X M)) (M : cz_M) (a0 : Nat) (k0 : cp_Q a0) {M2 : cz_M} (h : f_Peer_merit M a0 = some M2) : cp_Ct l X A y_Peer_merit (Cond.code y_Peer_merit b_Peer_merit 1 none :: cz_T) rm_Peer_merit [.ref (X.2.1 a0)] M none M2 := by
  refine cz_Met (by decide) rfl (Nat.le_of_ble_eq_true rfl) hD ?_
  intro p e s m args below meth c hargs S hr hlocks hP ls hl
  have S : cz_Cx p m c b_Peer_merit 1 s args cz_T "ChainPeers$Peer" X.1 cp_cl (cp_tys X) cz_N A (cp_wl X) := S
  have hx := S.1.1
  have hb := S.1.2.1
  have hS : va_S A s.heap s.heap [] := va_S.rf
  have hl : lv_has ls 1 [(0, .ref (X.2.1 a0))] := hl
  refine lv_aload_n hx hb d_Peer_merit_0 rfl (lv_at hl 0 rfl) ?_
  refine lv_aload_n hx hb d_Peer_merit_1 rfl (lv_at hl 0 rfl) ?_
  refine gf_Peer_37 S hP k0 d_Peer_merit_2 ?_
  refine lv_iconst (v := 1) hx hb d_Peer_merit_5 (by decide) ?_
  refine lv_iadd hx hb d_Peer_merit_6 ?_
  refine lv_iconst (v := 3) hx hb d_Peer_merit_7 (by decide) ?_
  refine ma_Peer_44 S hl.1 (Nat.le_of_ble_eq_true rfl) (Nat.le_of_ble_eq_true rfl) d_Peer_merit_8 ?_
  refine pf_Peer_37 S hP hS k0 d_Peer_merit_11 (fun H locs hP hS => ?_)
  exact cz_vreth S hr hlocks hP hS h d_Peer_merit_14
set_option maxHeartbeats 4000000 in
set_option maxRecDepth 100000 in
theorem c_Peer_moveFirstTo (l : Launch) {X : cz_X} {A : Nat → Prop} (hD : ∀ M, va_D A (cp_wl X M)) (M : cz_M) (a0 : Nat) (a1 : Nat) (k0 : cp_Q a0) (k1 : cp_B a1) {M2 : cz_M} (h : f_Peer_moveFirstTo M a0 a1 = some M2) : cp_Ct l X A y_Peer_moveFirstTo (Cond.code y_Peer_moveFirstTo b_Peer_moveFirstTo 4 none :: cz_T) rm_Peer_moveFirstTo [.ref (X.2.1 a0), .ref (X.2.1 a1)] M none M2 := by
  refine cz_Met (by decide) rfl (Nat.le_of_ble_eq_true rfl) hD ?_
  intro p e s m args below meth c hargs S hr hlocks hP ls hl
  have S : cz_Cx p m c b_Peer_moveFirstTo 4 s args cz_T "ChainPeers$Peer" X.1 cp_cl (cp_tys X) cz_N A (cp_wl X) := S
  have hx := S.1.1
  have hb := S.1.2.1
  have hS : va_S A s.heap s.heap [] := va_S.rf
  have hl : lv_has ls 4 [(0, .ref (X.2.1 a0)), (1, .ref (X.2.1 a1))] := hl
  have hb39 : ∀ (M : cz_M) (q2 : Nat), b_Peer_moveFirstTo_39 a0 a1 M q2 = some M2 → ∀ (H : Heap) (locs : List Loc) (ls : Array Slot), va_P X.1 cp_cl (cp_wl X M) H → va_S A s.heap H locs → lv_has ls 4 [(0, .ref (X.2.1 a0)), (2, .ref (X.2.1 q2))] → cp_B q2 → W p l e rm_Peer_moveFirstTo s m args below meth c H locs 0 0 (MQ below (cz_Qw X.1 cp_cl none (cp_wl X M2) A) args s 0 0 A) (F0 m 39 ls []) := by
    intro M q2 h H locs ls hP hS hl k2
    refine lv_aload_n hx hb d_Peer_moveFirstTo_39 rfl (lv_at hl 0 rfl) ?_
    refine gf_Peer_17 S hP k0 d_Peer_moveFirstTo_40 ?_
    refine lv_iconst (v := 3) hx hb d_Peer_moveFirstTo_43 (by decide) ?_
    refine lv_aload_n hx hb d_Peer_moveFirstTo_44 rfl (lv_at hl 1 rfl) ?_
    obtain ⟨hin45, h⟩ := cz_ck h
    refine cp_asOA S hP hS k0 k2 hin45 d_Peer_moveFirstTo_45 (fun H locs hP hS => ?_)
    refine lv_aload_n hx hb d_Peer_moveFirstTo_46 rfl (lv_at hl 0 rfl) ?_
    refine lv_dup hx hb d_Peer_moveFirstTo_47 rfl ?_
    refine gf_Peer_31 S hP k0 d_Peer_moveFirstTo_48 ?_
    refine lv_iconst (v := 1) hx hb d_Peer_moveFirstTo_51 (by decide) ?_
    refine lv_isub hx hb d_Peer_moveFirstTo_52 ?_
    refine pf_Peer_31 S hP hS k0 d_Peer_moveFirstTo_53 (fun H locs hP hS => ?_)
    exact cz_vreth S hr hlocks hP hS h d_Peer_moveFirstTo_56
  have hb14 : ∀ (n : Nat) (M : cz_M) (q2 : Nat) (v3 : Int32), cz_lp3 (l_Peer_moveFirstTo_14 a0 a1) n M q2 v3 = some M2 → ∀ (H : Heap) (locs : List Loc) (ls : Array Slot), va_P X.1 cp_cl (cp_wl X M) H → va_S A s.heap H locs → lv_has ls 4 [(0, .ref (X.2.1 a0)), (2, .ref (X.2.1 q2)), (3, .int v3)] → cp_B q2 → W p l e rm_Peer_moveFirstTo s m args below meth c H locs 0 0 (MQ below (cz_Qw X.1 cp_cl none (cp_wl X M2) A) args s 0 0 A) (F0 m 14 ls []) := by
    refine cz_ind3 (fun rec14 ih14 M q2 v3 h H locs ls hP hS hl k2 => ?_)
    refine lv_iload_n hx hb d_Peer_moveFirstTo_14 rfl (lv_at hl 2 rfl) ?_
    refine lv_iconst (v := 4) hx hb d_Peer_moveFirstTo_15 (by decide) ?_
    refine lv_icmp_ge (tgt := 39) hx hb d_Peer_moveFirstTo_16 rfl (fun hc => ?_) (fun hc => ?_)
    · have h := cz_t hc h
      exact hb39 M q2 h _ _ _ hP hS (lv_sub hl [0, 1] rfl) k2
    have h := cz_f hc h
    refine lv_aload_n hx hb d_Peer_moveFirstTo_19 rfl (lv_at hl 0 rfl) ?_
    refine gf_Peer_17 S hP k0 d_Peer_moveFirstTo_20 ?_
    refine lv_iload_n hx hb d_Peer_moveFirstTo_23 rfl (lv_at hl 2 rfl) ?_
    refine lv_iconst (v := 1) hx hb d_Peer_moveFirstTo_24 (by decide) ?_
    refine lv_isub hx hb d_Peer_moveFirstTo_25 ?_
    refine lv_aload_n hx hb d_Peer_moveFirstTo_26 rfl (lv_at hl 0 rfl) ?_
    refine gf_Peer_17 S hP k0 d_Peer_moveFirstTo_27 ?_
    refine lv_iload_n hx hb d_Peer_moveFirstTo_30 rfl (lv_at hl 2 rfl) ?_
    obtain ⟨hin31, h⟩ := cz_ck h
    obtain ⟨hk31, h⟩ := cz_ckp h
    refine cp_aaOA S hP k0 hin31 d_Peer_moveFirstTo_31 ?_
    obtain ⟨hin32, h⟩ := cz_ck h
    refine cp_asOA S hP hS k0 hk31 hin32 d_Peer_moveFirstTo_32 (fun H locs hP hS => ?_)
    refine lv_iinc (lv' := [(3, .int (v3 + 1)), (0, .ref (X.2.1 a0)), (2, .ref (X.2.1 q2))]) (v := v3 + 1) (k := 2) hx hb d_Peer_moveFirstTo_33 hl rfl (cz_inc1 _) (by decide) rfl (fun ls hl => ?_)
    refine lv_goto (tgt := 14) hx hb d_Peer_moveFirstTo_36 rfl ?_
    exact ih14 (cz_r M (a0 + 1) (v3 - (1 : Int32)).toNatClampNeg (M.2 (a0 + 1) v3.toNatClampNeg)) q2 (v3 + 1) h _ _ _ hP hS (lv_sub hl [1, 2, 0] rfl) k2
  refine lv_aload_n hx hb d_Peer_moveFirstTo_0 rfl (lv_at hl 0 rfl) ?_
  refine gf_Peer_17 S hP k0 d_Peer_moveFirstTo_1 ?_
  refine lv_iconst (v := 0) hx hb d_Peer_moveFirstTo_4 (by decide) ?_
  obtain ⟨hin5, h⟩ := cz_ck h
  obtain ⟨hk5, h⟩ := cz_ckp h
  refine cp_aaOA S hP k0 hin5 d_Peer_moveFirstTo_5 ?_
  refine lv_astore_n (lv' := [(2, .ref (X.2.1 (M.2 (a0 + 1) (0 : Int32).toNatClampNeg))), (0, .ref (X.2.1 a0)), (1, .ref (X.2.1 a1))]) hx hb d_Peer_moveFirstTo_6 rfl hl (by decide) rfl (fun ls hl => ?_)
  refine lv_aload_n hx hb d_Peer_moveFirstTo_7 rfl (lv_at hl 2 rfl) ?_
  refine lv_aload_n hx hb d_Peer_moveFirstTo_8 rfl (lv_at hl 0 rfl) ?_
  obtain ⟨M9, hq9, h⟩ := cz_ubv h
  refine iv_Peer_59 (rest := []) S hl.1 hP hS (c_Bytes_copyFrom l hD M a1 (M.2 (a0 + 1) (0 : Int32).toNatClampNeg) k1 hk5 hq9) k1 ⟨Nat.le_of_ble_eq_true rfl, Nat.le_of_ble_eq_true rfl⟩ (Nat.le_of_ble_eq_true rfl) rfl d_Peer_moveFirstTo_9 (fun H locs hP hS => ?_)
  refine lv_iconst (v := 1) hx hb d_Peer_moveFirstTo_12 (by decide) ?_
  refine lv_istore_n (lv' := [(3, .int (1 : Int32)), (2, .ref (X.2.1 (M.2 (a0 + 1) (0 : Int32).toNatClampNeg))), (0, .ref (X.2.1 a0)), (1, .ref (X.2.1 a1))]) hx hb d_Peer_moveFirstTo_13 rfl hl (by decide) rfl (fun ls hl => ?_)
  exact hb14 _ M9 (M.2 (a0 + 1) (0 : Int32).toNatClampNeg) (1 : Int32) h _ _ _ hP hS (lv_sub hl [2, 1, 0] rfl) hk5
set_option maxHeartbeats 4000000 in
set_option maxRecDepth 100000 in
theorem c_Peer_isIdle (l : Launch) {X : cz_X} {A : Nat → Prop} (hD : ∀ M, va_D A (cp_wl X M)) (M : cz_M) (a0 : Nat) (k0 : cp_Q a0) {r2 : Int32} {M2 : cz_M} (h : f_Peer_isIdle M a0 = some (r2, M2)) : cp_Ct l X A y_Peer_isIdle (Cond.code y_Peer_isIdle b_Peer_isIdle 1 (some .boolean) :: cz_T) rm_Peer_isIdle [.ref (X.2.1 a0)] M (some (.int r2)) M2 := by
  refine cz_Met (by decide) rfl (Nat.le_of_ble_eq_true rfl) hD ?_
  intro p e s m args below meth c hargs S hr hlocks hP ls hl
  have S : cz_Cx p m c b_Peer_isIdle 1 s args cz_T "ChainPeers$Peer" X.1 cp_cl (cp_tys X) cz_N A (cp_wl X) := S
  have hx := S.1.1
  have hb := S.1.2.1
  have hS : va_S A s.heap s.heap [] := va_S.rf
  have hl : lv_has ls 1 [(0, .ref (X.2.1 a0))] := hl
  refine lv_aload_n hx hb d_Peer_isIdle_0 rfl (lv_at hl 0 rfl) ?_
  refine gf_Peer_9 S hP k0 d_Peer_isIdle_1 ?_
  refine lv_iconst (v := 2) hx hb d_Peer_isIdle_4 (by decide) ?_
  refine lv_icmp_ne (tgt := 19) hx hb d_Peer_isIdle_5 rfl (fun hc => ?_) (fun hc => ?_)
  · have h := cz_f hc h
    refine lv_iconst (v := 0) hx hb d_Peer_isIdle_19 (by decide) ?_
    exact cz_zreth S hr hlocks hP hS h rfl d_Peer_isIdle_20
  have h := cz_t hc h
  refine lv_aload_n hx hb d_Peer_isIdle_8 rfl (lv_at hl 0 rfl) ?_
  refine gf_Peer_22 S hP k0 d_Peer_isIdle_9 ?_
  refine lv_if_ne (tgt := 19) hx hb d_Peer_isIdle_12 rfl (fun hc => ?_) (fun hc => ?_)
  · have h := cz_f hc h
    refine lv_iconst (v := 0) hx hb d_Peer_isIdle_19 (by decide) ?_
    exact cz_zreth S hr hlocks hP hS h rfl d_Peer_isIdle_20
  have h := cz_t hc h
  refine lv_iconst (v := 1) hx hb d_Peer_isIdle_15 (by decide) ?_
  refine lv_goto (tgt := 20) hx hb d_Peer_isIdle_16 rfl ?_
  exact cz_zreth S hr hlocks hP hS h rfl d_Peer_isIdle_20
set_option maxHeartbeats 4000000 in
set_option maxRecDepth 100000 in
theorem c_Peer_isAskedForBody (l : Launch) {X : cz_X} {A : Nat → Prop} (hD : ∀ M, va_D A (cp_wl X M)) (M : cz_M) (a0 : Nat) (a1 : Int32) (k0 : cp_Q a0) {r2 : Int32} {M2 : cz_M} (h : f_Peer_isAskedForBody M a0 a1 = some (r2, M2)) : cp_Ct l X A y_Peer_isAskedForBody (Cond.code y_Peer_isAskedForBody b_Peer_isAskedForBody 2 (some .boolean) :: cz_T) rm_Peer_isAskedForBody [.ref (X.2.1 a0), .int a1] M (some (.int r2)) M2 := by
  refine cz_Met (by decide) rfl (Nat.le_of_ble_eq_true rfl) hD ?_
  intro p e s m args below meth c hargs S hr hlocks hP ls hl
  have S : cz_Cx p m c b_Peer_isAskedForBody 2 s args cz_T "ChainPeers$Peer" X.1 cp_cl (cp_tys X) cz_N A (cp_wl X) := S
  have hx := S.1.1
  have hb := S.1.2.1
  have hS : va_S A s.heap s.heap [] := va_S.rf
  have hl : lv_has ls 2 [(0, .ref (X.2.1 a0)), (1, .int a1)] := hl
  refine lv_aload_n hx hb d_Peer_isAskedForBody_0 rfl (lv_at hl 0 rfl) ?_
  refine gf_Peer_22 S hP k0 d_Peer_isAskedForBody_1 ?_
  refine lv_if_eq (tgt := 27) hx hb d_Peer_isAskedForBody_4 rfl (fun hc => ?_) (fun hc => ?_)
  · have h := cz_t hc h
    refine lv_iconst (v := 0) hx hb d_Peer_isAskedForBody_27 (by decide) ?_
    exact cz_zreth S hr hlocks hP hS h rfl d_Peer_isAskedForBody_28
  have h := cz_f hc h
  refine lv_aload_n hx hb d_Peer_isAskedForBody_7 rfl (lv_at hl 0 rfl) ?_
  refine gf_Peer_50 S hP k0 d_Peer_isAskedForBody_8 ?_
  refine lv_iconst (v := 3) hx hb d_Peer_isAskedForBody_11 (by decide) ?_
  refine lv_icmp_ne (tgt := 27) hx hb d_Peer_isAskedForBody_12 rfl (fun hc => ?_) (fun hc => ?_)
  · have h := cz_f hc h
    refine lv_iconst (v := 0) hx hb d_Peer_isAskedForBody_27 (by decide) ?_
    exact cz_zreth S hr hlocks hP hS h rfl d_Peer_isAskedForBody_28
  have h := cz_t hc h
  refine lv_aload_n hx hb d_Peer_isAskedForBody_15 rfl (lv_at hl 0 rfl) ?_
  refine gf_Peer_53 S hP k0 d_Peer_isAskedForBody_16 ?_
  refine lv_iload_n hx hb d_Peer_isAskedForBody_19 rfl (lv_at hl 1 rfl) ?_
  refine lv_icmp_ne (tgt := 27) hx hb d_Peer_isAskedForBody_20 rfl (fun hc => ?_) (fun hc => ?_)
  · have h := cz_f hc h
    refine lv_iconst (v := 0) hx hb d_Peer_isAskedForBody_27 (by decide) ?_
    exact cz_zreth S hr hlocks hP hS h rfl d_Peer_isAskedForBody_28
  have h := cz_t hc h
  refine lv_iconst (v := 1) hx hb d_Peer_isAskedForBody_23 (by decide) ?_
  refine lv_goto (tgt := 28) hx hb d_Peer_isAskedForBody_24 rfl ?_
  exact cz_zreth S hr hlocks hP hS h rfl d_Peer_isAskedForBody_28
set_option maxHeartbeats 4000000 in
set_option maxRecDepth 100000 in
theorem c_Peer_setRequest (l : Launch) {X : cz_X} {A : Nat → Prop} (hD : ∀ M, va_D A (cp_wl X M)) (M : cz_M) (a0 : Nat) (a1 : Int32) (a2 : Int32) (a3 : Int32) (a4 : Int32) (k0 : cp_Q a0) {M2 : cz_M} (h : f_Peer_setRequest M a0 a1 a2 a3 a4 = some M2) : cp_Ct l X A y_Peer_setRequest (Cond.code y_Peer_setRequest b_Peer_setRequest 5 none :: cz_T) rm_Peer_setRequest [.ref (X.2.1 a0), .int a1, .int a2, .int a3, .int a4] M none M2 := by
  refine cz_Met (by decide) rfl (Nat.le_of_ble_eq_true rfl) hD ?_
  intro p e s m args below meth c hargs S hr hlocks hP ls hl
  have S : cz_Cx p m c b_Peer_setRequest 5 s args cz_T "ChainPeers$Peer" X.1 cp_cl (cp_tys X) cz_N A (cp_wl X) := S
  have hx := S.1.1
  have hb := S.1.2.1
  have hS : va_S A s.heap s.heap [] := va_S.rf
  have hl : lv_has ls 5 [(0, .ref (X.2.1 a0)), (1, .int a1), (2, .int a2), (3, .int a3), (4, .int a4)] := hl
  refine lv_aload_n hx hb d_Peer_setRequest_0 rfl (lv_at hl 0 rfl) ?_
  refine lv_iload_n hx hb d_Peer_setRequest_1 rfl (lv_at hl 1 rfl) ?_
  refine pf_Peer_50 S hP hS k0 d_Peer_setRequest_2 (fun H locs hP hS => ?_)
  refine lv_aload_n hx hb d_Peer_setRequest_5 rfl (lv_at hl 0 rfl) ?_
  refine lv_iload_n hx hb d_Peer_setRequest_6 rfl (lv_at hl 2 rfl) ?_
  refine pf_Peer_22 S hP hS k0 d_Peer_setRequest_7 (fun H locs hP hS => ?_)
  refine lv_aload_n hx hb d_Peer_setRequest_10 rfl (lv_at hl 0 rfl) ?_
  refine lv_iload_n hx hb d_Peer_setRequest_11 rfl (lv_at hl 3 rfl) ?_
  refine pf_Peer_53 S hP hS k0 d_Peer_setRequest_12 (fun H locs hP hS => ?_)
  refine lv_aload_n hx hb d_Peer_setRequest_15 rfl (lv_at hl 0 rfl) ?_
  refine lv_iload hx hb d_Peer_setRequest_16 (lv_at hl 4 rfl) ?_
  refine pf_Peer_56 S hP hS k0 d_Peer_setRequest_18 (fun H locs hP hS => ?_)
  exact cz_vreth S hr hlocks hP hS h d_Peer_setRequest_21
set_option maxHeartbeats 4000000 in
set_option maxRecDepth 100000 in
theorem c_Peer_isLate (l : Launch) {X : cz_X} {A : Nat → Prop} (hD : ∀ M, va_D A (cp_wl X M)) (M : cz_M) (a0 : Nat) (a1 : Int32) (k0 : cp_Q a0) {r2 : Int32} {M2 : cz_M} (h : f_Peer_isLate M a0 a1 = some (r2, M2)) : cp_Ct l X A y_Peer_isLate (Cond.code y_Peer_isLate b_Peer_isLate 2 (some .boolean) :: cz_T) rm_Peer_isLate [.ref (X.2.1 a0), .int a1] M (some (.int r2)) M2 := by
  refine cz_Met (by decide) rfl (Nat.le_of_ble_eq_true rfl) hD ?_
  intro p e s m args below meth c hargs S hr hlocks hP ls hl
  have S : cz_Cx p m c b_Peer_isLate 2 s args cz_T "ChainPeers$Peer" X.1 cp_cl (cp_tys X) cz_N A (cp_wl X) := S
  have hx := S.1.1
  have hb := S.1.2.1
  have hS : va_S A s.heap s.heap [] := va_S.rf
  have hl : lv_has ls 2 [(0, .ref (X.2.1 a0)), (1, .int a1)] := hl
  refine lv_aload_n hx hb d_Peer_isLate_0 rfl (lv_at hl 0 rfl) ?_
  refine gf_Peer_22 S hP k0 d_Peer_isLate_1 ?_
  refine lv_if_eq (tgt := 19) hx hb d_Peer_isLate_4 rfl (fun hc => ?_) (fun hc => ?_)
  · have h := cz_t hc h
    refine lv_iconst (v := 0) hx hb d_Peer_isLate_19 (by decide) ?_
    exact cz_zreth S hr hlocks hP hS h rfl d_Peer_isLate_20
  have h := cz_f hc h
  refine lv_aload_n hx hb d_Peer_isLate_7 rfl (lv_at hl 0 rfl) ?_
  refine gf_Peer_56 S hP k0 d_Peer_isLate_8 ?_
  refine lv_iload_n hx hb d_Peer_isLate_11 rfl (lv_at hl 1 rfl) ?_
  refine lv_icmp_ge (tgt := 19) hx hb d_Peer_isLate_12 rfl (fun hc => ?_) (fun hc => ?_)
  · have h := cz_t hc h
    refine lv_iconst (v := 0) hx hb d_Peer_isLate_19 (by decide) ?_
    exact cz_zreth S hr hlocks hP hS h rfl d_Peer_isLate_20
  have h := cz_f hc h
  refine lv_iconst (v := 1) hx hb d_Peer_isLate_15 (by decide) ?_
  refine lv_goto (tgt := 20) hx hb d_Peer_isLate_16 rfl ?_
  exact cz_zreth S hr hlocks hP hS h rfl d_Peer_isLate_20
set_option maxHeartbeats 4000000 in
set_option maxRecDepth 100000 in
theorem c_Peer_look (l : Launch) {X : cz_X} {A : Nat → Prop} (hD : ∀ M, va_D A (cp_wl X M)) (M : cz_M) (a0 : Nat) (a1 : Int32) (k0 : cp_Q a0) {r2 : Int32} {M2 : cz_M} (h : f_Peer_look M a0 a1 = some (r2, M2)) : cp_Ct l X A y_Peer_look (Cond.code y_Peer_look b_Peer_look 2 (some .int) :: cz_T) rm_Peer_look [.ref (X.2.1 a0), .int a1] M (some (.int r2)) M2 := by
  refine cz_Met (by decide) rfl (Nat.le_of_ble_eq_true rfl) hD ?_
  intro p e s m args below meth c hargs S hr hlocks hP ls hl
  have S : cz_Cx p m c b_Peer_look 2 s args cz_T "ChainPeers$Peer" X.1 cp_cl (cp_tys X) cz_N A (cp_wl X) := S
  have hx := S.1.1
  have hb := S.1.2.1
  have hS : va_S A s.heap s.heap [] := va_S.rf
  have hl : lv_has ls 2 [(0, .ref (X.2.1 a0)), (1, .int a1)] := hl
  refine lv_iload_n hx hb d_Peer_look_0 rfl (lv_at hl 1 rfl) ?_
  refine (Decidable.em (a1 = (0 : Int32))).elim (fun hc => ?_) (fun hc0 => ?_)
  · have h := cz_t hc h
    refine lv_tableIn (tgt := 40) hx hb d_Peer_look_1 (by rw [hc]; decide) (by rw [hc]; decide) (by rw [hc]; rfl) rfl ?_
    refine lv_aload_n hx hb d_Peer_look_40 rfl (lv_at hl 0 rfl) ?_
    refine gf_Peer_9 S hP k0 d_Peer_look_41 ?_
    exact cz_ireth S hr hlocks hP hS h d_Peer_look_44
  have h := cz_f hc0 h
  refine (Decidable.em (a1 = (1 : Int32))).elim (fun hc => ?_) (fun hc1 => ?_)
  · have h := cz_t hc h
    refine lv_tableIn (tgt := 45) hx hb d_Peer_look_1 (by rw [hc]; decide) (by rw [hc]; decide) (by rw [hc]; rfl) rfl ?_
    refine lv_aload_n hx hb d_Peer_look_45 rfl (lv_at hl 0 rfl) ?_
    refine gf_Peer_37 S hP k0 d_Peer_look_46 ?_
    exact cz_ireth S hr hlocks hP hS h d_Peer_look_49
  have h := cz_f hc1 h
  refine (Decidable.em (a1 = (2 : Int32))).elim (fun hc => ?_) (fun hc2 => ?_)
  · have h := cz_t hc h
    refine lv_tableIn (tgt := 50) hx hb d_Peer_look_1 (by rw [hc]; decide) (by rw [hc]; decide) (by rw [hc]; rfl) rfl ?_
    refine lv_aload_n hx hb d_Peer_look_50 rfl (lv_at hl 0 rfl) ?_
    refine gf_Peer_25 S hP k0 d_Peer_look_51 ?_
    exact cz_ireth S hr hlocks hP hS h d_Peer_look_54
  have h := cz_f hc2 h
  refine (Decidable.em (a1 = (3 : Int32))).elim (fun hc => ?_) (fun hc3 => ?_)
  · have h := cz_t hc h
    refine lv_tableIn (tgt := 55) hx hb d_Peer_look_1 (by rw [hc]; decide) (by rw [hc]; decide) (by rw [hc]; rfl) rfl ?_
    refine lv_aload_n hx hb d_Peer_look_55 rfl (lv_at hl 0 rfl) ?_
    refine gf_Peer_28 S hP k0 d_Peer_look_56 ?_
    exact cz_ireth S hr hlocks hP hS h d_Peer_look_59
  have h := cz_f hc3 h
  refine (Decidable.em (a1 = (4 : Int32))).elim (fun hc => ?_) (fun hc4 => ?_)
  · have h := cz_t hc h
    refine lv_tableIn (tgt := 60) hx hb d_Peer_look_1 (by rw [hc]; decide) (by rw [hc]; decide) (by rw [hc]; rfl) rfl ?_
    refine lv_aload_n hx hb d_Peer_look_60 rfl (lv_at hl 0 rfl) ?_
    refine gf_Peer_22 S hP k0 d_Peer_look_61 ?_
    exact cz_ireth S hr hlocks hP hS h d_Peer_look_64
  have h := cz_f hc4 h
  refine (Decidable.em (a1 = (5 : Int32))).elim (fun hc => ?_) (fun hc5 => ?_)
  · have h := cz_t hc h
    refine lv_tableIn (tgt := 65) hx hb d_Peer_look_1 (by rw [hc]; decide) (by rw [hc]; decide) (by rw [hc]; rfl) rfl ?_
    refine lv_aload_n hx hb d_Peer_look_65 rfl (lv_at hl 0 rfl) ?_
    refine gf_Peer_31 S hP k0 d_Peer_look_66 ?_
    exact cz_ireth S hr hlocks hP hS h d_Peer_look_69
  have h := cz_f hc5 h
  refine lv_tableOut (tgt := 70) hx hb d_Peer_look_1 (by have e0 := lv_neT (a := 0) hc0 rfl; have e1 := lv_neT (a := 1) hc1 rfl; have e2 := lv_neT (a := 2) hc2 rfl; have e3 := lv_neT (a := 3) hc3 rfl; have e4 := lv_neT (a := 4) hc4 rfl; have e5 := lv_neT (a := 5) hc5 rfl; omega) rfl ?_
  refine lv_iconst (v := 0) hx hb d_Peer_look_70 (by decide) ?_
  exact cz_ireth S hr hlocks hP hS h d_Peer_look_71
