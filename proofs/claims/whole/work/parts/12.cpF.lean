set_option maxHeartbeats 4000000 in
set_option maxRecDepth 100000 in
theorem c_CP_isPeer (l : Launch) {X : cz_X} {A : Nat → Prop} (hD : ∀ M, va_D A (cp_wl X M)) (M : cz_M) (a0 : Int32) {r2 : Int32} {M2 : cz_M} (h : f_CP_isPeer M a0 = some (r2, M2)) : cp_Ct l X A y_CP_isPeer (Cond.code y_CP_isPeer b_CP_isPeer 1 (some .boolean) :: cz_T) rm_CP_isPeer [.int a0] M (some (.int r2)) M2 := by
  refine cz_Met (by decide) rfl (Nat.le_of_ble_eq_true rfl) hD ?_
  intro p e s m args below meth c hargs S hr hlocks hP ls hl
  have S : cz_Cx p m c b_CP_isPeer 1 s args cz_T "ChainPeers" X.1 cp_cl (cp_tys X) cz_N A (cp_wl X) := S
  have hx := S.1.1
  have hb := S.1.2.1
  have hS : va_S A s.heap s.heap [] := va_S.rf
  have hl : lv_has ls 1 [(0, .int a0)] := hl
  refine lv_iload_n hx hb d_CP_isPeer_0 rfl (lv_at hl 0 rfl) ?_
  refine lv_if_lt (tgt := 13) hx hb d_CP_isPeer_1 rfl (fun hc => ?_) (fun hc => ?_)
  · have h := cz_t hc h
    refine lv_iconst (v := 0) hx hb d_CP_isPeer_13 (by decide) ?_
    exact cz_zreth S hr hlocks hP hS h rfl d_CP_isPeer_14
  have h := cz_f hc h
  refine lv_iload_n hx hb d_CP_isPeer_4 rfl (lv_at hl 0 rfl) ?_
  refine lv_iconst (v := 4) hx hb d_CP_isPeer_5 (by decide) ?_
  refine lv_icmp_ge (tgt := 13) hx hb d_CP_isPeer_6 rfl (fun hc => ?_) (fun hc => ?_)
  · have h := cz_t hc h
    refine lv_iconst (v := 0) hx hb d_CP_isPeer_13 (by decide) ?_
    exact cz_zreth S hr hlocks hP hS h rfl d_CP_isPeer_14
  have h := cz_f hc h
  refine lv_iconst (v := 1) hx hb d_CP_isPeer_9 (by decide) ?_
  refine lv_goto (tgt := 14) hx hb d_CP_isPeer_10 rfl ?_
  exact cz_zreth S hr hlocks hP hS h rfl d_CP_isPeer_14
set_option maxHeartbeats 4000000 in
set_option maxRecDepth 100000 in
theorem c_CP_sendDraft (l : Launch) {X : cz_X} {A : Nat → Prop} (hD : ∀ M, va_D A (cp_wl X M)) (M : cz_M) (a1 : Nat) (k1 : cp_Q a1) {M2 : cz_M} (h : f_CP_sendDraft M a1 = some M2) : cp_Ct l X A y_CP_sendDraft (Cond.code y_CP_sendDraft b_CP_sendDraft 2 none :: cz_T) rm_CP_sendDraft [.ref (X.2.1 0), .ref (X.2.1 a1)] M none M2 := by
  refine cz_Met (by decide) rfl (Nat.le_of_ble_eq_true rfl) hD ?_
  intro p e s m args below meth c hargs S hr hlocks hP ls hl
  have S : cz_Cx p m c b_CP_sendDraft 2 s args cz_T "ChainPeers" X.1 cp_cl (cp_tys X) cz_N A (cp_wl X) := S
  have hx := S.1.1
  have hb := S.1.2.1
  have hS : va_S A s.heap s.heap [] := va_S.rf
  have hl : lv_has ls 2 [(0, .ref (X.2.1 0)), (1, .ref (X.2.1 a1))] := hl
  refine lv_aload_n hx hb d_CP_sendDraft_0 rfl (lv_at hl 0 rfl) ?_
  refine gf_CP_16 S hP d_CP_sendDraft_1 ?_
  refine lv_iconst (v := 0) hx hb d_CP_sendDraft_4 (by decide) ?_
  obtain ⟨M5, hq5, h⟩ := cz_ubv h
  refine iv_CP_269 (rest := []) S hl.1 hP hS (c_Bytes_endList l hD M 12 (0 : Int32) cp_k12 hq5) cp_k12 ⟨Nat.le_of_ble_eq_true rfl, Nat.le_of_ble_eq_true rfl⟩ (Nat.le_of_ble_eq_true rfl) rfl d_CP_sendDraft_5 (fun H locs hP hS => ?_)
  refine lv_aload_n hx hb d_CP_sendDraft_8 rfl (lv_at hl 1 rfl) ?_
  refine lv_aload_n hx hb d_CP_sendDraft_9 rfl (lv_at hl 0 rfl) ?_
  refine gf_CP_16 S hP d_CP_sendDraft_10 ?_
  obtain ⟨M13, hq13, h⟩ := cz_ubv h
  refine iv_CP_284 (rest := []) S hl.1 hP hS (c_Peer_addToOutbox l hD M5 a1 12 k1 cp_k12 hq13) k1 ⟨Nat.le_of_ble_eq_true rfl, Nat.le_of_ble_eq_true rfl⟩ (Nat.le_of_ble_eq_true rfl) rfl d_CP_sendDraft_13 (fun H locs hP hS => ?_)
  exact cz_vreth S hr hlocks hP hS h d_CP_sendDraft_16
set_option maxHeartbeats 4000000 in
set_option maxRecDepth 100000 in
theorem c_CP_sendHello (l : Launch) {X : cz_X} {A : Nat → Prop} (hD : ∀ M, va_D A (cp_wl X M)) (M : cz_M) (a1 : Nat) (k1 : cp_Q a1) {M2 : cz_M} (h : f_CP_sendHello M a1 = some M2) : cp_Ct l X A y_CP_sendHello (Cond.code y_CP_sendHello b_CP_sendHello 2 none :: cz_T) rm_CP_sendHello [.ref (X.2.1 0), .ref (X.2.1 a1)] M none M2 := by
  refine cz_Met (by decide) rfl (Nat.le_of_ble_eq_true rfl) hD ?_
  intro p e s m args below meth c hargs S hr hlocks hP ls hl
  have S : cz_Cx p m c b_CP_sendHello 2 s args cz_T "ChainPeers" X.1 cp_cl (cp_tys X) cz_N A (cp_wl X) := S
  have hx := S.1.1
  have hb := S.1.2.1
  have hS : va_S A s.heap s.heap [] := va_S.rf
  have hl : lv_has ls 2 [(0, .ref (X.2.1 0)), (1, .ref (X.2.1 a1))] := hl
  refine lv_aload_n hx hb d_CP_sendHello_0 rfl (lv_at hl 0 rfl) ?_
  refine gf_CP_16 S hP d_CP_sendHello_1 ?_
  refine lv_iconst (v := 0) hx hb d_CP_sendHello_4 (by decide) ?_
  obtain ⟨M5, hq5, h⟩ := cz_ubv h
  refine iv_CP_247 (rest := []) S hl.1 hP hS (c_Bytes_begin l hD M 12 (0 : Int32) cp_k12 hq5) cp_k12 ⟨Nat.le_of_ble_eq_true rfl, Nat.le_of_ble_eq_true rfl⟩ (Nat.le_of_ble_eq_true rfl) rfl d_CP_sendHello_5 (fun H locs hP hS => ?_)
  refine lv_aload_n hx hb d_CP_sendHello_8 rfl (lv_at hl 0 rfl) ?_
  refine gf_CP_16 S hP d_CP_sendHello_9 ?_
  refine lv_aload_n hx hb d_CP_sendHello_12 rfl (lv_at hl 0 rfl) ?_
  refine gf_CP_52 S hP d_CP_sendHello_13 ?_
  obtain ⟨M16, hq16, h⟩ := cz_ubv h
  refine iv_CP_250 (rest := []) S hl.1 hP hS (c_Bytes_addNumber l hD M5 12 (M5.1 0 0) cp_k12 hq16) cp_k12 ⟨Nat.le_of_ble_eq_true rfl, Nat.le_of_ble_eq_true rfl⟩ (Nat.le_of_ble_eq_true rfl) rfl d_CP_sendHello_16 (fun H locs hP hS => ?_)
  refine lv_aload_n hx hb d_CP_sendHello_19 rfl (lv_at hl 0 rfl) ?_
  refine gf_CP_16 S hP d_CP_sendHello_20 ?_
  refine lv_aload_n hx hb d_CP_sendHello_23 rfl (lv_at hl 0 rfl) ?_
  refine gf_CP_29 S hP d_CP_sendHello_24 ?_
  refine lv_aload_n hx hb d_CP_sendHello_27 rfl (lv_at hl 0 rfl) ?_
  refine gf_CP_29 S hP d_CP_sendHello_28 ?_
  obtain ⟨r31, M31, hq31, h⟩ := cz_ubi h
  refine iv_CP_133 (rest := [.ref (X.2.1 19), .ref (X.2.1 12)]) S hl.1 hP hS (c_Blocks_head l hD M16 hq31) ⟨Nat.le_of_ble_eq_true rfl, Nat.le_of_ble_eq_true rfl⟩ (Nat.le_of_ble_eq_true rfl) rfl d_CP_sendHello_31 (fun H locs hP hS => ?_)
  obtain ⟨r34, M34, hq34, h⟩ := cz_ubi h
  refine iv_CP_139 (rest := [.ref (X.2.1 12)]) S hl.1 hP hS (c_Blocks_numberOf l hD M31 r31 hq34) ⟨Nat.le_of_ble_eq_true rfl, Nat.le_of_ble_eq_true rfl⟩ (Nat.le_of_ble_eq_true rfl) rfl d_CP_sendHello_34 (fun H locs hP hS => ?_)
  obtain ⟨M37, hq37, h⟩ := cz_ubv h
  refine iv_CP_250 (rest := []) S hl.1 hP hS (c_Bytes_addNumber l hD M34 12 r34 cp_k12 hq37) cp_k12 ⟨Nat.le_of_ble_eq_true rfl, Nat.le_of_ble_eq_true rfl⟩ (Nat.le_of_ble_eq_true rfl) rfl d_CP_sendHello_37 (fun H locs hP hS => ?_)
  refine lv_aload_n hx hb d_CP_sendHello_40 rfl (lv_at hl 0 rfl) ?_
  refine lv_aload_n hx hb d_CP_sendHello_41 rfl (lv_at hl 1 rfl) ?_
  obtain ⟨M42, hq42, h⟩ := cz_ubv h
  refine iv_CP_253 (rest := []) S hl.1 hP hS (c_CP_sendDraft l hD M37 a1 k1 hq42) ⟨Nat.le_of_ble_eq_true rfl, Nat.le_of_ble_eq_true rfl⟩ (Nat.le_of_ble_eq_true rfl) rfl d_CP_sendHello_42 (fun H locs hP hS => ?_)
  exact cz_vreth S hr hlocks hP hS h d_CP_sendHello_45
set_option maxHeartbeats 4000000 in
set_option maxRecDepth 100000 in
theorem c_CP_open (l : Launch) {X : cz_X} {A : Nat → Prop} (hD : ∀ M, va_D A (cp_wl X M)) (M : cz_M) (a1 : Int32) {r2 : Int32} {M2 : cz_M} (h : f_CP_open M a1 = some (r2, M2)) : cp_Ct l X A y_CP_open (Cond.code y_CP_open b_CP_open 2 (some .boolean) :: cz_T) rm_CP_open [.ref (X.2.1 0), .int a1] M (some (.int r2)) M2 := by
  refine cz_Met (by decide) rfl (Nat.le_of_ble_eq_true rfl) hD ?_
  intro p e s m args below meth c hargs S hr hlocks hP ls hl
  have S : cz_Cx p m c b_CP_open 2 s args cz_T "ChainPeers" X.1 cp_cl (cp_tys X) cz_N A (cp_wl X) := S
  have hx := S.1.1
  have hb := S.1.2.1
  have hS : va_S A s.heap s.heap [] := va_S.rf
  have hl : lv_has ls 2 [(0, .ref (X.2.1 0)), (1, .int a1)] := hl
  refine lv_iload_n hx hb d_CP_open_0 rfl (lv_at hl 1 rfl) ?_
  obtain ⟨r1, M1, hq1, h⟩ := cz_ubi h
  refine iv_CP_63 (rest := []) S hl.1 hP hS (c_CP_isPeer l hD M a1 hq1) ⟨Nat.le_of_ble_eq_true rfl, Nat.le_of_ble_eq_true rfl⟩ (Nat.le_of_ble_eq_true rfl) rfl d_CP_open_1 (fun H locs hP hS => ?_)
  refine lv_if_eq (tgt := 19) hx hb d_CP_open_4 rfl (fun hc => ?_) (fun hc => ?_)
  · have h := cz_t hc h
    refine lv_iconst (v := 0) hx hb d_CP_open_19 (by decide) ?_
    exact cz_zreth S hr hlocks hP hS h rfl d_CP_open_20
  have h := cz_f hc h
  refine lv_aload_n hx hb d_CP_open_7 rfl (lv_at hl 0 rfl) ?_
  refine gf_CP_35 S hP d_CP_open_8 ?_
  refine lv_iload_n hx hb d_CP_open_11 rfl (lv_at hl 1 rfl) ?_
  obtain ⟨hin12, h⟩ := cz_ck h
  refine cp_aaPA S hP hin12 d_CP_open_12 ?_
  refine gf_CP_67 S hP (cp_peer hin12) d_CP_open_13 ?_
  refine lv_if_eq (tgt := 21) hx hb d_CP_open_16 rfl (fun hc => ?_) (fun hc => ?_)
  · have h := cz_t hc h
    refine lv_aload_n hx hb d_CP_open_21 rfl (lv_at hl 0 rfl) ?_
    refine gf_CP_35 S hP d_CP_open_22 ?_
    refine lv_iload_n hx hb d_CP_open_25 rfl (lv_at hl 1 rfl) ?_
    obtain ⟨hin26, h⟩ := cz_ck h
    refine cp_aaPA S hP hin26 d_CP_open_26 ?_
    obtain ⟨M27, hq27, h⟩ := cz_ubv h
    refine iv_CP_70 (rest := []) S hl.1 hP hS (c_Peer_startGreeting l hD M1 (2 + 2 * a1.toNatClampNeg) (cp_peer hin26) hq27) (cp_peer hin26) ⟨Nat.le_of_ble_eq_true rfl, Nat.le_of_ble_eq_true rfl⟩ (Nat.le_of_ble_eq_true rfl) rfl d_CP_open_27 (fun H locs hP hS => ?_)
    refine lv_aload_n hx hb d_CP_open_30 rfl (lv_at hl 0 rfl) ?_
    refine lv_aload_n hx hb d_CP_open_31 rfl (lv_at hl 0 rfl) ?_
    refine gf_CP_35 S hP d_CP_open_32 ?_
    refine lv_iload_n hx hb d_CP_open_35 rfl (lv_at hl 1 rfl) ?_
    obtain ⟨hin36, h⟩ := cz_ck h
    refine cp_aaPA S hP hin36 d_CP_open_36 ?_
    obtain ⟨M37, hq37, h⟩ := cz_ubv h
    refine iv_CP_73 (rest := []) S hl.1 hP hS (c_CP_sendHello l hD M27 (2 + 2 * a1.toNatClampNeg) (cp_peer hin36) hq37) ⟨Nat.le_of_ble_eq_true rfl, Nat.le_of_ble_eq_true rfl⟩ (Nat.le_of_ble_eq_true rfl) rfl d_CP_open_37 (fun H locs hP hS => ?_)
    refine lv_iconst (v := 1) hx hb d_CP_open_40 (by decide) ?_
    exact cz_zreth S hr hlocks hP hS h rfl d_CP_open_41
  have h := cz_f hc h
  refine lv_iconst (v := 0) hx hb d_CP_open_19 (by decide) ?_
  exact cz_zreth S hr hlocks hP hS h rfl d_CP_open_20
set_option maxHeartbeats 4000000 in
set_option maxRecDepth 100000 in
theorem c_CP_close (l : Launch) {X : cz_X} {A : Nat → Prop} (hD : ∀ M, va_D A (cp_wl X M)) (M : cz_M) (a1 : Int32) {r2 : Int32} {M2 : cz_M} (h : f_CP_close M a1 = some (r2, M2)) : cp_Ct l X A y_CP_close (Cond.code y_CP_close b_CP_close 2 (some .boolean) :: cz_T) rm_CP_close [.ref (X.2.1 0), .int a1] M (some (.int r2)) M2 := by
  refine cz_Met (by decide) rfl (Nat.le_of_ble_eq_true rfl) hD ?_
  intro p e s m args below meth c hargs S hr hlocks hP ls hl
  have S : cz_Cx p m c b_CP_close 2 s args cz_T "ChainPeers" X.1 cp_cl (cp_tys X) cz_N A (cp_wl X) := S
  have hx := S.1.1
  have hb := S.1.2.1
  have hS : va_S A s.heap s.heap [] := va_S.rf
  have hl : lv_has ls 2 [(0, .ref (X.2.1 0)), (1, .int a1)] := hl
  refine lv_iload_n hx hb d_CP_close_0 rfl (lv_at hl 1 rfl) ?_
  obtain ⟨r1, M1, hq1, h⟩ := cz_ubi h
  refine iv_CP_63 (rest := []) S hl.1 hP hS (c_CP_isPeer l hD M a1 hq1) ⟨Nat.le_of_ble_eq_true rfl, Nat.le_of_ble_eq_true rfl⟩ (Nat.le_of_ble_eq_true rfl) rfl d_CP_close_1 (fun H locs hP hS => ?_)
  refine lv_if_eq (tgt := 19) hx hb d_CP_close_4 rfl (fun hc => ?_) (fun hc => ?_)
  · have h := cz_t hc h
    refine lv_iconst (v := 0) hx hb d_CP_close_19 (by decide) ?_
    exact cz_zreth S hr hlocks hP hS h rfl d_CP_close_20
  have h := cz_f hc h
  refine lv_aload_n hx hb d_CP_close_7 rfl (lv_at hl 0 rfl) ?_
  refine gf_CP_35 S hP d_CP_close_8 ?_
  refine lv_iload_n hx hb d_CP_close_11 rfl (lv_at hl 1 rfl) ?_
  obtain ⟨hin12, h⟩ := cz_ck h
  refine cp_aaPA S hP hin12 d_CP_close_12 ?_
  obtain ⟨r13, M13, hq13, h⟩ := cz_ubi h
  refine iv_CP_77 (rest := []) S hl.1 hP hS (c_Peer_isTalking l hD M1 (2 + 2 * a1.toNatClampNeg) (cp_peer hin12) hq13) (cp_peer hin12) ⟨Nat.le_of_ble_eq_true rfl, Nat.le_of_ble_eq_true rfl⟩ (Nat.le_of_ble_eq_true rfl) rfl d_CP_close_13 (fun H locs hP hS => ?_)
  refine lv_if_ne (tgt := 21) hx hb d_CP_close_16 rfl (fun hc => ?_) (fun hc => ?_)
  · have h := cz_f hc h
    refine lv_aload_n hx hb d_CP_close_21 rfl (lv_at hl 0 rfl) ?_
    refine gf_CP_35 S hP d_CP_close_22 ?_
    refine lv_iload_n hx hb d_CP_close_25 rfl (lv_at hl 1 rfl) ?_
    obtain ⟨hin26, h⟩ := cz_ck h
    refine cp_aaPA S hP hin26 d_CP_close_26 ?_
    refine lv_iconst (v := 0) hx hb d_CP_close_27 (by decide) ?_
    obtain ⟨M28, hq28, h⟩ := cz_ubv h
    refine iv_CP_81 (rest := []) S hl.1 hP hS (c_Peer_leave l hD M13 (2 + 2 * a1.toNatClampNeg) (0 : Int32) (cp_peer hin26) hq28) (cp_peer hin26) ⟨Nat.le_of_ble_eq_true rfl, Nat.le_of_ble_eq_true rfl⟩ (Nat.le_of_ble_eq_true rfl) rfl d_CP_close_28 (fun H locs hP hS => ?_)
    refine lv_iconst (v := 1) hx hb d_CP_close_31 (by decide) ?_
    exact cz_zreth S hr hlocks hP hS h rfl d_CP_close_32
  have h := cz_t hc h
  refine lv_iconst (v := 0) hx hb d_CP_close_19 (by decide) ?_
  exact cz_zreth S hr hlocks hP hS h rfl d_CP_close_20
set_option maxHeartbeats 4000000 in
set_option maxRecDepth 100000 in
theorem c_CP_put (l : Launch) {X : cz_X} {A : Nat → Prop} (hD : ∀ M, va_D A (cp_wl X M)) (M : cz_M) (a1 : Int32) (a2 : Int64) {r2 : Int32} {M2 : cz_M} (h : f_CP_put M a1 a2 = some (r2, M2)) : cp_Ct l X A y_CP_put (Cond.code y_CP_put b_CP_put 5 (some .boolean) :: cz_T) rm_CP_put [.ref (X.2.1 0), .int a1, .long a2] M (some (.int r2)) M2 := by
  refine cz_Met (by decide) rfl (Nat.le_of_ble_eq_true rfl) hD ?_
  intro p e s m args below meth c hargs S hr hlocks hP ls hl
  have S : cz_Cx p m c b_CP_put 5 s args cz_T "ChainPeers" X.1 cp_cl (cp_tys X) cz_N A (cp_wl X) := S
  have hx := S.1.1
  have hb := S.1.2.1
  have hS : va_S A s.heap s.heap [] := va_S.rf
  have hl : lv_has ls 5 [(0, .ref (X.2.1 0)), (1, .int a1), (2, .long a2)] := hl
  have hb32 : ∀ (n : Nat) (M : cz_M) (v4 : Int32), cz_lp2 (l_CP_put_32 a1 a2) n M v4 = some (r2, M2) → ∀ (H : Heap) (locs : List Loc) (ls : Array Slot), va_P X.1 cp_cl (cp_wl X M) H → va_S A s.heap H locs → lv_has ls 5 [(0, .ref (X.2.1 0)), (2, .long a2), (4, .int v4)] → W p l e rm_CP_put s m args below meth c H locs 0 0 (MQ below (cz_Qw X.1 cp_cl (some (.int r2)) (cp_wl X M2) A) args s 0 0 A) (F0 m 32 ls []) := by
    refine cz_ind2 (fun rec32 ih32 M v4 h H locs ls hP hS hl => ?_)
    refine lv_iload hx hb d_CP_put_32 (lv_at hl 2 rfl) ?_
    refine lv_if_lt (tgt := 62) hx hb d_CP_put_34 rfl (fun hc => ?_) (fun hc => ?_)
    · have h := cz_t hc h
      refine lv_iconst (v := 1) hx hb d_CP_put_62 (by decide) ?_
      exact cz_zreth S hr hlocks hP hS h rfl d_CP_put_63
    have h := cz_f hc h
    refine lv_aload_n hx hb d_CP_put_37 rfl (lv_at hl 0 rfl) ?_
    refine gf_CP_10 S hP d_CP_put_38 ?_
    refine lv_lload_n hx hb d_CP_put_41 rfl (lv_at hl 1 rfl) ?_
    refine lv_bipush (v := 8) hx hb d_CP_put_42 (by decide) ?_
    refine lv_iload hx hb d_CP_put_44 (lv_at hl 2 rfl) ?_
    refine lv_imul hx hb d_CP_put_46 ?_
    refine lv_lushr (v := cz_lushr a2 ((8 : Int32) * v4)) hx hb d_CP_put_47 rfl ?_
    refine lv_l2i (v := (cz_lushr a2 ((8 : Int32) * v4)).toInt32) hx hb d_CP_put_48 rfl ?_
    refine lv_sipush (v := 255) hx hb d_CP_put_49 (by decide) ?_
    refine lv_iand hx hb d_CP_put_52 ?_
    obtain ⟨M53, hq53, h⟩ := cz_ubv h
    refine iv_CP_88 (rest := []) S hl.1 hP hS (c_Bytes_add l hD M 10 (((cz_lushr a2 ((8 : Int32) * v4)).toInt32) &&& (255 : Int32)) cp_k10 hq53) cp_k10 ⟨Nat.le_of_ble_eq_true rfl, Nat.le_of_ble_eq_true rfl⟩ (Nat.le_of_ble_eq_true rfl) rfl d_CP_put_53 (fun H locs hP hS => ?_)
    refine lv_iinc (lv' := [(4, .int (v4 - 1)), (0, .ref (X.2.1 0)), (2, .long a2)]) (v := v4 - 1) (k := 2) hx hb d_CP_put_56 hl rfl (cz_incm1 _) (by decide) rfl (fun ls hl => ?_)
    refine lv_goto (tgt := 32) hx hb d_CP_put_59 rfl ?_
    exact ih32 M53 (v4 - 1) h _ _ _ hP hS (lv_sub hl [1, 2, 0] rfl)
  refine lv_iload_n hx hb d_CP_put_0 rfl (lv_at hl 1 rfl) ?_
  refine lv_iconst (v := 1) hx hb d_CP_put_1 (by decide) ?_
  refine lv_icmp_lt (tgt := 25) hx hb d_CP_put_2 rfl (fun hc => ?_) (fun hc => ?_)
  · have h := cz_t hc h
    refine lv_iconst (v := 0) hx hb d_CP_put_25 (by decide) ?_
    exact cz_zreth S hr hlocks hP hS h rfl d_CP_put_26
  have h := cz_f hc h
  refine lv_iload_n hx hb d_CP_put_5 rfl (lv_at hl 1 rfl) ?_
  refine lv_bipush (v := 8) hx hb d_CP_put_6 (by decide) ?_
  refine lv_icmp_gt (tgt := 25) hx hb d_CP_put_8 rfl (fun hc => ?_) (fun hc => ?_)
  · have h := cz_t hc h
    refine lv_iconst (v := 0) hx hb d_CP_put_25 (by decide) ?_
    exact cz_zreth S hr hlocks hP hS h rfl d_CP_put_26
  have h := cz_f hc h
  refine lv_aload_n hx hb d_CP_put_11 rfl (lv_at hl 0 rfl) ?_
  refine gf_CP_10 S hP d_CP_put_12 ?_
  refine gf_CP_85 S hP cp_k10 d_CP_put_15 ?_
  refine lv_iload_n hx hb d_CP_put_18 rfl (lv_at hl 1 rfl) ?_
  refine lv_iadd hx hb d_CP_put_19 ?_
  refine lv_bipush (v := 56) hx hb d_CP_put_20 (by decide) ?_
  refine lv_icmp_le (tgt := 27) hx hb d_CP_put_22 rfl (fun hc => ?_) (fun hc => ?_)
  · have h := cz_t hc h
    refine lv_iload_n hx hb d_CP_put_27 rfl (lv_at hl 1 rfl) ?_
    refine lv_iconst (v := 1) hx hb d_CP_put_28 (by decide) ?_
    refine lv_isub hx hb d_CP_put_29 ?_
    refine lv_istore (lv' := [(4, .int (a1 - (1 : Int32))), (0, .ref (X.2.1 0)), (1, .int a1), (2, .long a2)]) hx hb d_CP_put_30 hl (by decide) rfl (fun ls hl => ?_)
    exact hb32 _ M (a1 - (1 : Int32)) h _ _ _ hP hS (lv_sub hl [1, 3, 0] rfl)
  have h := cz_f hc h
  refine lv_iconst (v := 0) hx hb d_CP_put_25 (by decide) ?_
  exact cz_zreth S hr hlocks hP hS h rfl d_CP_put_26
set_option maxHeartbeats 4000000 in
set_option maxRecDepth 100000 in
theorem c_CP_clear (l : Launch) {X : cz_X} {A : Nat → Prop} (hD : ∀ M, va_D A (cp_wl X M)) (M : cz_M) {M2 : cz_M} (h : f_CP_clear M = some M2) : cp_Ct l X A y_CP_clear (Cond.code y_CP_clear b_CP_clear 1 none :: cz_T) rm_CP_clear [.ref (X.2.1 0)] M none M2 := by
  refine cz_Met (by decide) rfl (Nat.le_of_ble_eq_true rfl) hD ?_
  intro p e s m args below meth c hargs S hr hlocks hP ls hl
  have S : cz_Cx p m c b_CP_clear 1 s args cz_T "ChainPeers" X.1 cp_cl (cp_tys X) cz_N A (cp_wl X) := S
  have hx := S.1.1
  have hb := S.1.2.1
  have hS : va_S A s.heap s.heap [] := va_S.rf
  have hl : lv_has ls 1 [(0, .ref (X.2.1 0))] := hl
  refine lv_aload_n hx hb d_CP_clear_0 rfl (lv_at hl 0 rfl) ?_
  refine gf_CP_10 S hP d_CP_clear_1 ?_
  refine lv_iconst (v := 0) hx hb d_CP_clear_4 (by decide) ?_
  refine pf_CP_85 S hP hS cp_k10 d_CP_clear_5 (fun H locs hP hS => ?_)
  exact cz_vreth S hr hlocks hP hS h d_CP_clear_8
set_option maxHeartbeats 4000000 in
set_option maxRecDepth 100000 in
theorem c_CP_wire (l : Launch) {X : cz_X} {A : Nat → Prop} (hD : ∀ M, va_D A (cp_wl X M)) (M : cz_M) (a1 : Int32) {r2 : Int32} {M2 : cz_M} (h : f_CP_wire M a1 = some (r2, M2)) : cp_Ct l X A y_CP_wire (Cond.code y_CP_wire b_CP_wire 2 (some .int) :: cz_T) rm_CP_wire [.ref (X.2.1 0), .int a1] M (some (.int r2)) M2 := by
  refine cz_Met (by decide) rfl (Nat.le_of_ble_eq_true rfl) hD ?_
  intro p e s m args below meth c hargs S hr hlocks hP ls hl
  have S : cz_Cx p m c b_CP_wire 2 s args cz_T "ChainPeers" X.1 cp_cl (cp_tys X) cz_N A (cp_wl X) := S
  have hx := S.1.1
  have hb := S.1.2.1
  have hS : va_S A s.heap s.heap [] := va_S.rf
  have hl : lv_has ls 2 [(0, .ref (X.2.1 0)), (1, .int a1)] := hl
  refine lv_iload_n hx hb d_CP_wire_0 rfl (lv_at hl 1 rfl) ?_
  refine lv_iconst (v := -1) hx hb d_CP_wire_1 (by decide) ?_
  refine lv_icmp_ne (tgt := 15) hx hb d_CP_wire_2 rfl (fun hc => ?_) (fun hc => ?_)
  · have h := cz_f hc h
    refine lv_aload_n hx hb d_CP_wire_15 rfl (lv_at hl 0 rfl) ?_
    refine gf_CP_10 S hP d_CP_wire_16 ?_
    refine lv_iload_n hx hb d_CP_wire_19 rfl (lv_at hl 1 rfl) ?_
    obtain ⟨r20, M20, hq20, h⟩ := cz_ubi h
    refine iv_CP_91 (rest := []) S hl.1 hP hS (c_Bytes_at l hD M 10 a1 cp_k10 hq20) cp_k10 ⟨Nat.le_of_ble_eq_true rfl, Nat.le_of_ble_eq_true rfl⟩ (Nat.le_of_ble_eq_true rfl) rfl d_CP_wire_20 (fun H locs hP hS => ?_)
    exact cz_ireth S hr hlocks hP hS h d_CP_wire_23
  have h := cz_t hc h
  refine lv_aload_n hx hb d_CP_wire_5 rfl (lv_at hl 0 rfl) ?_
  refine gf_CP_10 S hP d_CP_wire_6 ?_
  refine gf_CP_85 S hP cp_k10 d_CP_wire_9 ?_
  refine lv_goto (tgt := 23) hx hb d_CP_wire_12 rfl ?_
  exact cz_ireth S hr hlocks hP hS h d_CP_wire_23
set_option maxHeartbeats 4000000 in
set_option maxRecDepth 100000 in
theorem c_CP_greet (l : Launch) {X : cz_X} {A : Nat → Prop} (hD : ∀ M, va_D A (cp_wl X M)) (M : cz_M) (a1 : Nat) (k1 : cp_Q a1) {M2 : cz_M} (h : f_CP_greet M a1 = some M2) : cp_Ct l X A y_CP_greet (Cond.code y_CP_greet b_CP_greet 2 none :: cz_T) rm_CP_greet [.ref (X.2.1 0), .ref (X.2.1 a1)] M none M2 := by
  refine cz_Met (by decide) rfl (Nat.le_of_ble_eq_true rfl) hD ?_
  intro p e s m args below meth c hargs S hr hlocks hP ls hl
  have S : cz_Cx p m c b_CP_greet 2 s args cz_T "ChainPeers" X.1 cp_cl (cp_tys X) cz_N A (cp_wl X) := S
  have hx := S.1.1
  have hb := S.1.2.1
  have hS : va_S A s.heap s.heap [] := va_S.rf
  have hl : lv_has ls 2 [(0, .ref (X.2.1 0)), (1, .ref (X.2.1 a1))] := hl
  refine lv_aload_n hx hb d_CP_greet_0 rfl (lv_at hl 0 rfl) ?_
  refine gf_CP_22 S hP d_CP_greet_1 ?_
  refine gf_CP_199 S hP d_CP_greet_4 ?_
  refine lv_aload_n hx hb d_CP_greet_7 rfl (lv_at hl 0 rfl) ?_
  refine gf_CP_52 S hP d_CP_greet_8 ?_
  refine lv_icmp_ne (tgt := 33) hx hb d_CP_greet_11 rfl (fun hc => ?_) (fun hc => ?_)
  · have h := cz_f hc h
    refine lv_aload_n hx hb d_CP_greet_33 rfl (lv_at hl 1 rfl) ?_
    refine lv_iconst (v := 0) hx hb d_CP_greet_34 (by decide) ?_
    obtain ⟨M35, hq35, h⟩ := cz_ubv h
    refine iv_CP_81 (rest := []) S hl.1 hP hS (c_Peer_leave l hD M a1 (0 : Int32) k1 hq35) k1 ⟨Nat.le_of_ble_eq_true rfl, Nat.le_of_ble_eq_true rfl⟩ (Nat.le_of_ble_eq_true rfl) rfl d_CP_greet_35 (fun H locs hP hS => ?_)
    exact cz_vreth S hr hlocks hP hS h d_CP_greet_38
  have h := cz_t hc h
  refine lv_aload_n hx hb d_CP_greet_14 rfl (lv_at hl 1 rfl) ?_
  refine lv_iconst (v := 2) hx hb d_CP_greet_15 (by decide) ?_
  refine pf_CP_67 S hP hS k1 d_CP_greet_16 (fun H locs hP hS => ?_)
  refine lv_aload_n hx hb d_CP_greet_19 rfl (lv_at hl 1 rfl) ?_
  refine lv_aload_n hx hb d_CP_greet_20 rfl (lv_at hl 0 rfl) ?_
  refine gf_CP_22 S hP d_CP_greet_21 ?_
  refine gf_CP_200 S hP d_CP_greet_24 ?_
  refine pf_CP_203 S hP hS k1 d_CP_greet_27 (fun H locs hP hS => ?_)
  refine lv_goto (tgt := 38) hx hb d_CP_greet_30 rfl ?_
  exact cz_vreth S hr hlocks hP hS h d_CP_greet_38
set_option maxHeartbeats 4000000 in
set_option maxRecDepth 100000 in
theorem c_CP_readGreeting (l : Launch) {X : cz_X} {A : Nat → Prop} (hD : ∀ M, va_D A (cp_wl X M)) (M : cz_M) (a1 : Nat) (k1 : cp_Q a1) {r2 : Int32} {M2 : cz_M} (h : f_CP_readGreeting M a1 = some (r2, M2)) : cp_Ct l X A y_CP_readGreeting (Cond.code y_CP_readGreeting b_CP_readGreeting 2 (some .int) :: cz_T) rm_CP_readGreeting [.ref (X.2.1 0), .ref (X.2.1 a1)] M (some (.int r2)) M2 := by
  refine cz_Met (by decide) rfl (Nat.le_of_ble_eq_true rfl) hD ?_
  intro p e s m args below meth c hargs S hr hlocks hP ls hl
  have S : cz_Cx p m c b_CP_readGreeting 2 s args cz_T "ChainPeers" X.1 cp_cl (cp_tys X) cz_N A (cp_wl X) := S
  have hx := S.1.1
  have hb := S.1.2.1
  have hS : va_S A s.heap s.heap [] := va_S.rf
  have hl : lv_has ls 2 [(0, .ref (X.2.1 0)), (1, .ref (X.2.1 a1))] := hl
  refine lv_aload_n hx hb d_CP_readGreeting_0 rfl (lv_at hl 0 rfl) ?_
  refine gf_CP_22 S hP d_CP_readGreeting_1 ?_
  refine gf_CP_109 S hP d_CP_readGreeting_4 ?_
  refine (Decidable.em ((M.1 16 0) = (0 : Int32))).elim (fun hc => ?_) (fun hc0 => ?_)
  · have h := cz_t hc h
    refine lv_lookup (off := 25) (tgt := 32) hx hb d_CP_readGreeting_7 rfl (by rw [hc] <;> rfl) rfl ?_
    refine lv_aload_n hx hb d_CP_readGreeting_32 rfl (lv_at hl 0 rfl) ?_
    refine lv_aload_n hx hb d_CP_readGreeting_33 rfl (lv_at hl 1 rfl) ?_
    obtain ⟨M34, hq34, h⟩ := cz_ubv h
    refine iv_CP_196 (rest := []) S hl.1 hP hS (c_CP_greet l hD M a1 k1 hq34) ⟨Nat.le_of_ble_eq_true rfl, Nat.le_of_ble_eq_true rfl⟩ (Nat.le_of_ble_eq_true rfl) rfl d_CP_readGreeting_34 (fun H locs hP hS => ?_)
    refine lv_iconst (v := 0) hx hb d_CP_readGreeting_37 (by decide) ?_
    exact cz_ireth S hr hlocks hP hS h d_CP_readGreeting_38
  have h := cz_f hc0 h
  refine (Decidable.em ((M.1 16 0) = (5 : Int32))).elim (fun hc => ?_) (fun hc1 => ?_)
  · have h := cz_t hc h
    refine lv_lookup (off := 32) (tgt := 39) hx hb d_CP_readGreeting_7 rfl (by rw [hc] <;> rfl) rfl ?_
    refine lv_aload_n hx hb d_CP_readGreeting_39 rfl (lv_at hl 1 rfl) ?_
    refine lv_iconst (v := 0) hx hb d_CP_readGreeting_40 (by decide) ?_
    obtain ⟨M41, hq41, h⟩ := cz_ubv h
    refine iv_CP_81 (rest := []) S hl.1 hP hS (c_Peer_leave l hD M a1 (0 : Int32) k1 hq41) k1 ⟨Nat.le_of_ble_eq_true rfl, Nat.le_of_ble_eq_true rfl⟩ (Nat.le_of_ble_eq_true rfl) rfl d_CP_readGreeting_41 (fun H locs hP hS => ?_)
    refine lv_iconst (v := 0) hx hb d_CP_readGreeting_44 (by decide) ?_
    exact cz_ireth S hr hlocks hP hS h d_CP_readGreeting_45
  have h := cz_f hc1 h
  refine lv_lookup (off := 39) (tgt := 46) hx hb d_CP_readGreeting_7 rfl (by show Jvm.Op.lookupswitch.offset [(0, 25), (5, 32)] 39 _ = 39; rw [lv_osw (a := 0) hc0 rfl, lv_osw (a := 5) hc1 rfl]; rfl) rfl ?_
  refine lv_iconst (v := 2) hx hb d_CP_readGreeting_46 (by decide) ?_
  exact cz_ireth S hr hlocks hP hS h d_CP_readGreeting_47
set_option maxHeartbeats 4000000 in
set_option maxRecDepth 100000 in
theorem c_CP_sendHeaders (l : Launch) {X : cz_X} {A : Nat → Prop} (hD : ∀ M, va_D A (cp_wl X M)) (M : cz_M) (a1 : Nat) (k1 : cp_Q a1) {M2 : cz_M} (h : f_CP_sendHeaders M a1 = some M2) : cp_Ct l X A y_CP_sendHeaders (Cond.code y_CP_sendHeaders b_CP_sendHeaders 8 none :: cz_T) rm_CP_sendHeaders [.ref (X.2.1 0), .ref (X.2.1 a1)] M none M2 := by
  refine cz_Met (by decide) rfl (Nat.le_of_ble_eq_true rfl) hD ?_
  intro p e s m args below meth c hargs S hr hlocks hP ls hl
  have S : cz_Cx p m c b_CP_sendHeaders 8 s args cz_T "ChainPeers" X.1 cp_cl (cp_tys X) cz_N A (cp_wl X) := S
  have hx := S.1.1
  have hb := S.1.2.1
  have hS : va_S A s.heap s.heap [] := va_S.rf
  have hl : lv_has ls 8 [(0, .ref (X.2.1 0)), (1, .ref (X.2.1 a1))] := hl
  have hb131 : ∀ (M : cz_M) (v2 : Int32), b_CP_sendHeaders_131 a1 M v2 = some M2 → ∀ (H : Heap) (locs : List Loc) (ls : Array Slot), va_P X.1 cp_cl (cp_wl X M) H → va_S A s.heap H locs → lv_has ls 8 [(0, .ref (X.2.1 0)), (1, .ref (X.2.1 a1)), (2, .int v2)] → W p l e rm_CP_sendHeaders s m args below meth c H locs 0 0 (MQ below (cz_Qw X.1 cp_cl none (cp_wl X M2) A) args s 0 0 A) (F0 m 131 ls []) := by
    intro M v2 h H locs ls hP hS hl
    refine lv_aload_n hx hb d_CP_sendHeaders_131 rfl (lv_at hl 0 rfl) ?_
    refine gf_CP_16 S hP d_CP_sendHeaders_132 ?_
    refine lv_iload_n hx hb d_CP_sendHeaders_135 rfl (lv_at hl 2 rfl) ?_
    obtain ⟨M136, hq136, h⟩ := cz_ubv h
    refine iv_CP_269 (rest := []) S hl.1 hP hS (c_Bytes_endList l hD M 12 v2 cp_k12 hq136) cp_k12 ⟨Nat.le_of_ble_eq_true rfl, Nat.le_of_ble_eq_true rfl⟩ (Nat.le_of_ble_eq_true rfl) rfl d_CP_sendHeaders_136 (fun H locs hP hS => ?_)
    refine lv_aload_n hx hb d_CP_sendHeaders_139 rfl (lv_at hl 0 rfl) ?_
    refine lv_aload_n hx hb d_CP_sendHeaders_140 rfl (lv_at hl 1 rfl) ?_
    obtain ⟨M141, hq141, h⟩ := cz_ubv h
    refine iv_CP_253 (rest := []) S hl.1 hP hS (c_CP_sendDraft l hD M136 a1 k1 hq141) ⟨Nat.le_of_ble_eq_true rfl, Nat.le_of_ble_eq_true rfl⟩ (Nat.le_of_ble_eq_true rfl) rfl d_CP_sendHeaders_141 (fun H locs hP hS => ?_)
    exact cz_vreth S hr hlocks hP hS h d_CP_sendHeaders_144
  have hb74 : ∀ (n : Nat) (M : cz_M) (v2 : Int32) (v3 : Int32) (v4 : Int32) (v5 : Int32) (v6 : Int32), cz_lp6 (l_CP_sendHeaders_74 a1) n M v2 v3 v4 v5 v6 = some M2 → ∀ (H : Heap) (locs : List Loc) (ls : Array Slot), va_P X.1 cp_cl (cp_wl X M) H → va_S A s.heap H locs → lv_has ls 8 [(0, .ref (X.2.1 0)), (1, .ref (X.2.1 a1)), (2, .int v2), (3, .int v3), (4, .int v4), (5, .int v5), (6, .int v6)] → W p l e rm_CP_sendHeaders s m args below meth c H locs 0 0 (MQ below (cz_Qw X.1 cp_cl none (cp_wl X M2) A) args s 0 0 A) (F0 m 74 ls []) := by
    refine cz_ind6 (fun rec74 ih74 M v2 v3 v4 v5 v6 h H locs ls hP hS hl => ?_)
    refine lv_iload hx hb d_CP_sendHeaders_74 (lv_at hl 6 rfl) ?_
    refine lv_iload hx hb d_CP_sendHeaders_76 (lv_at hl 4 rfl) ?_
    refine lv_icmp_ge (tgt := 131) hx hb d_CP_sendHeaders_78 rfl (fun hc => ?_) (fun hc => ?_)
    · have h := cz_t hc h
      exact hb131 M v2 h _ _ _ hP hS (lv_sub hl [0, 1, 2] rfl)
    have h := cz_f hc h
    refine lv_iload hx hb d_CP_sendHeaders_81 (lv_at hl 6 rfl) ?_
    refine lv_iload hx hb d_CP_sendHeaders_83 (lv_at hl 5 rfl) ?_
    refine lv_icmp_ge (tgt := 131) hx hb d_CP_sendHeaders_85 rfl (fun hc => ?_) (fun hc => ?_)
    · have h := cz_t hc h
      exact hb131 M v2 h _ _ _ hP hS (lv_sub hl [0, 1, 2] rfl)
    have h := cz_f hc h
    refine lv_aload_n hx hb d_CP_sendHeaders_88 rfl (lv_at hl 0 rfl) ?_
    refine gf_CP_29 S hP d_CP_sendHeaders_89 ?_
    refine lv_iload_n hx hb d_CP_sendHeaders_92 rfl (lv_at hl 3 rfl) ?_
    refine lv_aload_n hx hb d_CP_sendHeaders_93 rfl (lv_at hl 0 rfl) ?_
    refine gf_CP_22 S hP d_CP_sendHeaders_94 ?_
    refine gf_CP_260 S hP d_CP_sendHeaders_97 ?_
    refine lv_iload hx hb d_CP_sendHeaders_100 (lv_at hl 6 rfl) ?_
    refine lv_iadd hx hb d_CP_sendHeaders_102 ?_
    obtain ⟨r103, M103, hq103, h⟩ := cz_ubi h
    refine iv_CP_263 (rest := []) S hl.1 hP hS (c_Blocks_ancestor l hD M v3 ((M.1 16 4) + v6) hq103) ⟨Nat.le_of_ble_eq_true rfl, Nat.le_of_ble_eq_true rfl⟩ (Nat.le_of_ble_eq_true rfl) rfl d_CP_sendHeaders_103 (fun H locs hP hS => ?_)
    refine lv_istore (lv' := [(7, .int r103), (0, .ref (X.2.1 0)), (1, .ref (X.2.1 a1)), (2, .int v2), (3, .int v3), (4, .int v4), (5, .int v5), (6, .int v6)]) hx hb d_CP_sendHeaders_106 hl (by decide) rfl (fun ls hl => ?_)
    refine lv_aload_n hx hb d_CP_sendHeaders_108 rfl (lv_at hl 1 rfl) ?_
    refine gf_CP_16 S hP d_CP_sendHeaders_109 ?_
    refine lv_aload_n hx hb d_CP_sendHeaders_112 rfl (lv_at hl 1 rfl) ?_
    refine gf_CP_29 S hP d_CP_sendHeaders_113 ?_
    refine gf_CP_246 S hP d_CP_sendHeaders_116 ?_
    refine lv_iload hx hb d_CP_sendHeaders_119 (lv_at hl 0 rfl) ?_
    obtain ⟨hin121, h⟩ := cz_ck h
    refine cp_aaGH S hP hin121 d_CP_sendHeaders_121 ?_
    obtain ⟨M122, hq122, h⟩ := cz_ubv h
    refine iv_CP_266 (rest := []) S hl.1 hP hS (c_Bytes_addHeader l hD M103 12 (69 + r103.toNatClampNeg) cp_k12 (cp_r69 hin121) hq122) cp_k12 ⟨Nat.le_of_ble_eq_true rfl, Nat.le_of_ble_eq_true rfl⟩ (Nat.le_of_ble_eq_true rfl) rfl d_CP_sendHeaders_122 (fun H locs hP hS => ?_)
    refine lv_iinc (lv' := [(6, .int (v6 + 1)), (7, .int r103), (0, .ref (X.2.1 0)), (1, .ref (X.2.1 a1)), (2, .int v2), (3, .int v3), (4, .int v4), (5, .int v5)]) (v := v6 + 1) (k := 7) hx hb d_CP_sendHeaders_125 hl rfl (cz_inc1 _) (by decide) rfl (fun ls hl => ?_)
    refine lv_goto (tgt := 74) hx hb d_CP_sendHeaders_128 rfl ?_
    exact ih74 M122 v2 v3 v4 v5 (v6 + 1) h _ _ _ hP hS (lv_sub hl [2, 3, 4, 5, 6, 7, 0] rfl)
  refine lv_aload_n hx hb d_CP_sendHeaders_0 rfl (lv_at hl 0 rfl) ?_
  refine gf_CP_16 S hP d_CP_sendHeaders_1 ?_
  refine lv_iconst (v := 2) hx hb d_CP_sendHeaders_4 (by decide) ?_
  obtain ⟨M5, hq5, h⟩ := cz_ubv h
  refine iv_CP_247 (rest := []) S hl.1 hP hS (c_Bytes_begin l hD M 12 (2 : Int32) cp_k12 hq5) cp_k12 ⟨Nat.le_of_ble_eq_true rfl, Nat.le_of_ble_eq_true rfl⟩ (Nat.le_of_ble_eq_true rfl) rfl d_CP_sendHeaders_5 (fun H locs hP hS => ?_)
  refine lv_aload_n hx hb d_CP_sendHeaders_8 rfl (lv_at hl 0 rfl) ?_
  refine gf_CP_16 S hP d_CP_sendHeaders_9 ?_
  refine lv_aload_n hx hb d_CP_sendHeaders_12 rfl (lv_at hl 0 rfl) ?_
  refine gf_CP_22 S hP d_CP_sendHeaders_13 ?_
  refine gf_CP_216 S hP d_CP_sendHeaders_16 ?_
  obtain ⟨M19, hq19, h⟩ := cz_ubv h
  refine iv_CP_250 (rest := []) S hl.1 hP hS (c_Bytes_addNumber l hD M5 12 (M5.1 16 3) cp_k12 hq19) cp_k12 ⟨Nat.le_of_ble_eq_true rfl, Nat.le_of_ble_eq_true rfl⟩ (Nat.le_of_ble_eq_true rfl) rfl d_CP_sendHeaders_19 (fun H locs hP hS => ?_)
  refine lv_aload_n hx hb d_CP_sendHeaders_22 rfl (lv_at hl 0 rfl) ?_
  refine gf_CP_16 S hP d_CP_sendHeaders_23 ?_
  obtain ⟨r26, M26, hq26, h⟩ := cz_ubi h
  refine iv_CP_256 (rest := []) S hl.1 hP hS (c_Bytes_beginList l hD M19 12 cp_k12 hq26) cp_k12 ⟨Nat.le_of_ble_eq_true rfl, Nat.le_of_ble_eq_true rfl⟩ (Nat.le_of_ble_eq_true rfl) rfl d_CP_sendHeaders_26 (fun H locs hP hS => ?_)
  refine lv_istore_n (lv' := [(2, .int r26), (0, .ref (X.2.1 0)), (1, .ref (X.2.1 a1))]) hx hb d_CP_sendHeaders_29 rfl hl (by decide) rfl (fun ls hl => ?_)
  refine lv_aload_n hx hb d_CP_sendHeaders_30 rfl (lv_at hl 1 rfl) ?_
  refine gf_CP_29 S hP d_CP_sendHeaders_31 ?_
  obtain ⟨r34, M34, hq34, h⟩ := cz_ubi h
  refine iv_CP_133 (rest := []) S hl.1 hP hS (c_Blocks_head l hD M26 hq34) ⟨Nat.le_of_ble_eq_true rfl, Nat.le_of_ble_eq_true rfl⟩ (Nat.le_of_ble_eq_true rfl) rfl d_CP_sendHeaders_34 (fun H locs hP hS => ?_)
  refine lv_istore_n (lv' := [(3, .int r34), (2, .int r26), (0, .ref (X.2.1 0)), (1, .ref (X.2.1 a1))]) hx hb d_CP_sendHeaders_37 rfl hl (by decide) rfl (fun ls hl => ?_)
  refine lv_aload_n hx hb d_CP_sendHeaders_38 rfl (lv_at hl 2 rfl) ?_
  refine gf_CP_22 S hP d_CP_sendHeaders_39 ?_
  refine gf_CP_259 S hP d_CP_sendHeaders_42 ?_
  refine lv_iconst (v := 2) hx hb d_CP_sendHeaders_45 (by decide) ?_
  refine ma_CP_56 S hl.1 (Nat.le_of_ble_eq_true rfl) (Nat.le_of_ble_eq_true rfl) d_CP_sendHeaders_46 ?_
  refine lv_istore (lv' := [(4, .int (cz_min (M34.1 16 5) (2 : Int32))), (3, .int r34), (2, .int r26), (0, .ref (X.2.1 0)), (1, .ref (X.2.1 a1))]) hx hb d_CP_sendHeaders_49 hl (by decide) rfl (fun ls hl => ?_)
  refine lv_aload_n hx hb d_CP_sendHeaders_51 rfl (lv_at hl 3 rfl) ?_
  refine gf_CP_29 S hP d_CP_sendHeaders_52 ?_
  refine lv_iload_n hx hb d_CP_sendHeaders_55 rfl (lv_at hl 1 rfl) ?_
  obtain ⟨r56, M56, hq56, h⟩ := cz_ubi h
  refine iv_CP_139 (rest := []) S hl.1 hP hS (c_Blocks_numberOf l hD M34 r34 hq56) ⟨Nat.le_of_ble_eq_true rfl, Nat.le_of_ble_eq_true rfl⟩ (Nat.le_of_ble_eq_true rfl) rfl d_CP_sendHeaders_56 (fun H locs hP hS => ?_)
  refine lv_aload_n hx hb d_CP_sendHeaders_59 rfl (lv_at hl 3 rfl) ?_
  refine gf_CP_22 S hP d_CP_sendHeaders_60 ?_
  refine gf_CP_260 S hP d_CP_sendHeaders_63 ?_
  refine lv_isub hx hb d_CP_sendHeaders_66 ?_
  refine lv_iconst (v := 1) hx hb d_CP_sendHeaders_67 (by decide) ?_
  refine lv_iadd hx hb d_CP_sendHeaders_68 ?_
  refine lv_istore (lv' := [(5, .int ((r56 - (M56.1 16 4)) + (1 : Int32))), (4, .int (cz_min (M34.1 16 5) (2 : Int32))), (3, .int r34), (2, .int r26), (0, .ref (X.2.1 0)), (1, .ref (X.2.1 a1))]) hx hb d_CP_sendHeaders_69 hl (by decide) rfl (fun ls hl => ?_)
  refine lv_iconst (v := 0) hx hb d_CP_sendHeaders_71 (by decide) ?_
  refine lv_istore (lv' := [(6, .int (0 : Int32)), (5, .int ((r56 - (M56.1 16 4)) + (1 : Int32))), (4, .int (cz_min (M34.1 16 5) (2 : Int32))), (3, .int r34), (2, .int r26), (0, .ref (X.2.1 0)), (1, .ref (X.2.1 a1))]) hx hb d_CP_sendHeaders_72 hl (by decide) rfl (fun ls hl => ?_)
  exact hb74 _ M56 r26 r34 (cz_min (M34.1 16 5) (2 : Int32)) ((r56 - (M56.1 16 4)) + (1 : Int32)) (0 : Int32) h _ _ _ hP hS (lv_sub hl [5, 6, 4, 3, 2, 1, 0] rfl)
set_option maxHeartbeats 4000000 in
set_option maxRecDepth 100000 in
theorem c_CP_takeHeaders (l : Launch) {X : cz_X} {A : Nat → Prop} (hD : ∀ M, va_D A (cp_wl X M)) (M : cz_M) {r2 : Int32} {M2 : cz_M} (h : f_CP_takeHeaders M = some (r2, M2)) : cp_Ct l X A y_CP_takeHeaders (Cond.code y_CP_takeHeaders b_CP_takeHeaders 4 (some .boolean) :: cz_T) rm_CP_takeHeaders [.ref (X.2.1 0)] M (some (.int r2)) M2 := by
  refine cz_Met (by decide) rfl (Nat.le_of_ble_eq_true rfl) hD ?_
  intro p e s m args below meth c hargs S hr hlocks hP ls hl
  have S : cz_Cx p m c b_CP_takeHeaders 4 s args cz_T "ChainPeers" X.1 cp_cl (cp_tys X) cz_N A (cp_wl X) := S
  have hx := S.1.1
  have hb := S.1.2.1
  have hS : va_S A s.heap s.heap [] := va_S.rf
  have hl : lv_has ls 4 [(0, .ref (X.2.1 0))] := hl
  have hb2 : ∀ (n : Nat) (M : cz_M) (v1 : Int32), cz_lp2 (l_CP_takeHeaders_2) n M v1 = some (r2, M2) → ∀ (H : Heap) (locs : List Loc) (ls : Array Slot), va_P X.1 cp_cl (cp_wl X M) H → va_S A s.heap H locs → lv_has ls 4 [(0, .ref (X.2.1 0)), (1, .int v1)] → W p l e rm_CP_takeHeaders s m args below meth c H locs 0 0 (MQ below (cz_Qw X.1 cp_cl (some (.int r2)) (cp_wl X M2) A) args s 0 0 A) (F0 m 2 ls []) := by
    refine cz_ind2 (fun rec2 ih2 M v1 h H locs ls hP hS hl => ?_)
    have hb107 : ∀ (M : cz_M) (v1 : Int32), b_CP_takeHeaders_107 rec2 M v1 = some (r2, M2) → ∀ (H : Heap) (locs : List Loc) (ls : Array Slot), va_P X.1 cp_cl (cp_wl X M) H → va_S A s.heap H locs → lv_has ls 4 [(0, .ref (X.2.1 0)), (1, .int v1)] → W p l e rm_CP_takeHeaders s m args below meth c H locs 0 0 (MQ below (cz_Qw X.1 cp_cl (some (.int r2)) (cp_wl X M2) A) args s 0 0 A) (F0 m 107 ls []) := by
      intro M v1 h H locs ls hP hS hl
      refine lv_iinc (lv' := [(1, .int (v1 + 1)), (0, .ref (X.2.1 0))]) (v := v1 + 1) (k := 1) hx hb d_CP_takeHeaders_107 hl rfl (cz_inc1 _) (by decide) rfl (fun ls hl => ?_)
      refine lv_goto (tgt := 2) hx hb d_CP_takeHeaders_110 rfl ?_
      exact ih2 M (v1 + 1) h _ _ _ hP hS (lv_sub hl [1, 0] rfl)
    have hb69 : ∀ (M : cz_M) (v1 : Int32) (q2 : Nat) (s0 : Int32), b_CP_takeHeaders_69 rec2 M v1 q2 s0 = some (r2, M2) → ∀ (H : Heap) (locs : List Loc) (ls : Array Slot), va_P X.1 cp_cl (cp_wl X M) H → va_S A s.heap H locs → lv_has ls 4 [(0, .ref (X.2.1 0)), (1, .int v1), (2, .ref (X.2.1 q2))] → cp_I q2 → W p l e rm_CP_takeHeaders s m args below meth c H locs 0 0 (MQ below (cz_Qw X.1 cp_cl (some (.int r2)) (cp_wl X M2) A) args s 0 0 A) (F0 m 69 ls [.int s0]) := by
      intro M v1 q2 s0 h H locs ls hP hS hl k2
      refine lv_istore_n (lv' := [(3, .int s0), (0, .ref (X.2.1 0)), (1, .int v1), (2, .ref (X.2.1 q2))]) hx hb d_CP_takeHeaders_69 rfl hl (by decide) rfl (fun ls hl => ?_)
      refine lv_iload_n hx hb d_CP_takeHeaders_70 rfl (lv_at hl 0 rfl) ?_
      refine lv_if_eq (tgt := 85) hx hb d_CP_takeHeaders_71 rfl (fun hc => ?_) (fun hc => ?_)
      · have h := cz_t hc h
        refine lv_iconst (v := 0) hx hb d_CP_takeHeaders_85 (by decide) ?_
        exact cz_zreth S hr hlocks hP hS h rfl d_CP_takeHeaders_86
      have h := cz_f hc h
      refine lv_aload_n hx hb d_CP_takeHeaders_74 rfl (lv_at hl 1 rfl) ?_
      refine gf_CP_29 S hP d_CP_takeHeaders_75 ?_
      refine lv_aload_n hx hb d_CP_takeHeaders_78 rfl (lv_at hl 3 rfl) ?_
      obtain ⟨r79, M79, hq79, h⟩ := cz_ubi h
      refine iv_CP_146 (rest := []) S hl.1 hP hS (c_Blocks_isGood l hD M q2 k2 hq79) ⟨Nat.le_of_ble_eq_true rfl, Nat.le_of_ble_eq_true rfl⟩ (Nat.le_of_ble_eq_true rfl) rfl d_CP_takeHeaders_79 (fun H locs hP hS => ?_)
      refine lv_if_ne (tgt := 87) hx hb d_CP_takeHeaders_82 rfl (fun hc => ?_) (fun hc => ?_)
      · have h := cz_f hc h
        refine lv_aload_n hx hb d_CP_takeHeaders_87 rfl (lv_at hl 1 rfl) ?_
        refine gf_CP_29 S hP d_CP_takeHeaders_88 ?_
        obtain ⟨r91, M91, hq91, h⟩ := cz_ubi h
        refine iv_CP_157 (rest := []) S hl.1 hP hS (c_Blocks_isFull l hD M79 hq91) ⟨Nat.le_of_ble_eq_true rfl, Nat.le_of_ble_eq_true rfl⟩ (Nat.le_of_ble_eq_true rfl) rfl d_CP_takeHeaders_91 (fun H locs hP hS => ?_)
        refine lv_if_eq (tgt := 99) hx hb d_CP_takeHeaders_94 rfl (fun hc => ?_) (fun hc => ?_)
        · have h := cz_t hc h
          refine lv_aload_n hx hb d_CP_takeHeaders_99 rfl (lv_at hl 1 rfl) ?_
          refine gf_CP_29 S hP d_CP_takeHeaders_100 ?_
          refine lv_aload_n hx hb d_CP_takeHeaders_103 rfl (lv_at hl 3 rfl) ?_
          obtain ⟨M104, hq104, h⟩ := cz_ubv h
          refine iv_CP_163 (rest := []) S hl.1 hP hS (c_Blocks_append l hD M91 q2 k2 hq104) ⟨Nat.le_of_ble_eq_true rfl, Nat.le_of_ble_eq_true rfl⟩ (Nat.le_of_ble_eq_true rfl) rfl d_CP_takeHeaders_104 (fun H locs hP hS => ?_)
          exact hb107 M104 v1 h _ _ _ hP hS (lv_sub hl [1, 2] rfl)
        have h := cz_f hc h
        refine lv_iconst (v := 1) hx hb d_CP_takeHeaders_97 (by decide) ?_
        exact cz_zreth S hr hlocks hP hS h rfl d_CP_takeHeaders_98
      have h := cz_t hc h
      refine lv_iconst (v := 0) hx hb d_CP_takeHeaders_85 (by decide) ?_
      exact cz_zreth S hr hlocks hP hS h rfl d_CP_takeHeaders_86
    have hb64 : ∀ (M : cz_M) (v1 : Int32) (q2 : Nat), b_CP_takeHeaders_64 rec2 M v1 q2 = some (r2, M2) → ∀ (H : Heap) (locs : List Loc) (ls : Array Slot), va_P X.1 cp_cl (cp_wl X M) H → va_S A s.heap H locs → lv_has ls 4 [(0, .ref (X.2.1 0)), (1, .int v1), (2, .ref (X.2.1 q2))] → cp_I q2 → W p l e rm_CP_takeHeaders s m args below meth c H locs 0 0 (MQ below (cz_Qw X.1 cp_cl (some (.int r2)) (cp_wl X M2) A) args s 0 0 A) (F0 m 64 ls []) := by
      intro M v1 q2 h H locs ls hP hS hl k2
      refine lv_iconst (v := 1) hx hb d_CP_takeHeaders_64 (by decide) ?_
      refine lv_goto (tgt := 69) hx hb d_CP_takeHeaders_65 rfl ?_
      exact hb69 M v1 q2 (1 : Int32) h _ _ _ hP hS (lv_sub hl [0, 1, 2] rfl) k2
    refine lv_iload_n hx hb d_CP_takeHeaders_2 rfl (lv_at hl 1 rfl) ?_
    refine lv_aload_n hx hb d_CP_takeHeaders_3 rfl (lv_at hl 0 rfl) ?_
    refine gf_CP_22 S hP d_CP_takeHeaders_4 ?_
    refine gf_CP_228 S hP d_CP_takeHeaders_7 ?_
    refine lv_icmp_ge (tgt := 113) hx hb d_CP_takeHeaders_10 rfl (fun hc => ?_) (fun hc => ?_)
    · have h := cz_t hc h
      refine lv_iconst (v := 1) hx hb d_CP_takeHeaders_113 (by decide) ?_
      exact cz_zreth S hr hlocks hP hS h rfl d_CP_takeHeaders_114
    have h := cz_f hc h
    refine lv_aload_n hx hb d_CP_takeHeaders_13 rfl (lv_at hl 0 rfl) ?_
    refine gf_CP_22 S hP d_CP_takeHeaders_14 ?_
    refine gf_CP_231 S hP d_CP_takeHeaders_17 ?_
    refine lv_iload_n hx hb d_CP_takeHeaders_20 rfl (lv_at hl 1 rfl) ?_
    obtain ⟨hin21, h⟩ := cz_ck h
    refine cp_aaG8 S hP hin21 d_CP_takeHeaders_21 ?_
    refine lv_astore_n (lv' := [(2, .ref (X.2.1 (61 + v1.toNatClampNeg))), (0, .ref (X.2.1 0)), (1, .int v1)]) hx hb d_CP_takeHeaders_22 rfl hl (by decide) rfl (fun ls hl => ?_)
    refine lv_aload_n hx hb d_CP_takeHeaders_23 rfl (lv_at hl 1 rfl) ?_
    refine gf_CP_29 S hP d_CP_takeHeaders_24 ?_
    refine lv_aload_n hx hb d_CP_takeHeaders_27 rfl (lv_at hl 0 rfl) ?_
    obtain ⟨r28, M28, hq28, h⟩ := cz_ubi h
    refine iv_CP_150 (rest := [.ref (X.2.1 19)]) S hl.1 hP hS (c_CP_hashOf l hD M (61 + v1.toNatClampNeg) (cp_r61 hin21) hq28) ⟨Nat.le_of_ble_eq_true rfl, Nat.le_of_ble_eq_true rfl⟩ (Nat.le_of_ble_eq_true rfl) rfl d_CP_takeHeaders_28 (fun H locs hP hS => ?_)
    obtain ⟨r31, M31, hq31, h⟩ := cz_ubi h
    refine iv_CP_154 (rest := []) S hl.1 hP hS (c_Blocks_isKnown l hD M28 r28 hq31) ⟨Nat.le_of_ble_eq_true rfl, Nat.le_of_ble_eq_true rfl⟩ (Nat.le_of_ble_eq_true rfl) rfl d_CP_takeHeaders_31 (fun H locs hP hS => ?_)
    refine lv_if_eq (tgt := 40) hx hb d_CP_takeHeaders_34 rfl (fun hc => ?_) (fun hc => ?_)
    · have h := cz_t hc h
      refine lv_iload_n hx hb d_CP_takeHeaders_40 rfl (lv_at hl 2 rfl) ?_
      refine lv_if_eq (tgt := 64) hx hb d_CP_takeHeaders_41 rfl (fun hc => ?_) (fun hc => ?_)
      · have h := cz_t hc h
        exact hb64 M31 v1 (61 + v1.toNatClampNeg) h _ _ _ hP hS (lv_sub hl [1, 2, 0] rfl) (cp_r61 hin21)
      have h := cz_f hc h
      refine lv_aload_n hx hb d_CP_takeHeaders_44 rfl (lv_at hl 0 rfl) ?_
      refine lv_iconst (v := 0) hx hb d_CP_takeHeaders_45 (by decide) ?_
      obtain ⟨hin46, h⟩ := cz_ck h
      refine cp_ia S hP (cp_r61 hin21) hin46 d_CP_takeHeaders_46 ?_
      refine lv_aload_n hx hb d_CP_takeHeaders_47 rfl (lv_at hl 1 rfl) ?_
      refine gf_CP_22 S hP d_CP_takeHeaders_48 ?_
      refine gf_CP_231 S hP d_CP_takeHeaders_51 ?_
      refine lv_iload_n hx hb d_CP_takeHeaders_54 rfl (lv_at hl 2 rfl) ?_
      refine lv_iconst (v := 1) hx hb d_CP_takeHeaders_55 (by decide) ?_
      refine lv_isub hx hb d_CP_takeHeaders_56 ?_
      obtain ⟨hin57, h⟩ := cz_ck h
      refine cp_aaG8 S hP hin57 d_CP_takeHeaders_57 ?_
      obtain ⟨r58, M58, hq58, h⟩ := cz_ubi h
      refine iv_CP_150 (rest := [.int (M31.1 (61 + v1.toNatClampNeg) (0 : Int32).toNatClampNeg)]) S hl.1 hP hS (c_CP_hashOf l hD M31 (61 + (v1 - (1 : Int32)).toNatClampNeg) (cp_r61 hin57) hq58) ⟨Nat.le_of_ble_eq_true rfl, Nat.le_of_ble_eq_true rfl⟩ (Nat.le_of_ble_eq_true rfl) rfl d_CP_takeHeaders_58 (fun H locs hP hS => ?_)
      refine lv_icmp_ne (tgt := 68) hx hb d_CP_takeHeaders_61 rfl (fun hc => ?_) (fun hc => ?_)
      · have h := cz_f hc h
        refine lv_iconst (v := 0) hx hb d_CP_takeHeaders_68 (by decide) ?_
        exact hb69 M58 v1 (61 + v1.toNatClampNeg) (0 : Int32) h _ _ _ hP hS (lv_sub hl [1, 2, 0] rfl) (cp_r61 hin21)
      have h := cz_t hc h
      exact hb64 M58 v1 (61 + v1.toNatClampNeg) h _ _ _ hP hS (lv_sub hl [1, 2, 0] rfl) (cp_r61 hin21)
    have h := cz_f hc h
    refine lv_goto (tgt := 107) hx hb d_CP_takeHeaders_37 rfl ?_
    exact hb107 M31 v1 h _ _ _ hP hS (lv_sub hl [1, 2] rfl)
  refine lv_iconst (v := 0) hx hb d_CP_takeHeaders_0 (by decide) ?_
  refine lv_istore_n (lv' := [(1, .int (0 : Int32)), (0, .ref (X.2.1 0))]) hx hb d_CP_takeHeaders_1 rfl hl (by decide) rfl (fun ls hl => ?_)
  exact hb2 _ M (0 : Int32) h _ _ _ hP hS (lv_sub hl [1, 0] rfl)
set_option maxHeartbeats 4000000 in
set_option maxRecDepth 100000 in
theorem c_CP_readHeaders (l : Launch) {X : cz_X} {A : Nat → Prop} (hD : ∀ M, va_D A (cp_wl X M)) (M : cz_M) (a1 : Nat) (k1 : cp_Q a1) {r2 : Int32} {M2 : cz_M} (h : f_CP_readHeaders M a1 = some (r2, M2)) : cp_Ct l X A y_CP_readHeaders (Cond.code y_CP_readHeaders b_CP_readHeaders 4 (some .int) :: cz_T) rm_CP_readHeaders [.ref (X.2.1 0), .ref (X.2.1 a1)] M (some (.int r2)) M2 := by
  refine cz_Met (by decide) rfl (Nat.le_of_ble_eq_true rfl) hD ?_
  intro p e s m args below meth c hargs S hr hlocks hP ls hl
  have S : cz_Cx p m c b_CP_readHeaders 4 s args cz_T "ChainPeers" X.1 cp_cl (cp_tys X) cz_N A (cp_wl X) := S
  have hx := S.1.1
  have hb := S.1.2.1
  have hS : va_S A s.heap s.heap [] := va_S.rf
  have hl : lv_has ls 4 [(0, .ref (X.2.1 0)), (1, .ref (X.2.1 a1))] := hl
  have hb103 : ∀ (M : cz_M), b_CP_readHeaders_103 a1 M = some (r2, M2) → ∀ (H : Heap) (locs : List Loc) (ls : Array Slot), va_P X.1 cp_cl (cp_wl X M) H → va_S A s.heap H locs → lv_has ls 4 [(0, .ref (X.2.1 0)), (1, .ref (X.2.1 a1))] → W p l e rm_CP_readHeaders s m args below meth c H locs 0 0 (MQ below (cz_Qw X.1 cp_cl (some (.int r2)) (cp_wl X M2) A) args s 0 0 A) (F0 m 103 ls []) := by
    intro M h H locs ls hP hS hl
    refine lv_aload_n hx hb d_CP_readHeaders_103 rfl (lv_at hl 0 rfl) ?_
    obtain ⟨r104, M104, hq104, h⟩ := cz_ubi h
    refine iv_CP_237 (rest := []) S hl.1 hP hS (c_CP_takeHeaders l hD M hq104) ⟨Nat.le_of_ble_eq_true rfl, Nat.le_of_ble_eq_true rfl⟩ (Nat.le_of_ble_eq_true rfl) rfl d_CP_readHeaders_104 (fun H locs hP hS => ?_)
    refine lv_if_ne (tgt := 112) hx hb d_CP_readHeaders_107 rfl (fun hc => ?_) (fun hc => ?_)
    · have h := cz_f hc h
      refine lv_aload_n hx hb d_CP_readHeaders_112 rfl (lv_at hl 1 rfl) ?_
      refine lv_iconst (v := 0) hx hb d_CP_readHeaders_113 (by decide) ?_
      refine pf_CP_234 S hP hS k1 d_CP_readHeaders_114 (fun H locs hP hS => ?_)
      refine lv_aload_n hx hb d_CP_readHeaders_117 rfl (lv_at hl 1 rfl) ?_
      obtain ⟨M118, hq118, h⟩ := cz_ubv h
      refine iv_CP_240 (rest := []) S hl.1 hP hS (c_Peer_merit l hD (cz_i M104 a1 3 (0 : Int32)) a1 k1 hq118) k1 ⟨Nat.le_of_ble_eq_true rfl, Nat.le_of_ble_eq_true rfl⟩ (Nat.le_of_ble_eq_true rfl) rfl d_CP_readHeaders_118 (fun H locs hP hS => ?_)
      refine lv_iconst (v := 0) hx hb d_CP_readHeaders_121 (by decide) ?_
      exact cz_ireth S hr hlocks hP hS h d_CP_readHeaders_122
    have h := cz_t hc h
    refine lv_iconst (v := 2) hx hb d_CP_readHeaders_110 (by decide) ?_
    exact cz_ireth S hr hlocks hP hS h d_CP_readHeaders_111
  refine lv_aload_n hx hb d_CP_readHeaders_0 rfl (lv_at hl 1 rfl) ?_
  refine lv_iconst (v := 1) hx hb d_CP_readHeaders_1 (by decide) ?_
  refine lv_aload_n hx hb d_CP_readHeaders_2 rfl (lv_at hl 0 rfl) ?_
  refine gf_CP_22 S hP d_CP_readHeaders_3 ?_
  refine gf_CP_216 S hP d_CP_readHeaders_6 ?_
  obtain ⟨r9, M9, hq9, h⟩ := cz_ubi h
  refine iv_CP_219 (rest := []) S hl.1 hP hS (c_Peer_wasAsked l hD M a1 (1 : Int32) (M.1 16 3) k1 hq9) k1 ⟨Nat.le_of_ble_eq_true rfl, Nat.le_of_ble_eq_true rfl⟩ (Nat.le_of_ble_eq_true rfl) rfl d_CP_readHeaders_9 (fun H locs hP hS => ?_)
  refine lv_if_ne (tgt := 17) hx hb d_CP_readHeaders_12 rfl (fun hc => ?_) (fun hc => ?_)
  · have h := cz_f hc h
    refine lv_aload_n hx hb d_CP_readHeaders_17 rfl (lv_at hl 1 rfl) ?_
    refine gf_CP_222 S hP k1 d_CP_readHeaders_18 ?_
    refine lv_istore_n (lv' := [(2, .int (M9.1 a1 6)), (0, .ref (X.2.1 0)), (1, .ref (X.2.1 a1))]) hx hb d_CP_readHeaders_21 rfl hl (by decide) rfl (fun ls hl => ?_)
    refine lv_aload_n hx hb d_CP_readHeaders_22 rfl (lv_at hl 2 rfl) ?_
    obtain ⟨M23, hq23, h⟩ := cz_ubv h
    refine iv_CP_225 (rest := []) S hl.1 hP hS (c_Peer_dropRequest l hD M9 a1 k1 hq23) k1 ⟨Nat.le_of_ble_eq_true rfl, Nat.le_of_ble_eq_true rfl⟩ (Nat.le_of_ble_eq_true rfl) rfl d_CP_readHeaders_23 (fun H locs hP hS => ?_)
    refine lv_aload_n hx hb d_CP_readHeaders_26 rfl (lv_at hl 1 rfl) ?_
    refine gf_CP_22 S hP d_CP_readHeaders_27 ?_
    refine gf_CP_228 S hP d_CP_readHeaders_30 ?_
    refine lv_if_ne (tgt := 45) hx hb d_CP_readHeaders_33 rfl (fun hc => ?_) (fun hc => ?_)
    · have h := cz_f hc h
      refine lv_aload_n hx hb d_CP_readHeaders_45 rfl (lv_at hl 1 rfl) ?_
      refine gf_CP_22 S hP d_CP_readHeaders_46 ?_
      refine gf_CP_231 S hP d_CP_readHeaders_49 ?_
      refine lv_iconst (v := 0) hx hb d_CP_readHeaders_52 (by decide) ?_
      obtain ⟨hin53, h⟩ := cz_ck h
      refine cp_aaG8 S hP hin53 d_CP_readHeaders_53 ?_
      refine lv_astore_n (lv' := [(3, .ref (X.2.1 (61 + (0 : Int32).toNatClampNeg))), (2, .int (M9.1 a1 6)), (0, .ref (X.2.1 0)), (1, .ref (X.2.1 a1))]) hx hb d_CP_readHeaders_54 rfl hl (by decide) rfl (fun ls hl => ?_)
      refine lv_aload_n hx hb d_CP_readHeaders_55 rfl (lv_at hl 0 rfl) ?_
      refine lv_iconst (v := 1) hx hb d_CP_readHeaders_56 (by decide) ?_
      obtain ⟨hin57, h⟩ := cz_ck h
      refine cp_ia S hP (cp_r61 hin53) hin57 d_CP_readHeaders_57 ?_
      refine lv_iload_n hx hb d_CP_readHeaders_58 rfl (lv_at hl 1 rfl) ?_
      refine lv_icmp_eq (tgt := 64) hx hb d_CP_readHeaders_59 rfl (fun hc => ?_) (fun hc => ?_)
      · have h := cz_t hc h
        refine lv_aload_n hx hb d_CP_readHeaders_64 rfl (lv_at hl 2 rfl) ?_
        refine gf_CP_29 S hP d_CP_readHeaders_65 ?_
        refine lv_aload_n hx hb d_CP_readHeaders_68 rfl (lv_at hl 0 rfl) ?_
        obtain ⟨r69, M69, hq69, h⟩ := cz_ubi h
        refine iv_CP_150 (rest := [.ref (X.2.1 19)]) S hl.1 hP hS (c_CP_hashOf l hD M23 (61 + (0 : Int32).toNatClampNeg) (cp_r61 hin53) hq69) ⟨Nat.le_of_ble_eq_true rfl, Nat.le_of_ble_eq_true rfl⟩ (Nat.le_of_ble_eq_true rfl) rfl d_CP_readHeaders_69 (fun H locs hP hS => ?_)
        obtain ⟨r72, M72, hq72, h⟩ := cz_ubi h
        refine iv_CP_154 (rest := []) S hl.1 hP hS (c_Blocks_isKnown l hD M69 r69 hq72) ⟨Nat.le_of_ble_eq_true rfl, Nat.le_of_ble_eq_true rfl⟩ (Nat.le_of_ble_eq_true rfl) rfl d_CP_readHeaders_72 (fun H locs hP hS => ?_)
        refine lv_if_ne (tgt := 103) hx hb d_CP_readHeaders_75 rfl (fun hc => ?_) (fun hc => ?_)
        · have h := cz_f hc h
          exact hb103 M72 h _ _ _ hP hS (lv_sub hl [2, 3] rfl)
        have h := cz_t hc h
        refine lv_aload_n hx hb d_CP_readHeaders_78 rfl (lv_at hl 2 rfl) ?_
        refine gf_CP_29 S hP d_CP_readHeaders_79 ?_
        refine lv_aload_n hx hb d_CP_readHeaders_82 rfl (lv_at hl 0 rfl) ?_
        refine lv_iconst (v := 0) hx hb d_CP_readHeaders_83 (by decide) ?_
        obtain ⟨hin84, h⟩ := cz_ck h
        refine cp_ia S hP (cp_r61 hin53) hin84 d_CP_readHeaders_84 ?_
        obtain ⟨r85, M85, hq85, h⟩ := cz_ubi h
        refine iv_CP_154 (rest := []) S hl.1 hP hS (c_Blocks_isKnown l hD M72 (M72.1 (61 + (0 : Int32).toNatClampNeg) (0 : Int32).toNatClampNeg) hq85) ⟨Nat.le_of_ble_eq_true rfl, Nat.le_of_ble_eq_true rfl⟩ (Nat.le_of_ble_eq_true rfl) rfl d_CP_readHeaders_85 (fun H locs hP hS => ?_)
        refine lv_if_ne (tgt := 103) hx hb d_CP_readHeaders_88 rfl (fun hc => ?_) (fun hc => ?_)
        · have h := cz_f hc h
          exact hb103 M85 h _ _ _ hP hS (lv_sub hl [2, 3] rfl)
        have h := cz_t hc h
        refine lv_aload_n hx hb d_CP_readHeaders_91 rfl (lv_at hl 3 rfl) ?_
        refine lv_dup hx hb d_CP_readHeaders_92 rfl ?_
        refine gf_CP_234 S hP k1 d_CP_readHeaders_93 ?_
        refine lv_iconst (v := 1) hx hb d_CP_readHeaders_96 (by decide) ?_
        refine lv_iadd hx hb d_CP_readHeaders_97 ?_
        refine pf_CP_234 S hP hS k1 d_CP_readHeaders_98 (fun H locs hP hS => ?_)
        refine lv_iconst (v := 0) hx hb d_CP_readHeaders_101 (by decide) ?_
        exact cz_ireth S hr hlocks hP hS h d_CP_readHeaders_102
      have h := cz_f hc h
      refine lv_iconst (v := 2) hx hb d_CP_readHeaders_62 (by decide) ?_
      exact cz_ireth S hr hlocks hP hS h d_CP_readHeaders_63
    have h := cz_t hc h
    refine lv_aload_n hx hb d_CP_readHeaders_36 rfl (lv_at hl 2 rfl) ?_
    refine lv_iload_n hx hb d_CP_readHeaders_37 rfl (lv_at hl 0 rfl) ?_
    refine lv_iconst (v := 1) hx hb d_CP_readHeaders_38 (by decide) ?_
    refine lv_isub hx hb d_CP_readHeaders_39 ?_
    refine pf_CP_203 S hP hS k1 d_CP_readHeaders_40 (fun H locs hP hS => ?_)
    refine lv_iconst (v := 0) hx hb d_CP_readHeaders_43 (by decide) ?_
    exact cz_ireth S hr hlocks hP hS h d_CP_readHeaders_44
  have h := cz_t hc h
  refine lv_iconst (v := 1) hx hb d_CP_readHeaders_15 (by decide) ?_
  exact cz_ireth S hr hlocks hP hS h d_CP_readHeaders_16
set_option maxHeartbeats 4000000 in
set_option maxRecDepth 100000 in
theorem c_CP_sendBody (l : Launch) {X : cz_X} {A : Nat → Prop} (hD : ∀ M, va_D A (cp_wl X M)) (M : cz_M) (a1 : Nat) (k1 : cp_Q a1) {M2 : cz_M} (h : f_CP_sendBody M a1 = some M2) : cp_Ct l X A y_CP_sendBody (Cond.code y_CP_sendBody b_CP_sendBody 5 none :: cz_T) rm_CP_sendBody [.ref (X.2.1 0), .ref (X.2.1 a1)] M none M2 := by
  refine cz_Met (by decide) rfl (Nat.le_of_ble_eq_true rfl) hD ?_
  intro p e s m args below meth c hargs S hr hlocks hP ls hl
  have S : cz_Cx p m c b_CP_sendBody 5 s args cz_T "ChainPeers" X.1 cp_cl (cp_tys X) cz_N A (cp_wl X) := S
  have hx := S.1.1
  have hb := S.1.2.1
  have hS : va_S A s.heap s.heap [] := va_S.rf
  have hl : lv_has ls 5 [(0, .ref (X.2.1 0)), (1, .ref (X.2.1 a1))] := hl
  have hb104 : ∀ (M : cz_M) (v3 : Int32), b_CP_sendBody_104 a1 M v3 = some M2 → ∀ (H : Heap) (locs : List Loc) (ls : Array Slot), va_P X.1 cp_cl (cp_wl X M) H → va_S A s.heap H locs → lv_has ls 5 [(0, .ref (X.2.1 0)), (1, .ref (X.2.1 a1)), (3, .int v3)] → W p l e rm_CP_sendBody s m args below meth c H locs 0 0 (MQ below (cz_Qw X.1 cp_cl none (cp_wl X M2) A) args s 0 0 A) (F0 m 104 ls []) := by
    intro M v3 h H locs ls hP hS hl
    refine lv_aload_n hx hb d_CP_sendBody_104 rfl (lv_at hl 0 rfl) ?_
    refine gf_CP_16 S hP d_CP_sendBody_105 ?_
    refine lv_iload_n hx hb d_CP_sendBody_108 rfl (lv_at hl 2 rfl) ?_
    obtain ⟨M109, hq109, h⟩ := cz_ubv h
    refine iv_CP_269 (rest := []) S hl.1 hP hS (c_Bytes_endList l hD M 12 v3 cp_k12 hq109) cp_k12 ⟨Nat.le_of_ble_eq_true rfl, Nat.le_of_ble_eq_true rfl⟩ (Nat.le_of_ble_eq_true rfl) rfl d_CP_sendBody_109 (fun H locs hP hS => ?_)
    refine lv_aload_n hx hb d_CP_sendBody_112 rfl (lv_at hl 0 rfl) ?_
    refine lv_aload_n hx hb d_CP_sendBody_113 rfl (lv_at hl 1 rfl) ?_
    obtain ⟨M114, hq114, h⟩ := cz_ubv h
    refine iv_CP_253 (rest := []) S hl.1 hP hS (c_CP_sendDraft l hD M109 a1 k1 hq114) ⟨Nat.le_of_ble_eq_true rfl, Nat.le_of_ble_eq_true rfl⟩ (Nat.le_of_ble_eq_true rfl) rfl d_CP_sendBody_114 (fun H locs hP hS => ?_)
    exact cz_vreth S hr hlocks hP hS h d_CP_sendBody_117
  have hb65 : ∀ (n : Nat) (M : cz_M) (v2 : Int32) (v3 : Int32) (v4 : Int32), cz_lp4 (l_CP_sendBody_65 a1) n M v2 v3 v4 = some M2 → ∀ (H : Heap) (locs : List Loc) (ls : Array Slot), va_P X.1 cp_cl (cp_wl X M) H → va_S A s.heap H locs → lv_has ls 5 [(0, .ref (X.2.1 0)), (1, .ref (X.2.1 a1)), (2, .int v2), (3, .int v3), (4, .int v4)] → W p l e rm_CP_sendBody s m args below meth c H locs 0 0 (MQ below (cz_Qw X.1 cp_cl none (cp_wl X M2) A) args s 0 0 A) (F0 m 65 ls []) := by
    refine cz_ind4 (fun rec65 ih65 M v2 v3 v4 h H locs ls hP hS hl => ?_)
    refine lv_iload hx hb d_CP_sendBody_65 (lv_at hl 4 rfl) ?_
    refine lv_aload_n hx hb d_CP_sendBody_67 rfl (lv_at hl 0 rfl) ?_
    refine gf_CP_29 S hP d_CP_sendBody_68 ?_
    refine gf_CP_281 S hP d_CP_sendBody_71 ?_
    refine lv_iload_n hx hb d_CP_sendBody_74 rfl (lv_at hl 2 rfl) ?_
    obtain ⟨hin75, h⟩ := cz_ck h
    refine cp_ia S hP cp_k25 hin75 d_CP_sendBody_75 ?_
    refine lv_icmp_ge (tgt := 104) hx hb d_CP_sendBody_76 rfl (fun hc => ?_) (fun hc => ?_)
    · have h := cz_t hc h
      exact hb104 M v3 h _ _ _ hP hS (lv_sub hl [0, 1, 3] rfl)
    have h := cz_f hc h
    refine lv_aload_n hx hb d_CP_sendBody_79 rfl (lv_at hl 0 rfl) ?_
    refine gf_CP_16 S hP d_CP_sendBody_80 ?_
    refine lv_aload_n hx hb d_CP_sendBody_83 rfl (lv_at hl 0 rfl) ?_
    refine gf_CP_29 S hP d_CP_sendBody_84 ?_
    refine gf_CP_180 S hP d_CP_sendBody_87 ?_
    refine lv_iload_n hx hb d_CP_sendBody_90 rfl (lv_at hl 2 rfl) ?_
    obtain ⟨hin91, h⟩ := cz_ck h
    refine cp_aaGB S hP hin91 d_CP_sendBody_91 ?_
    refine lv_iload hx hb d_CP_sendBody_92 (lv_at hl 4 rfl) ?_
    obtain ⟨hin94, h⟩ := cz_ck h
    refine cp_ia S hP (cp_r89 hin91) hin94 d_CP_sendBody_94 ?_
    obtain ⟨M95, hq95, h⟩ := cz_ubv h
    refine iv_CP_250 (rest := []) S hl.1 hP hS (c_Bytes_addNumber l hD M 12 (M.1 (89 + v2.toNatClampNeg) v4.toNatClampNeg) cp_k12 hq95) cp_k12 ⟨Nat.le_of_ble_eq_true rfl, Nat.le_of_ble_eq_true rfl⟩ (Nat.le_of_ble_eq_true rfl) rfl d_CP_sendBody_95 (fun H locs hP hS => ?_)
    refine lv_iinc (lv' := [(4, .int (v4 + 1)), (0, .ref (X.2.1 0)), (1, .ref (X.2.1 a1)), (2, .int v2), (3, .int v3)]) (v := v4 + 1) (k := 4) hx hb d_CP_sendBody_98 hl rfl (cz_inc1 _) (by decide) rfl (fun ls hl => ?_)
    refine lv_goto (tgt := 65) hx hb d_CP_sendBody_101 rfl ?_
    exact ih65 M95 v2 v3 (v4 + 1) h _ _ _ hP hS (lv_sub hl [1, 2, 3, 4, 0] rfl)
  refine lv_aload_n hx hb d_CP_sendBody_0 rfl (lv_at hl 0 rfl) ?_
  refine gf_CP_29 S hP d_CP_sendBody_1 ?_
  refine lv_aload_n hx hb d_CP_sendBody_4 rfl (lv_at hl 0 rfl) ?_
  refine gf_CP_22 S hP d_CP_sendBody_5 ?_
  refine gf_CP_272 S hP d_CP_sendBody_8 ?_
  obtain ⟨r11, M11, hq11, h⟩ := cz_ubi h
  refine iv_CP_275 (rest := []) S hl.1 hP hS (c_Blocks_find l hD M (M.1 16 6) hq11) ⟨Nat.le_of_ble_eq_true rfl, Nat.le_of_ble_eq_true rfl⟩ (Nat.le_of_ble_eq_true rfl) rfl d_CP_sendBody_11 (fun H locs hP hS => ?_)
  refine lv_istore_n (lv' := [(2, .int r11), (0, .ref (X.2.1 0)), (1, .ref (X.2.1 a1))]) hx hb d_CP_sendBody_14 rfl hl (by decide) rfl (fun ls hl => ?_)
  refine lv_iload_n hx hb d_CP_sendBody_15 rfl (lv_at hl 0 rfl) ?_
  refine lv_iconst (v := -1) hx hb d_CP_sendBody_16 (by decide) ?_
  refine lv_icmp_eq (tgt := 31) hx hb d_CP_sendBody_17 rfl (fun hc => ?_) (fun hc => ?_)
  · have h := cz_t hc h
    exact cz_vreth S hr hlocks hP hS h d_CP_sendBody_31
  have h := cz_f hc h
  refine lv_aload_n hx hb d_CP_sendBody_20 rfl (lv_at hl 1 rfl) ?_
  refine gf_CP_29 S hP d_CP_sendBody_21 ?_
  refine lv_iload_n hx hb d_CP_sendBody_24 rfl (lv_at hl 0 rfl) ?_
  obtain ⟨r25, M25, hq25, h⟩ := cz_ubi h
  refine iv_CP_278 (rest := []) S hl.1 hP hS (c_Blocks_hasBody l hD M11 r11 hq25) ⟨Nat.le_of_ble_eq_true rfl, Nat.le_of_ble_eq_true rfl⟩ (Nat.le_of_ble_eq_true rfl) rfl d_CP_sendBody_25 (fun H locs hP hS => ?_)
  refine lv_if_ne (tgt := 32) hx hb d_CP_sendBody_28 rfl (fun hc => ?_) (fun hc => ?_)
  · have h := cz_f hc h
    refine lv_aload_n hx hb d_CP_sendBody_32 rfl (lv_at hl 1 rfl) ?_
    refine gf_CP_16 S hP d_CP_sendBody_33 ?_
    refine lv_iconst (v := 4) hx hb d_CP_sendBody_36 (by decide) ?_
    obtain ⟨M37, hq37, h⟩ := cz_ubv h
    refine iv_CP_247 (rest := []) S hl.1 hP hS (c_Bytes_begin l hD M25 12 (4 : Int32) cp_k12 hq37) cp_k12 ⟨Nat.le_of_ble_eq_true rfl, Nat.le_of_ble_eq_true rfl⟩ (Nat.le_of_ble_eq_true rfl) rfl d_CP_sendBody_37 (fun H locs hP hS => ?_)
    refine lv_aload_n hx hb d_CP_sendBody_40 rfl (lv_at hl 1 rfl) ?_
    refine gf_CP_16 S hP d_CP_sendBody_41 ?_
    refine lv_aload_n hx hb d_CP_sendBody_44 rfl (lv_at hl 1 rfl) ?_
    refine gf_CP_22 S hP d_CP_sendBody_45 ?_
    refine gf_CP_216 S hP d_CP_sendBody_48 ?_
    obtain ⟨M51, hq51, h⟩ := cz_ubv h
    refine iv_CP_250 (rest := []) S hl.1 hP hS (c_Bytes_addNumber l hD M37 12 (M37.1 16 3) cp_k12 hq51) cp_k12 ⟨Nat.le_of_ble_eq_true rfl, Nat.le_of_ble_eq_true rfl⟩ (Nat.le_of_ble_eq_true rfl) rfl d_CP_sendBody_51 (fun H locs hP hS => ?_)
    refine lv_aload_n hx hb d_CP_sendBody_54 rfl (lv_at hl 1 rfl) ?_
    refine gf_CP_16 S hP d_CP_sendBody_55 ?_
    obtain ⟨r58, M58, hq58, h⟩ := cz_ubi h
    refine iv_CP_256 (rest := []) S hl.1 hP hS (c_Bytes_beginList l hD M51 12 cp_k12 hq58) cp_k12 ⟨Nat.le_of_ble_eq_true rfl, Nat.le_of_ble_eq_true rfl⟩ (Nat.le_of_ble_eq_true rfl) rfl d_CP_sendBody_58 (fun H locs hP hS => ?_)
    refine lv_istore_n (lv' := [(3, .int r58), (2, .int r11), (0, .ref (X.2.1 0)), (1, .ref (X.2.1 a1))]) hx hb d_CP_sendBody_61 rfl hl (by decide) rfl (fun ls hl => ?_)
    refine lv_iconst (v := 0) hx hb d_CP_sendBody_62 (by decide) ?_
    refine lv_istore (lv' := [(4, .int (0 : Int32)), (3, .int r58), (2, .int r11), (0, .ref (X.2.1 0)), (1, .ref (X.2.1 a1))]) hx hb d_CP_sendBody_63 hl (by decide) rfl (fun ls hl => ?_)
    exact hb65 _ M58 r11 r58 (0 : Int32) h _ _ _ hP hS (lv_sub hl [3, 4, 2, 1, 0] rfl)
  have h := cz_t hc h
  exact cz_vreth S hr hlocks hP hS h d_CP_sendBody_31
set_option maxHeartbeats 4000000 in
set_option maxRecDepth 100000 in
theorem c_CP_rootOf (l : Launch) {X : cz_X} {A : Nat → Prop} (hD : ∀ M, va_D A (cp_wl X M)) (M : cz_M) (a0 : Nat) (a1 : Int32) (k0 : cp_I a0) {r2 : Int32} {M2 : cz_M} (h : f_CP_rootOf M a0 a1 = some (r2, M2)) : cp_Ct l X A y_CP_rootOf (Cond.code y_CP_rootOf b_CP_rootOf 2 (some .int) :: cz_T) rm_CP_rootOf [.ref (X.2.1 a0), .int a1] M (some (.int r2)) M2 := by
  refine cz_Met (by decide) rfl (Nat.le_of_ble_eq_true rfl) hD ?_
  intro p e s m args below meth c hargs S hr hlocks hP ls hl
  have S : cz_Cx p m c b_CP_rootOf 2 s args cz_T "ChainPeers" X.1 cp_cl (cp_tys X) cz_N A (cp_wl X) := S
  have hx := S.1.1
  have hb := S.1.2.1
  have hS : va_S A s.heap s.heap [] := va_S.rf
  have hl : lv_has ls 2 [(0, .ref (X.2.1 a0)), (1, .int a1)] := hl
  refine lv_iload_n hx hb d_CP_rootOf_0 rfl (lv_at hl 1 rfl) ?_
  refine lv_aload_n hx hb d_CP_rootOf_1 rfl (lv_at hl 0 rfl) ?_
  refine lv_iload_n hx hb d_CP_rootOf_2 rfl (lv_at hl 1 rfl) ?_
  obtain ⟨r3, M3, hq3, h⟩ := cz_ubi h
  refine iv_CP_190 (rest := []) S hl.1 hP hS (c_CP_mix l hD M a1 a0 a1 k0 hq3) ⟨Nat.le_of_ble_eq_true rfl, Nat.le_of_ble_eq_true rfl⟩ (Nat.le_of_ble_eq_true rfl) rfl d_CP_rootOf_3 (fun H locs hP hS => ?_)
  exact cz_ireth S hr hlocks hP hS h d_CP_rootOf_6
set_option maxHeartbeats 4000000 in
set_option maxRecDepth 100000 in
theorem c_CP_readBody (l : Launch) {X : cz_X} {A : Nat → Prop} (hD : ∀ M, va_D A (cp_wl X M)) (M : cz_M) (a1 : Nat) (k1 : cp_Q a1) {r2 : Int32} {M2 : cz_M} (h : f_CP_readBody M a1 = some (r2, M2)) : cp_Ct l X A y_CP_readBody (Cond.code y_CP_readBody b_CP_readBody 3 (some .int) :: cz_T) rm_CP_readBody [.ref (X.2.1 0), .ref (X.2.1 a1)] M (some (.int r2)) M2 := by
  refine cz_Met (by decide) rfl (Nat.le_of_ble_eq_true rfl) hD ?_
  intro p e s m args below meth c hargs S hr hlocks hP ls hl
  have S : cz_Cx p m c b_CP_readBody 3 s args cz_T "ChainPeers" X.1 cp_cl (cp_tys X) cz_N A (cp_wl X) := S
  have hx := S.1.1
  have hb := S.1.2.1
  have hS : va_S A s.heap s.heap [] := va_S.rf
  have hl : lv_has ls 3 [(0, .ref (X.2.1 0)), (1, .ref (X.2.1 a1))] := hl
  refine lv_aload_n hx hb d_CP_readBody_0 rfl (lv_at hl 1 rfl) ?_
  refine lv_iconst (v := 3) hx hb d_CP_readBody_1 (by decide) ?_
  refine lv_aload_n hx hb d_CP_readBody_2 rfl (lv_at hl 0 rfl) ?_
  refine gf_CP_22 S hP d_CP_readBody_3 ?_
  refine gf_CP_216 S hP d_CP_readBody_6 ?_
  obtain ⟨r9, M9, hq9, h⟩ := cz_ubi h
  refine iv_CP_219 (rest := []) S hl.1 hP hS (c_Peer_wasAsked l hD M a1 (3 : Int32) (M.1 16 3) k1 hq9) k1 ⟨Nat.le_of_ble_eq_true rfl, Nat.le_of_ble_eq_true rfl⟩ (Nat.le_of_ble_eq_true rfl) rfl d_CP_readBody_9 (fun H locs hP hS => ?_)
  refine lv_if_ne (tgt := 17) hx hb d_CP_readBody_12 rfl (fun hc => ?_) (fun hc => ?_)
  · have h := cz_f hc h
    refine lv_aload_n hx hb d_CP_readBody_17 rfl (lv_at hl 1 rfl) ?_
    refine gf_CP_222 S hP k1 d_CP_readBody_18 ?_
    refine lv_istore_n (lv' := [(2, .int (M9.1 a1 6)), (0, .ref (X.2.1 0)), (1, .ref (X.2.1 a1))]) hx hb d_CP_readBody_21 rfl hl (by decide) rfl (fun ls hl => ?_)
    refine lv_aload_n hx hb d_CP_readBody_22 rfl (lv_at hl 2 rfl) ?_
    obtain ⟨M23, hq23, h⟩ := cz_ubv h
    refine iv_CP_225 (rest := []) S hl.1 hP hS (c_Peer_dropRequest l hD M9 a1 k1 hq23) k1 ⟨Nat.le_of_ble_eq_true rfl, Nat.le_of_ble_eq_true rfl⟩ (Nat.le_of_ble_eq_true rfl) rfl d_CP_readBody_23 (fun H locs hP hS => ?_)
    refine lv_aload_n hx hb d_CP_readBody_26 rfl (lv_at hl 1 rfl) ?_
    refine gf_CP_22 S hP d_CP_readBody_27 ?_
    refine gf_CP_243 S hP d_CP_readBody_30 ?_
    refine lv_aload_n hx hb d_CP_readBody_33 rfl (lv_at hl 1 rfl) ?_
    refine gf_CP_22 S hP d_CP_readBody_34 ?_
    refine gf_CP_228 S hP d_CP_readBody_37 ?_
    obtain ⟨r40, M40, hq40, h⟩ := cz_ubi h
    refine iv_CP_142 (rest := []) S hl.1 hP hS (c_CP_rootOf l hD M23 18 (M23.1 16 7) cp_k18 hq40) ⟨Nat.le_of_ble_eq_true rfl, Nat.le_of_ble_eq_true rfl⟩ (Nat.le_of_ble_eq_true rfl) rfl d_CP_readBody_40 (fun H locs hP hS => ?_)
    refine lv_aload_n hx hb d_CP_readBody_43 rfl (lv_at hl 1 rfl) ?_
    refine gf_CP_29 S hP d_CP_readBody_44 ?_
    refine gf_CP_246 S hP d_CP_readBody_47 ?_
    refine lv_iload_n hx hb d_CP_readBody_50 rfl (lv_at hl 0 rfl) ?_
    obtain ⟨hin51, h⟩ := cz_ck h
    refine cp_aaGH S hP hin51 d_CP_readBody_51 ?_
    refine lv_iconst (v := 4) hx hb d_CP_readBody_52 (by decide) ?_
    obtain ⟨hin53, h⟩ := cz_ck h
    refine cp_ia S hP (cp_r69 hin51) hin53 d_CP_readBody_53 ?_
    refine lv_icmp_eq (tgt := 59) hx hb d_CP_readBody_54 rfl (fun hc => ?_) (fun hc => ?_)
    · have h := cz_t hc h
      refine lv_aload_n hx hb d_CP_readBody_59 rfl (lv_at hl 1 rfl) ?_
      refine gf_CP_29 S hP d_CP_readBody_60 ?_
      refine lv_iload_n hx hb d_CP_readBody_63 rfl (lv_at hl 0 rfl) ?_
      refine lv_aload_n hx hb d_CP_readBody_64 rfl (lv_at hl 1 rfl) ?_
      refine gf_CP_22 S hP d_CP_readBody_65 ?_
      refine gf_CP_243 S hP d_CP_readBody_68 ?_
      refine lv_aload_n hx hb d_CP_readBody_71 rfl (lv_at hl 1 rfl) ?_
      refine gf_CP_22 S hP d_CP_readBody_72 ?_
      refine gf_CP_228 S hP d_CP_readBody_75 ?_
      obtain ⟨M78, hq78, h⟩ := cz_ubv h
      refine iv_CP_167 (rest := []) S hl.1 hP hS (c_Blocks_setBody l hD M40 (M9.1 a1 6) 18 (M40.1 16 7) cp_k18 hq78) ⟨Nat.le_of_ble_eq_true rfl, Nat.le_of_ble_eq_true rfl⟩ (Nat.le_of_ble_eq_true rfl) rfl d_CP_readBody_78 (fun H locs hP hS => ?_)
      refine lv_aload_n hx hb d_CP_readBody_81 rfl (lv_at hl 2 rfl) ?_
      obtain ⟨M82, hq82, h⟩ := cz_ubv h
      refine iv_CP_240 (rest := []) S hl.1 hP hS (c_Peer_merit l hD M78 a1 k1 hq82) k1 ⟨Nat.le_of_ble_eq_true rfl, Nat.le_of_ble_eq_true rfl⟩ (Nat.le_of_ble_eq_true rfl) rfl d_CP_readBody_82 (fun H locs hP hS => ?_)
      refine lv_iconst (v := 0) hx hb d_CP_readBody_85 (by decide) ?_
      exact cz_ireth S hr hlocks hP hS h d_CP_readBody_86
    have h := cz_f hc h
    refine lv_iconst (v := 2) hx hb d_CP_readBody_57 (by decide) ?_
    exact cz_ireth S hr hlocks hP hS h d_CP_readBody_58
  have h := cz_t hc h
  refine lv_iconst (v := 1) hx hb d_CP_readBody_15 (by decide) ?_
  exact cz_ireth S hr hlocks hP hS h d_CP_readBody_16
set_option maxHeartbeats 4000000 in
set_option maxRecDepth 100000 in
theorem c_CP_readReady (l : Launch) {X : cz_X} {A : Nat → Prop} (hD : ∀ M, va_D A (cp_wl X M)) (M : cz_M) (a1 : Nat) (k1 : cp_Q a1) {r2 : Int32} {M2 : cz_M} (h : f_CP_readReady M a1 = some (r2, M2)) : cp_Ct l X A y_CP_readReady (Cond.code y_CP_readReady b_CP_readReady 2 (some .int) :: cz_T) rm_CP_readReady [.ref (X.2.1 0), .ref (X.2.1 a1)] M (some (.int r2)) M2 := by
  refine cz_Met (by decide) rfl (Nat.le_of_ble_eq_true rfl) hD ?_
  intro p e s m args below meth c hargs S hr hlocks hP ls hl
  have S : cz_Cx p m c b_CP_readReady 2 s args cz_T "ChainPeers" X.1 cp_cl (cp_tys X) cz_N A (cp_wl X) := S
  have hx := S.1.1
  have hb := S.1.2.1
  have hS : va_S A s.heap s.heap [] := va_S.rf
  have hl : lv_has ls 2 [(0, .ref (X.2.1 0)), (1, .ref (X.2.1 a1))] := hl
  refine lv_aload_n hx hb d_CP_readReady_0 rfl (lv_at hl 0 rfl) ?_
  refine gf_CP_22 S hP d_CP_readReady_1 ?_
  refine gf_CP_109 S hP d_CP_readReady_4 ?_
  refine (Decidable.em ((M.1 16 0) = (1 : Int32))).elim (fun hc => ?_) (fun hc0 => ?_)
  · have h := cz_t hc h
    refine lv_tableIn (tgt := 40) hx hb d_CP_readReady_7 (by rw [hc]; decide) (by rw [hc]; decide) (by rw [hc]; rfl) rfl ?_
    refine lv_aload_n hx hb d_CP_readReady_40 rfl (lv_at hl 0 rfl) ?_
    refine lv_aload_n hx hb d_CP_readReady_41 rfl (lv_at hl 1 rfl) ?_
    obtain ⟨M42, hq42, h⟩ := cz_ubv h
    refine iv_CP_204 (rest := []) S hl.1 hP hS (c_CP_sendHeaders l hD M a1 k1 hq42) ⟨Nat.le_of_ble_eq_true rfl, Nat.le_of_ble_eq_true rfl⟩ (Nat.le_of_ble_eq_true rfl) rfl d_CP_readReady_42 (fun H locs hP hS => ?_)
    refine lv_iconst (v := 0) hx hb d_CP_readReady_45 (by decide) ?_
    exact cz_ireth S hr hlocks hP hS h d_CP_readReady_46
  have h := cz_f hc0 h
  refine (Decidable.em ((M.1 16 0) = (2 : Int32))).elim (fun hc => ?_) (fun hc1 => ?_)
  · have h := cz_t hc h
    refine lv_tableIn (tgt := 47) hx hb d_CP_readReady_7 (by rw [hc]; decide) (by rw [hc]; decide) (by rw [hc]; rfl) rfl ?_
    refine lv_aload_n hx hb d_CP_readReady_47 rfl (lv_at hl 0 rfl) ?_
    refine lv_aload_n hx hb d_CP_readReady_48 rfl (lv_at hl 1 rfl) ?_
    obtain ⟨r49, M49, hq49, h⟩ := cz_ubi h
    refine iv_CP_207 (rest := []) S hl.1 hP hS (c_CP_readHeaders l hD M a1 k1 hq49) ⟨Nat.le_of_ble_eq_true rfl, Nat.le_of_ble_eq_true rfl⟩ (Nat.le_of_ble_eq_true rfl) rfl d_CP_readReady_49 (fun H locs hP hS => ?_)
    exact cz_ireth S hr hlocks hP hS h d_CP_readReady_52
  have h := cz_f hc1 h
  refine (Decidable.em ((M.1 16 0) = (3 : Int32))).elim (fun hc => ?_) (fun hc2 => ?_)
  · have h := cz_t hc h
    refine lv_tableIn (tgt := 53) hx hb d_CP_readReady_7 (by rw [hc]; decide) (by rw [hc]; decide) (by rw [hc]; rfl) rfl ?_
    refine lv_aload_n hx hb d_CP_readReady_53 rfl (lv_at hl 0 rfl) ?_
    refine lv_aload_n hx hb d_CP_readReady_54 rfl (lv_at hl 1 rfl) ?_
    obtain ⟨M55, hq55, h⟩ := cz_ubv h
    refine iv_CP_210 (rest := []) S hl.1 hP hS (c_CP_sendBody l hD M a1 k1 hq55) ⟨Nat.le_of_ble_eq_true rfl, Nat.le_of_ble_eq_true rfl⟩ (Nat.le_of_ble_eq_true rfl) rfl d_CP_readReady_55 (fun H locs hP hS => ?_)
    refine lv_iconst (v := 0) hx hb d_CP_readReady_58 (by decide) ?_
    exact cz_ireth S hr hlocks hP hS h d_CP_readReady_59
  have h := cz_f hc2 h
  refine (Decidable.em ((M.1 16 0) = (4 : Int32))).elim (fun hc => ?_) (fun hc3 => ?_)
  · have h := cz_t hc h
    refine lv_tableIn (tgt := 60) hx hb d_CP_readReady_7 (by rw [hc]; decide) (by rw [hc]; decide) (by rw [hc]; rfl) rfl ?_
    refine lv_aload_n hx hb d_CP_readReady_60 rfl (lv_at hl 0 rfl) ?_
    refine lv_aload_n hx hb d_CP_readReady_61 rfl (lv_at hl 1 rfl) ?_
    obtain ⟨r62, M62, hq62, h⟩ := cz_ubi h
    refine iv_CP_213 (rest := []) S hl.1 hP hS (c_CP_readBody l hD M a1 k1 hq62) ⟨Nat.le_of_ble_eq_true rfl, Nat.le_of_ble_eq_true rfl⟩ (Nat.le_of_ble_eq_true rfl) rfl d_CP_readReady_62 (fun H locs hP hS => ?_)
    exact cz_ireth S hr hlocks hP hS h d_CP_readReady_65
  have h := cz_f hc3 h
  refine (Decidable.em ((M.1 16 0) = (5 : Int32))).elim (fun hc => ?_) (fun hc4 => ?_)
  · have h := cz_t hc h
    refine lv_tableIn (tgt := 66) hx hb d_CP_readReady_7 (by rw [hc]; decide) (by rw [hc]; decide) (by rw [hc]; rfl) rfl ?_
    refine lv_aload_n hx hb d_CP_readReady_66 rfl (lv_at hl 1 rfl) ?_
    refine lv_iconst (v := 0) hx hb d_CP_readReady_67 (by decide) ?_
    obtain ⟨M68, hq68, h⟩ := cz_ubv h
    refine iv_CP_81 (rest := []) S hl.1 hP hS (c_Peer_leave l hD M a1 (0 : Int32) k1 hq68) k1 ⟨Nat.le_of_ble_eq_true rfl, Nat.le_of_ble_eq_true rfl⟩ (Nat.le_of_ble_eq_true rfl) rfl d_CP_readReady_68 (fun H locs hP hS => ?_)
    refine lv_iconst (v := 0) hx hb d_CP_readReady_71 (by decide) ?_
    exact cz_ireth S hr hlocks hP hS h d_CP_readReady_72
  have h := cz_f hc4 h
  refine lv_tableOut (tgt := 73) hx hb d_CP_readReady_7 (by have e0 := lv_neT (a := 1) hc0 rfl; have e1 := lv_neT (a := 2) hc1 rfl; have e2 := lv_neT (a := 3) hc2 rfl; have e3 := lv_neT (a := 4) hc3 rfl; have e4 := lv_neT (a := 5) hc4 rfl; omega) rfl ?_
  refine lv_iconst (v := 2) hx hb d_CP_readReady_73 (by decide) ?_
  exact cz_ireth S hr hlocks hP hS h d_CP_readReady_74
set_option maxHeartbeats 4000000 in
set_option maxRecDepth 100000 in
theorem c_CP_receive (l : Launch) {X : cz_X} {A : Nat → Prop} (hD : ∀ M, va_D A (cp_wl X M)) (M : cz_M) (a1 : Int32) {r2 : Int32} {M2 : cz_M} (h : f_CP_receive M a1 = some (r2, M2)) : cp_Ct l X A y_CP_receive (Cond.code y_CP_receive b_CP_receive 4 (some .int) :: cz_T) rm_CP_receive [.ref (X.2.1 0), .int a1] M (some (.int r2)) M2 := by
  refine cz_Met (by decide) rfl (Nat.le_of_ble_eq_true rfl) hD ?_
  intro p e s m args below meth c hargs S hr hlocks hP ls hl
  have S : cz_Cx p m c b_CP_receive 4 s args cz_T "ChainPeers" X.1 cp_cl (cp_tys X) cz_N A (cp_wl X) := S
  have hx := S.1.1
  have hb := S.1.2.1
  have hS : va_S A s.heap s.heap [] := va_S.rf
  have hl : lv_has ls 4 [(0, .ref (X.2.1 0)), (1, .int a1)] := hl
  have hb71 : ∀ (M : cz_M) (q2 : Nat) (s0 : Int32), b_CP_receive_71 a1 M q2 s0 = some (r2, M2) → ∀ (H : Heap) (locs : List Loc) (ls : Array Slot), va_P X.1 cp_cl (cp_wl X M) H → va_S A s.heap H locs → lv_has ls 4 [(0, .ref (X.2.1 0)), (2, .ref (X.2.1 q2))] → cp_Q q2 → W p l e rm_CP_receive s m args below meth c H locs 0 0 (MQ below (cz_Qw X.1 cp_cl (some (.int r2)) (cp_wl X M2) A) args s 0 0 A) (F0 m 71 ls [.int s0]) := by
    intro M q2 s0 h H locs ls hP hS hl k2
    refine lv_istore_n (lv' := [(3, .int s0), (0, .ref (X.2.1 0)), (2, .ref (X.2.1 q2))]) hx hb d_CP_receive_71 rfl hl (by decide) rfl (fun ls hl => ?_)
    refine lv_iload_n hx hb d_CP_receive_72 rfl (lv_at hl 0 rfl) ?_
    refine lv_if_ne (tgt := 84) hx hb d_CP_receive_73 rfl (fun hc => ?_) (fun hc => ?_)
    · have h := cz_f hc h
      refine lv_aload_n hx hb d_CP_receive_84 rfl (lv_at hl 2 rfl) ?_
      refine lv_iload_n hx hb d_CP_receive_85 rfl (lv_at hl 0 rfl) ?_
      obtain ⟨M86, hq86, h⟩ := cz_ubv h
      refine iv_CP_99 (rest := []) S hl.1 hP hS (c_Peer_fault l hD M q2 s0 k2 hq86) k2 ⟨Nat.le_of_ble_eq_true rfl, Nat.le_of_ble_eq_true rfl⟩ (Nat.le_of_ble_eq_true rfl) rfl d_CP_receive_86 (fun H locs hP hS => ?_)
      refine lv_bipush (v := -3) hx hb d_CP_receive_89 (by decide) ?_
      exact cz_ireth S hr hlocks hP hS h d_CP_receive_91
    have h := cz_t hc h
    refine lv_aload_n hx hb d_CP_receive_76 rfl (lv_at hl 1 rfl) ?_
    refine gf_CP_22 S hP d_CP_receive_77 ?_
    refine gf_CP_109 S hP d_CP_receive_80 ?_
    exact cz_ireth S hr hlocks hP hS h d_CP_receive_83
  refine lv_iload_n hx hb d_CP_receive_0 rfl (lv_at hl 1 rfl) ?_
  obtain ⟨r1, M1, hq1, h⟩ := cz_ubi h
  refine iv_CP_63 (rest := []) S hl.1 hP hS (c_CP_isPeer l hD M a1 hq1) ⟨Nat.le_of_ble_eq_true rfl, Nat.le_of_ble_eq_true rfl⟩ (Nat.le_of_ble_eq_true rfl) rfl d_CP_receive_1 (fun H locs hP hS => ?_)
  refine lv_if_eq (tgt := 19) hx hb d_CP_receive_4 rfl (fun hc => ?_) (fun hc => ?_)
  · have h := cz_t hc h
    refine lv_iconst (v := -1) hx hb d_CP_receive_19 (by decide) ?_
    exact cz_ireth S hr hlocks hP hS h d_CP_receive_20
  have h := cz_f hc h
  refine lv_aload_n hx hb d_CP_receive_7 rfl (lv_at hl 0 rfl) ?_
  refine gf_CP_35 S hP d_CP_receive_8 ?_
  refine lv_iload_n hx hb d_CP_receive_11 rfl (lv_at hl 1 rfl) ?_
  obtain ⟨hin12, h⟩ := cz_ck h
  refine cp_aaPA S hP hin12 d_CP_receive_12 ?_
  obtain ⟨r13, M13, hq13, h⟩ := cz_ubi h
  refine iv_CP_77 (rest := []) S hl.1 hP hS (c_Peer_isTalking l hD M1 (2 + 2 * a1.toNatClampNeg) (cp_peer hin12) hq13) (cp_peer hin12) ⟨Nat.le_of_ble_eq_true rfl, Nat.le_of_ble_eq_true rfl⟩ (Nat.le_of_ble_eq_true rfl) rfl d_CP_receive_13 (fun H locs hP hS => ?_)
  refine lv_if_ne (tgt := 21) hx hb d_CP_receive_16 rfl (fun hc => ?_) (fun hc => ?_)
  · have h := cz_f hc h
    refine lv_aload_n hx hb d_CP_receive_21 rfl (lv_at hl 0 rfl) ?_
    refine gf_CP_35 S hP d_CP_receive_22 ?_
    refine lv_iload_n hx hb d_CP_receive_25 rfl (lv_at hl 1 rfl) ?_
    obtain ⟨hin26, h⟩ := cz_ck h
    refine cp_aaPA S hP hin26 d_CP_receive_26 ?_
    refine lv_astore_n (lv' := [(2, .ref (X.2.1 (2 + 2 * a1.toNatClampNeg))), (0, .ref (X.2.1 0)), (1, .int a1)]) hx hb d_CP_receive_27 rfl hl (by decide) rfl (fun ls hl => ?_)
    refine lv_aload_n hx hb d_CP_receive_28 rfl (lv_at hl 1 rfl) ?_
    refine gf_CP_22 S hP d_CP_receive_29 ?_
    refine lv_aload_n hx hb d_CP_receive_32 rfl (lv_at hl 1 rfl) ?_
    refine gf_CP_10 S hP d_CP_receive_33 ?_
    obtain ⟨r36, M36, hq36, h⟩ := cz_ubi h
    refine iv_CP_95 (rest := []) S hl.1 hP hS (c_Message_parse l hD M13 10 cp_k10 hq36) ⟨Nat.le_of_ble_eq_true rfl, Nat.le_of_ble_eq_true rfl⟩ (Nat.le_of_ble_eq_true rfl) rfl d_CP_receive_36 (fun H locs hP hS => ?_)
    refine lv_if_ne (tgt := 50) hx hb d_CP_receive_39 rfl (fun hc => ?_) (fun hc => ?_)
    · have h := cz_f hc h
      refine lv_aload_n hx hb d_CP_receive_50 rfl (lv_at hl 0 rfl) ?_
      refine gf_CP_67 S hP (cp_peer hin26) d_CP_receive_51 ?_
      refine lv_iconst (v := 1) hx hb d_CP_receive_54 (by decide) ?_
      refine lv_icmp_ne (tgt := 66) hx hb d_CP_receive_55 rfl (fun hc => ?_) (fun hc => ?_)
      · have h := cz_f hc h
        refine lv_aload_n hx hb d_CP_receive_66 rfl (lv_at hl 1 rfl) ?_
        refine lv_aload_n hx hb d_CP_receive_67 rfl (lv_at hl 0 rfl) ?_
        obtain ⟨r68, M68, hq68, h⟩ := cz_ubi h
        refine iv_CP_106 (rest := []) S hl.1 hP hS (c_CP_readReady l hD M36 (2 + 2 * a1.toNatClampNeg) (cp_peer hin26) hq68) ⟨Nat.le_of_ble_eq_true rfl, Nat.le_of_ble_eq_true rfl⟩ (Nat.le_of_ble_eq_true rfl) rfl d_CP_receive_68 (fun H locs hP hS => ?_)
        exact hb71 M68 (2 + 2 * a1.toNatClampNeg) r68 h _ _ _ hP hS (lv_sub hl [1, 0] rfl) (cp_peer hin26)
      have h := cz_t hc h
      refine lv_aload_n hx hb d_CP_receive_58 rfl (lv_at hl 1 rfl) ?_
      refine lv_aload_n hx hb d_CP_receive_59 rfl (lv_at hl 0 rfl) ?_
      obtain ⟨r60, M60, hq60, h⟩ := cz_ubi h
      refine iv_CP_102 (rest := []) S hl.1 hP hS (c_CP_readGreeting l hD M36 (2 + 2 * a1.toNatClampNeg) (cp_peer hin26) hq60) ⟨Nat.le_of_ble_eq_true rfl, Nat.le_of_ble_eq_true rfl⟩ (Nat.le_of_ble_eq_true rfl) rfl d_CP_receive_60 (fun H locs hP hS => ?_)
      refine lv_goto (tgt := 71) hx hb d_CP_receive_63 rfl ?_
      exact hb71 M60 (2 + 2 * a1.toNatClampNeg) r60 h _ _ _ hP hS (lv_sub hl [1, 0] rfl) (cp_peer hin26)
    have h := cz_t hc h
    refine lv_aload_n hx hb d_CP_receive_42 rfl (lv_at hl 0 rfl) ?_
    refine lv_iconst (v := 4) hx hb d_CP_receive_43 (by decide) ?_
    obtain ⟨M44, hq44, h⟩ := cz_ubv h
    refine iv_CP_99 (rest := []) S hl.1 hP hS (c_Peer_fault l hD M36 (2 + 2 * a1.toNatClampNeg) (4 : Int32) (cp_peer hin26) hq44) (cp_peer hin26) ⟨Nat.le_of_ble_eq_true rfl, Nat.le_of_ble_eq_true rfl⟩ (Nat.le_of_ble_eq_true rfl) rfl d_CP_receive_44 (fun H locs hP hS => ?_)
    refine lv_bipush (v := -2) hx hb d_CP_receive_47 (by decide) ?_
    exact cz_ireth S hr hlocks hP hS h d_CP_receive_49
  have h := cz_t hc h
  refine lv_iconst (v := -1) hx hb d_CP_receive_19 (by decide) ?_
  exact cz_ireth S hr hlocks hP hS h d_CP_receive_20
set_option maxHeartbeats 4000000 in
set_option maxRecDepth 100000 in
theorem c_CP_send (l : Launch) {X : cz_X} {A : Nat → Prop} (hD : ∀ M, va_D A (cp_wl X M)) (M : cz_M) (a1 : Int32) {r2 : Int32} {M2 : cz_M} (h : f_CP_send M a1 = some (r2, M2)) : cp_Ct l X A y_CP_send (Cond.code y_CP_send b_CP_send 2 (some .int) :: cz_T) rm_CP_send [.ref (X.2.1 0), .int a1] M (some (.int r2)) M2 := by
  refine cz_Met (by decide) rfl (Nat.le_of_ble_eq_true rfl) hD ?_
  intro p e s m args below meth c hargs S hr hlocks hP ls hl
  have S : cz_Cx p m c b_CP_send 2 s args cz_T "ChainPeers" X.1 cp_cl (cp_tys X) cz_N A (cp_wl X) := S
  have hx := S.1.1
  have hb := S.1.2.1
  have hS : va_S A s.heap s.heap [] := va_S.rf
  have hl : lv_has ls 2 [(0, .ref (X.2.1 0)), (1, .int a1)] := hl
  refine lv_iload_n hx hb d_CP_send_0 rfl (lv_at hl 1 rfl) ?_
  obtain ⟨r1, M1, hq1, h⟩ := cz_ubi h
  refine iv_CP_63 (rest := []) S hl.1 hP hS (c_CP_isPeer l hD M a1 hq1) ⟨Nat.le_of_ble_eq_true rfl, Nat.le_of_ble_eq_true rfl⟩ (Nat.le_of_ble_eq_true rfl) rfl d_CP_send_1 (fun H locs hP hS => ?_)
  refine lv_if_eq (tgt := 19) hx hb d_CP_send_4 rfl (fun hc => ?_) (fun hc => ?_)
  · have h := cz_t hc h
    refine lv_iconst (v := -1) hx hb d_CP_send_19 (by decide) ?_
    exact cz_ireth S hr hlocks hP hS h d_CP_send_20
  have h := cz_f hc h
  refine lv_aload_n hx hb d_CP_send_7 rfl (lv_at hl 0 rfl) ?_
  refine gf_CP_35 S hP d_CP_send_8 ?_
  refine lv_iload_n hx hb d_CP_send_11 rfl (lv_at hl 1 rfl) ?_
  obtain ⟨hin12, h⟩ := cz_ck h
  refine cp_aaPA S hP hin12 d_CP_send_12 ?_
  refine gf_CP_112 S hP (cp_peer hin12) d_CP_send_13 ?_
  refine lv_if_ne (tgt := 21) hx hb d_CP_send_16 rfl (fun hc => ?_) (fun hc => ?_)
  · have h := cz_f hc h
    refine lv_aload_n hx hb d_CP_send_21 rfl (lv_at hl 0 rfl) ?_
    refine gf_CP_35 S hP d_CP_send_22 ?_
    refine lv_iload_n hx hb d_CP_send_25 rfl (lv_at hl 1 rfl) ?_
    obtain ⟨hin26, h⟩ := cz_ck h
    refine cp_aaPA S hP hin26 d_CP_send_26 ?_
    refine lv_aload_n hx hb d_CP_send_27 rfl (lv_at hl 0 rfl) ?_
    refine gf_CP_10 S hP d_CP_send_28 ?_
    obtain ⟨M31, hq31, h⟩ := cz_ubv h
    refine iv_CP_115 (rest := []) S hl.1 hP hS (c_Peer_moveFirstTo l hD M1 (2 + 2 * a1.toNatClampNeg) 10 (cp_peer hin26) cp_k10 hq31) (cp_peer hin26) ⟨Nat.le_of_ble_eq_true rfl, Nat.le_of_ble_eq_true rfl⟩ (Nat.le_of_ble_eq_true rfl) rfl d_CP_send_31 (fun H locs hP hS => ?_)
    refine lv_aload_n hx hb d_CP_send_34 rfl (lv_at hl 0 rfl) ?_
    refine gf_CP_10 S hP d_CP_send_35 ?_
    refine gf_CP_85 S hP cp_k10 d_CP_send_38 ?_
    exact cz_ireth S hr hlocks hP hS h d_CP_send_41
  have h := cz_t hc h
  refine lv_iconst (v := -1) hx hb d_CP_send_19 (by decide) ?_
  exact cz_ireth S hr hlocks hP hS h d_CP_send_20
set_option maxHeartbeats 4000000 in
set_option maxRecDepth 100000 in
theorem c_CP_isBodyAsked (l : Launch) {X : cz_X} {A : Nat → Prop} (hD : ∀ M, va_D A (cp_wl X M)) (M : cz_M) (a1 : Int32) {r2 : Int32} {M2 : cz_M} (h : f_CP_isBodyAsked M a1 = some (r2, M2)) : cp_Ct l X A y_CP_isBodyAsked (Cond.code y_CP_isBodyAsked b_CP_isBodyAsked 3 (some .boolean) :: cz_T) rm_CP_isBodyAsked [.ref (X.2.1 0), .int a1] M (some (.int r2)) M2 := by
  refine cz_Met (by decide) rfl (Nat.le_of_ble_eq_true rfl) hD ?_
  intro p e s m args below meth c hargs S hr hlocks hP ls hl
  have S : cz_Cx p m c b_CP_isBodyAsked 3 s args cz_T "ChainPeers" X.1 cp_cl (cp_tys X) cz_N A (cp_wl X) := S
  have hx := S.1.1
  have hb := S.1.2.1
  have hS : va_S A s.heap s.heap [] := va_S.rf
  have hl : lv_has ls 3 [(0, .ref (X.2.1 0)), (1, .int a1)] := hl
  have hb2 : ∀ (n : Nat) (M : cz_M) (v2 : Int32), cz_lp2 (l_CP_isBodyAsked_2 a1) n M v2 = some (r2, M2) → ∀ (H : Heap) (locs : List Loc) (ls : Array Slot), va_P X.1 cp_cl (cp_wl X M) H → va_S A s.heap H locs → lv_has ls 3 [(0, .ref (X.2.1 0)), (1, .int a1), (2, .int v2)] → W p l e rm_CP_isBodyAsked s m args below meth c H locs 0 0 (MQ below (cz_Qw X.1 cp_cl (some (.int r2)) (cp_wl X M2) A) args s 0 0 A) (F0 m 2 ls []) := by
    refine cz_ind2 (fun rec2 ih2 M v2 h H locs ls hP hS hl => ?_)
    refine lv_iload_n hx hb d_CP_isBodyAsked_2 rfl (lv_at hl 2 rfl) ?_
    refine lv_iconst (v := 4) hx hb d_CP_isBodyAsked_3 (by decide) ?_
    refine lv_icmp_ge (tgt := 28) hx hb d_CP_isBodyAsked_4 rfl (fun hc => ?_) (fun hc => ?_)
    · have h := cz_t hc h
      refine lv_iconst (v := 0) hx hb d_CP_isBodyAsked_28 (by decide) ?_
      exact cz_zreth S hr hlocks hP hS h rfl d_CP_isBodyAsked_29
    have h := cz_f hc h
    refine lv_aload_n hx hb d_CP_isBodyAsked_7 rfl (lv_at hl 0 rfl) ?_
    refine gf_CP_35 S hP d_CP_isBodyAsked_8 ?_
    refine lv_iload_n hx hb d_CP_isBodyAsked_11 rfl (lv_at hl 2 rfl) ?_
    obtain ⟨hin12, h⟩ := cz_ck h
    refine cp_aaPA S hP hin12 d_CP_isBodyAsked_12 ?_
    refine lv_iload_n hx hb d_CP_isBodyAsked_13 rfl (lv_at hl 1 rfl) ?_
    obtain ⟨r14, M14, hq14, h⟩ := cz_ubi h
    refine iv_CP_307 (rest := []) S hl.1 hP hS (c_Peer_isAskedForBody l hD M (2 + 2 * v2.toNatClampNeg) a1 (cp_peer hin12) hq14) (cp_peer hin12) ⟨Nat.le_of_ble_eq_true rfl, Nat.le_of_ble_eq_true rfl⟩ (Nat.le_of_ble_eq_true rfl) rfl d_CP_isBodyAsked_14 (fun H locs hP hS => ?_)
    refine lv_if_eq (tgt := 22) hx hb d_CP_isBodyAsked_17 rfl (fun hc => ?_) (fun hc => ?_)
    · have h := cz_t hc h
      refine lv_iinc (lv' := [(2, .int (v2 + 1)), (0, .ref (X.2.1 0)), (1, .int a1)]) (v := v2 + 1) (k := 2) hx hb d_CP_isBodyAsked_22 hl rfl (cz_inc1 _) (by decide) rfl (fun ls hl => ?_)
      refine lv_goto (tgt := 2) hx hb d_CP_isBodyAsked_25 rfl ?_
      exact ih2 M14 (v2 + 1) h _ _ _ hP hS (lv_sub hl [1, 2, 0] rfl)
    have h := cz_f hc h
    refine lv_iconst (v := 1) hx hb d_CP_isBodyAsked_20 (by decide) ?_
    exact cz_zreth S hr hlocks hP hS h rfl d_CP_isBodyAsked_21
  refine lv_iconst (v := 0) hx hb d_CP_isBodyAsked_0 (by decide) ?_
  refine lv_istore_n (lv' := [(2, .int (0 : Int32)), (0, .ref (X.2.1 0)), (1, .int a1)]) hx hb d_CP_isBodyAsked_1 rfl hl (by decide) rfl (fun ls hl => ?_)
  exact hb2 _ M (0 : Int32) h _ _ _ hP hS (lv_sub hl [1, 2, 0] rfl)
set_option maxHeartbeats 4000000 in
set_option maxRecDepth 100000 in
theorem c_CP_wantedBlock (l : Launch) {X : cz_X} {A : Nat → Prop} (hD : ∀ M, va_D A (cp_wl X M)) (M : cz_M) {r2 : Int32} {M2 : cz_M} (h : f_CP_wantedBlock M = some (r2, M2)) : cp_Ct l X A y_CP_wantedBlock (Cond.code y_CP_wantedBlock b_CP_wantedBlock 4 (some .int) :: cz_T) rm_CP_wantedBlock [.ref (X.2.1 0)] M (some (.int r2)) M2 := by
  refine cz_Met (by decide) rfl (Nat.le_of_ble_eq_true rfl) hD ?_
  intro p e s m args below meth c hargs S hr hlocks hP ls hl
  have S : cz_Cx p m c b_CP_wantedBlock 4 s args cz_T "ChainPeers" X.1 cp_cl (cp_tys X) cz_N A (cp_wl X) := S
  have hx := S.1.1
  have hb := S.1.2.1
  have hS : va_S A s.heap s.heap [] := va_S.rf
  have hl : lv_has ls 4 [(0, .ref (X.2.1 0))] := hl
  have hb19 : ∀ (n : Nat) (M : cz_M) (v1 : Int32) (v2 : Int32) (v3 : Int32), cz_lp4 (l_CP_wantedBlock_19) n M v1 v2 v3 = some (r2, M2) → ∀ (H : Heap) (locs : List Loc) (ls : Array Slot), va_P X.1 cp_cl (cp_wl X M) H → va_S A s.heap H locs → lv_has ls 4 [(0, .ref (X.2.1 0)), (1, .int v1), (2, .int v2), (3, .int v3)] → W p l e rm_CP_wantedBlock s m args below meth c H locs 0 0 (MQ below (cz_Qw X.1 cp_cl (some (.int r2)) (cp_wl X M2) A) args s 0 0 A) (F0 m 19 ls []) := by
    refine cz_ind4 (fun rec19 ih19 M v1 v2 v3 h H locs ls hP hS hl => ?_)
    have hb44 : ∀ (M : cz_M) (v1 : Int32) (v2 : Int32) (v3 : Int32), b_CP_wantedBlock_44 rec19 M v1 v2 v3 = some (r2, M2) → ∀ (H : Heap) (locs : List Loc) (ls : Array Slot), va_P X.1 cp_cl (cp_wl X M) H → va_S A s.heap H locs → lv_has ls 4 [(0, .ref (X.2.1 0)), (1, .int v1), (2, .int v2), (3, .int v3)] → W p l e rm_CP_wantedBlock s m args below meth c H locs 0 0 (MQ below (cz_Qw X.1 cp_cl (some (.int r2)) (cp_wl X M2) A) args s 0 0 A) (F0 m 44 ls []) := by
      intro M v1 v2 v3 h H locs ls hP hS hl
      refine lv_aload_n hx hb d_CP_wantedBlock_44 rfl (lv_at hl 0 rfl) ?_
      refine gf_CP_29 S hP d_CP_wantedBlock_45 ?_
      refine gf_CP_304 S hP d_CP_wantedBlock_48 ?_
      refine lv_iload_n hx hb d_CP_wantedBlock_51 rfl (lv_at hl 2 rfl) ?_
      obtain ⟨hin52, h⟩ := cz_ck h
      refine cp_ia S hP cp_k22 hin52 d_CP_wantedBlock_52 ?_
      refine lv_istore_n (lv' := [(2, .int (M.1 22 v2.toNatClampNeg)), (0, .ref (X.2.1 0)), (1, .int v1), (3, .int v3)]) hx hb d_CP_wantedBlock_53 rfl hl (by decide) rfl (fun ls hl => ?_)
      refine lv_iinc (lv' := [(3, .int (v3 - 1)), (2, .int (M.1 22 v2.toNatClampNeg)), (0, .ref (X.2.1 0)), (1, .int v1)]) (v := v3 - 1) (k := 3) hx hb d_CP_wantedBlock_54 hl rfl (cz_incm1 _) (by decide) rfl (fun ls hl => ?_)
      refine lv_goto (tgt := 19) hx hb d_CP_wantedBlock_57 rfl ?_
      exact ih19 M v1 (M.1 22 v2.toNatClampNeg) (v3 - 1) h _ _ _ hP hS (lv_sub hl [2, 3, 1, 0] rfl)
    refine lv_iload_n hx hb d_CP_wantedBlock_19 rfl (lv_at hl 3 rfl) ?_
    refine lv_if_le (tgt := 60) hx hb d_CP_wantedBlock_20 rfl (fun hc => ?_) (fun hc => ?_)
    · have h := cz_t hc h
      refine lv_iload_n hx hb d_CP_wantedBlock_60 rfl (lv_at hl 1 rfl) ?_
      exact cz_ireth S hr hlocks hP hS h d_CP_wantedBlock_61
    have h := cz_f hc h
    refine lv_aload_n hx hb d_CP_wantedBlock_23 rfl (lv_at hl 0 rfl) ?_
    refine gf_CP_29 S hP d_CP_wantedBlock_24 ?_
    refine lv_iload_n hx hb d_CP_wantedBlock_27 rfl (lv_at hl 2 rfl) ?_
    obtain ⟨r28, M28, hq28, h⟩ := cz_ubi h
    refine iv_CP_278 (rest := []) S hl.1 hP hS (c_Blocks_hasBody l hD M v2 hq28) ⟨Nat.le_of_ble_eq_true rfl, Nat.le_of_ble_eq_true rfl⟩ (Nat.le_of_ble_eq_true rfl) rfl d_CP_wantedBlock_28 (fun H locs hP hS => ?_)
    refine lv_if_ne (tgt := 44) hx hb d_CP_wantedBlock_31 rfl (fun hc => ?_) (fun hc => ?_)
    · have h := cz_f hc h
      exact hb44 M28 v1 v2 v3 h _ _ _ hP hS (lv_sub hl [0, 1, 2, 3] rfl)
    have h := cz_t hc h
    refine lv_aload_n hx hb d_CP_wantedBlock_34 rfl (lv_at hl 0 rfl) ?_
    refine lv_iload_n hx hb d_CP_wantedBlock_35 rfl (lv_at hl 2 rfl) ?_
    obtain ⟨r36, M36, hq36, h⟩ := cz_ubi h
    refine iv_CP_301 (rest := []) S hl.1 hP hS (c_CP_isBodyAsked l hD M28 v2 hq36) ⟨Nat.le_of_ble_eq_true rfl, Nat.le_of_ble_eq_true rfl⟩ (Nat.le_of_ble_eq_true rfl) rfl d_CP_wantedBlock_36 (fun H locs hP hS => ?_)
    refine lv_if_ne (tgt := 44) hx hb d_CP_wantedBlock_39 rfl (fun hc => ?_) (fun hc => ?_)
    · have h := cz_f hc h
      exact hb44 M36 v1 v2 v3 h _ _ _ hP hS (lv_sub hl [0, 1, 2, 3] rfl)
    have h := cz_t hc h
    refine lv_iload_n hx hb d_CP_wantedBlock_42 rfl (lv_at hl 2 rfl) ?_
    refine lv_istore_n (lv' := [(1, .int v2), (0, .ref (X.2.1 0)), (2, .int v2), (3, .int v3)]) hx hb d_CP_wantedBlock_43 rfl hl (by decide) rfl (fun ls hl => ?_)
    exact hb44 M36 v2 v2 v3 h _ _ _ hP hS (lv_sub hl [1, 0, 2, 3] rfl)
  refine lv_iconst (v := -1) hx hb d_CP_wantedBlock_0 (by decide) ?_
  refine lv_istore_n (lv' := [(1, .int (-1 : Int32)), (0, .ref (X.2.1 0))]) hx hb d_CP_wantedBlock_1 rfl hl (by decide) rfl (fun ls hl => ?_)
  refine lv_aload_n hx hb d_CP_wantedBlock_2 rfl (lv_at hl 1 rfl) ?_
  refine gf_CP_29 S hP d_CP_wantedBlock_3 ?_
  obtain ⟨r6, M6, hq6, h⟩ := cz_ubi h
  refine iv_CP_184 (rest := []) S hl.1 hP hS (c_Blocks_heaviest l hD M hq6) ⟨Nat.le_of_ble_eq_true rfl, Nat.le_of_ble_eq_true rfl⟩ (Nat.le_of_ble_eq_true rfl) rfl d_CP_wantedBlock_6 (fun H locs hP hS => ?_)
  refine lv_istore_n (lv' := [(2, .int r6), (1, .int (-1 : Int32)), (0, .ref (X.2.1 0))]) hx hb d_CP_wantedBlock_9 rfl hl (by decide) rfl (fun ls hl => ?_)
  refine lv_aload_n hx hb d_CP_wantedBlock_10 rfl (lv_at hl 2 rfl) ?_
  refine gf_CP_29 S hP d_CP_wantedBlock_11 ?_
  refine lv_iload_n hx hb d_CP_wantedBlock_14 rfl (lv_at hl 0 rfl) ?_
  obtain ⟨r15, M15, hq15, h⟩ := cz_ubi h
  refine iv_CP_139 (rest := []) S hl.1 hP hS (c_Blocks_numberOf l hD M6 r6 hq15) ⟨Nat.le_of_ble_eq_true rfl, Nat.le_of_ble_eq_true rfl⟩ (Nat.le_of_ble_eq_true rfl) rfl d_CP_wantedBlock_15 (fun H locs hP hS => ?_)
  refine lv_istore_n (lv' := [(3, .int r15), (2, .int r6), (1, .int (-1 : Int32)), (0, .ref (X.2.1 0))]) hx hb d_CP_wantedBlock_18 rfl hl (by decide) rfl (fun ls hl => ?_)
  exact hb19 _ M15 (-1 : Int32) r6 r15 h _ _ _ hP hS (lv_sub hl [3, 2, 1, 0] rfl)
set_option maxHeartbeats 4000000 in
set_option maxRecDepth 100000 in
theorem c_CP_askForBody (l : Launch) {X : cz_X} {A : Nat → Prop} (hD : ∀ M, va_D A (cp_wl X M)) (M : cz_M) (a1 : Nat) (a2 : Int32) (k1 : cp_Q a1) {M2 : cz_M} (h : f_CP_askForBody M a1 a2 = some M2) : cp_Ct l X A y_CP_askForBody (Cond.code y_CP_askForBody b_CP_askForBody 3 none :: cz_T) rm_CP_askForBody [.ref (X.2.1 0), .ref (X.2.1 a1), .int a2] M none M2 := by
  refine cz_Met (by decide) rfl (Nat.le_of_ble_eq_true rfl) hD ?_
  intro p e s m args below meth c hargs S hr hlocks hP ls hl
  have S : cz_Cx p m c b_CP_askForBody 3 s args cz_T "ChainPeers" X.1 cp_cl (cp_tys X) cz_N A (cp_wl X) := S
  have hx := S.1.1
  have hb := S.1.2.1
  have hS : va_S A s.heap s.heap [] := va_S.rf
  have hl : lv_has ls 3 [(0, .ref (X.2.1 0)), (1, .ref (X.2.1 a1)), (2, .int a2)] := hl
  refine lv_aload_n hx hb d_CP_askForBody_0 rfl (lv_at hl 0 rfl) ?_
  refine lv_dup hx hb d_CP_askForBody_1 rfl ?_
  refine gf_CP_187 S hP d_CP_askForBody_2 ?_
  refine lv_iconst (v := 1) hx hb d_CP_askForBody_5 (by decide) ?_
  refine lv_iadd hx hb d_CP_askForBody_6 ?_
  refine pf_CP_187 S hP hS d_CP_askForBody_7 (fun H locs hP hS => ?_)
  refine lv_aload_n hx hb d_CP_askForBody_10 rfl (lv_at hl 1 rfl) ?_
  refine lv_iconst (v := 3) hx hb d_CP_askForBody_11 (by decide) ?_
  refine lv_aload_n hx hb d_CP_askForBody_12 rfl (lv_at hl 0 rfl) ?_
  refine gf_CP_187 S hP d_CP_askForBody_13 ?_
  refine lv_iload_n hx hb d_CP_askForBody_16 rfl (lv_at hl 2 rfl) ?_
  refine lv_aload_n hx hb d_CP_askForBody_17 rfl (lv_at hl 0 rfl) ?_
  refine gf_CP_126 S hP d_CP_askForBody_18 ?_
  refine lv_aload_n hx hb d_CP_askForBody_21 rfl (lv_at hl 0 rfl) ?_
  refine gf_CP_59 S hP d_CP_askForBody_22 ?_
  refine lv_iadd hx hb d_CP_askForBody_25 ?_
  obtain ⟨M26, hq26, h⟩ := cz_ubv h
  refine iv_CP_297 (rest := []) S hl.1 hP hS (c_Peer_setRequest l hD (cz_i M 0 10 ((M.1 0 10) + (1 : Int32))) a1 (3 : Int32) ((cz_i M 0 10 ((M.1 0 10) + (1 : Int32))).1 0 10) a2 (((cz_i M 0 10 ((M.1 0 10) + (1 : Int32))).1 0 9) + ((cz_i M 0 10 ((M.1 0 10) + (1 : Int32))).1 0 1)) k1 hq26) k1 ⟨Nat.le_of_ble_eq_true rfl, Nat.le_of_ble_eq_true rfl⟩ (Nat.le_of_ble_eq_true rfl) rfl d_CP_askForBody_26 (fun H locs hP hS => ?_)
  refine lv_aload_n hx hb d_CP_askForBody_29 rfl (lv_at hl 0 rfl) ?_
  refine gf_CP_16 S hP d_CP_askForBody_30 ?_
  refine lv_iconst (v := 3) hx hb d_CP_askForBody_33 (by decide) ?_
  obtain ⟨M34, hq34, h⟩ := cz_ubv h
  refine iv_CP_247 (rest := []) S hl.1 hP hS (c_Bytes_begin l hD M26 12 (3 : Int32) cp_k12 hq34) cp_k12 ⟨Nat.le_of_ble_eq_true rfl, Nat.le_of_ble_eq_true rfl⟩ (Nat.le_of_ble_eq_true rfl) rfl d_CP_askForBody_34 (fun H locs hP hS => ?_)
  refine lv_aload_n hx hb d_CP_askForBody_37 rfl (lv_at hl 0 rfl) ?_
  refine gf_CP_16 S hP d_CP_askForBody_38 ?_
  refine lv_aload_n hx hb d_CP_askForBody_41 rfl (lv_at hl 0 rfl) ?_
  refine gf_CP_187 S hP d_CP_askForBody_42 ?_
  obtain ⟨M45, hq45, h⟩ := cz_ubv h
  refine iv_CP_250 (rest := []) S hl.1 hP hS (c_Bytes_addNumber l hD M34 12 (M34.1 0 10) cp_k12 hq45) cp_k12 ⟨Nat.le_of_ble_eq_true rfl, Nat.le_of_ble_eq_true rfl⟩ (Nat.le_of_ble_eq_true rfl) rfl d_CP_askForBody_45 (fun H locs hP hS => ?_)
  refine lv_aload_n hx hb d_CP_askForBody_48 rfl (lv_at hl 0 rfl) ?_
  refine gf_CP_16 S hP d_CP_askForBody_49 ?_
  refine lv_aload_n hx hb d_CP_askForBody_52 rfl (lv_at hl 0 rfl) ?_
  refine gf_CP_29 S hP d_CP_askForBody_53 ?_
  refine gf_CP_136 S hP d_CP_askForBody_56 ?_
  refine lv_iload_n hx hb d_CP_askForBody_59 rfl (lv_at hl 2 rfl) ?_
  obtain ⟨hin60, h⟩ := cz_ck h
  refine cp_ia S hP cp_k21 hin60 d_CP_askForBody_60 ?_
  obtain ⟨M61, hq61, h⟩ := cz_ubv h
  refine iv_CP_250 (rest := []) S hl.1 hP hS (c_Bytes_addNumber l hD M45 12 (M45.1 21 a2.toNatClampNeg) cp_k12 hq61) cp_k12 ⟨Nat.le_of_ble_eq_true rfl, Nat.le_of_ble_eq_true rfl⟩ (Nat.le_of_ble_eq_true rfl) rfl d_CP_askForBody_61 (fun H locs hP hS => ?_)
  refine lv_aload_n hx hb d_CP_askForBody_64 rfl (lv_at hl 0 rfl) ?_
  refine lv_aload_n hx hb d_CP_askForBody_65 rfl (lv_at hl 1 rfl) ?_
  obtain ⟨M66, hq66, h⟩ := cz_ubv h
  refine iv_CP_253 (rest := []) S hl.1 hP hS (c_CP_sendDraft l hD M61 a1 k1 hq66) ⟨Nat.le_of_ble_eq_true rfl, Nat.le_of_ble_eq_true rfl⟩ (Nat.le_of_ble_eq_true rfl) rfl d_CP_askForBody_66 (fun H locs hP hS => ?_)
  exact cz_vreth S hr hlocks hP hS h d_CP_askForBody_69
set_option maxHeartbeats 4000000 in
set_option maxRecDepth 100000 in
theorem c_CP_askForHeaders (l : Launch) {X : cz_X} {A : Nat → Prop} (hD : ∀ M, va_D A (cp_wl X M)) (M : cz_M) (a1 : Nat) (a2 : Int32) (k1 : cp_Q a1) {M2 : cz_M} (h : f_CP_askForHeaders M a1 a2 = some M2) : cp_Ct l X A y_CP_askForHeaders (Cond.code y_CP_askForHeaders b_CP_askForHeaders 3 none :: cz_T) rm_CP_askForHeaders [.ref (X.2.1 0), .ref (X.2.1 a1), .int a2] M none M2 := by
  refine cz_Met (by decide) rfl (Nat.le_of_ble_eq_true rfl) hD ?_
  intro p e s m args below meth c hargs S hr hlocks hP ls hl
  have S : cz_Cx p m c b_CP_askForHeaders 3 s args cz_T "ChainPeers" X.1 cp_cl (cp_tys X) cz_N A (cp_wl X) := S
  have hx := S.1.1
  have hb := S.1.2.1
  have hS : va_S A s.heap s.heap [] := va_S.rf
  have hl : lv_has ls 3 [(0, .ref (X.2.1 0)), (1, .ref (X.2.1 a1)), (2, .int a2)] := hl
  refine lv_aload_n hx hb d_CP_askForHeaders_0 rfl (lv_at hl 0 rfl) ?_
  refine lv_dup hx hb d_CP_askForHeaders_1 rfl ?_
  refine gf_CP_187 S hP d_CP_askForHeaders_2 ?_
  refine lv_iconst (v := 1) hx hb d_CP_askForHeaders_5 (by decide) ?_
  refine lv_iadd hx hb d_CP_askForHeaders_6 ?_
  refine pf_CP_187 S hP hS d_CP_askForHeaders_7 (fun H locs hP hS => ?_)
  refine lv_aload_n hx hb d_CP_askForHeaders_10 rfl (lv_at hl 1 rfl) ?_
  refine lv_iconst (v := 1) hx hb d_CP_askForHeaders_11 (by decide) ?_
  refine lv_aload_n hx hb d_CP_askForHeaders_12 rfl (lv_at hl 0 rfl) ?_
  refine gf_CP_187 S hP d_CP_askForHeaders_13 ?_
  refine lv_iload_n hx hb d_CP_askForHeaders_16 rfl (lv_at hl 2 rfl) ?_
  refine lv_aload_n hx hb d_CP_askForHeaders_17 rfl (lv_at hl 0 rfl) ?_
  refine gf_CP_126 S hP d_CP_askForHeaders_18 ?_
  refine lv_aload_n hx hb d_CP_askForHeaders_21 rfl (lv_at hl 0 rfl) ?_
  refine gf_CP_59 S hP d_CP_askForHeaders_22 ?_
  refine lv_iadd hx hb d_CP_askForHeaders_25 ?_
  obtain ⟨M26, hq26, h⟩ := cz_ubv h
  refine iv_CP_297 (rest := []) S hl.1 hP hS (c_Peer_setRequest l hD (cz_i M 0 10 ((M.1 0 10) + (1 : Int32))) a1 (1 : Int32) ((cz_i M 0 10 ((M.1 0 10) + (1 : Int32))).1 0 10) a2 (((cz_i M 0 10 ((M.1 0 10) + (1 : Int32))).1 0 9) + ((cz_i M 0 10 ((M.1 0 10) + (1 : Int32))).1 0 1)) k1 hq26) k1 ⟨Nat.le_of_ble_eq_true rfl, Nat.le_of_ble_eq_true rfl⟩ (Nat.le_of_ble_eq_true rfl) rfl d_CP_askForHeaders_26 (fun H locs hP hS => ?_)
  refine lv_aload_n hx hb d_CP_askForHeaders_29 rfl (lv_at hl 0 rfl) ?_
  refine gf_CP_16 S hP d_CP_askForHeaders_30 ?_
  refine lv_iconst (v := 1) hx hb d_CP_askForHeaders_33 (by decide) ?_
  obtain ⟨M34, hq34, h⟩ := cz_ubv h
  refine iv_CP_247 (rest := []) S hl.1 hP hS (c_Bytes_begin l hD M26 12 (1 : Int32) cp_k12 hq34) cp_k12 ⟨Nat.le_of_ble_eq_true rfl, Nat.le_of_ble_eq_true rfl⟩ (Nat.le_of_ble_eq_true rfl) rfl d_CP_askForHeaders_34 (fun H locs hP hS => ?_)
  refine lv_aload_n hx hb d_CP_askForHeaders_37 rfl (lv_at hl 0 rfl) ?_
  refine gf_CP_16 S hP d_CP_askForHeaders_38 ?_
  refine lv_aload_n hx hb d_CP_askForHeaders_41 rfl (lv_at hl 0 rfl) ?_
  refine gf_CP_187 S hP d_CP_askForHeaders_42 ?_
  obtain ⟨M45, hq45, h⟩ := cz_ubv h
  refine iv_CP_250 (rest := []) S hl.1 hP hS (c_Bytes_addNumber l hD M34 12 (M34.1 0 10) cp_k12 hq45) cp_k12 ⟨Nat.le_of_ble_eq_true rfl, Nat.le_of_ble_eq_true rfl⟩ (Nat.le_of_ble_eq_true rfl) rfl d_CP_askForHeaders_45 (fun H locs hP hS => ?_)
  refine lv_aload_n hx hb d_CP_askForHeaders_48 rfl (lv_at hl 0 rfl) ?_
  refine gf_CP_16 S hP d_CP_askForHeaders_49 ?_
  refine lv_iload_n hx hb d_CP_askForHeaders_52 rfl (lv_at hl 2 rfl) ?_
  obtain ⟨M53, hq53, h⟩ := cz_ubv h
  refine iv_CP_250 (rest := []) S hl.1 hP hS (c_Bytes_addNumber l hD M45 12 a2 cp_k12 hq53) cp_k12 ⟨Nat.le_of_ble_eq_true rfl, Nat.le_of_ble_eq_true rfl⟩ (Nat.le_of_ble_eq_true rfl) rfl d_CP_askForHeaders_53 (fun H locs hP hS => ?_)
  refine lv_aload_n hx hb d_CP_askForHeaders_56 rfl (lv_at hl 0 rfl) ?_
  refine gf_CP_16 S hP d_CP_askForHeaders_57 ?_
  refine lv_iconst (v := 2) hx hb d_CP_askForHeaders_60 (by decide) ?_
  obtain ⟨M61, hq61, h⟩ := cz_ubv h
  refine iv_CP_250 (rest := []) S hl.1 hP hS (c_Bytes_addNumber l hD M53 12 (2 : Int32) cp_k12 hq61) cp_k12 ⟨Nat.le_of_ble_eq_true rfl, Nat.le_of_ble_eq_true rfl⟩ (Nat.le_of_ble_eq_true rfl) rfl d_CP_askForHeaders_61 (fun H locs hP hS => ?_)
  refine lv_aload_n hx hb d_CP_askForHeaders_64 rfl (lv_at hl 0 rfl) ?_
  refine lv_aload_n hx hb d_CP_askForHeaders_65 rfl (lv_at hl 1 rfl) ?_
  obtain ⟨M66, hq66, h⟩ := cz_ubv h
  refine iv_CP_253 (rest := []) S hl.1 hP hS (c_CP_sendDraft l hD M61 a1 k1 hq66) ⟨Nat.le_of_ble_eq_true rfl, Nat.le_of_ble_eq_true rfl⟩ (Nat.le_of_ble_eq_true rfl) rfl d_CP_askForHeaders_66 (fun H locs hP hS => ?_)
  exact cz_vreth S hr hlocks hP hS h d_CP_askForHeaders_69
set_option maxHeartbeats 4000000 in
set_option maxRecDepth 100000 in
theorem c_CP_ask (l : Launch) {X : cz_X} {A : Nat → Prop} (hD : ∀ M, va_D A (cp_wl X M)) (M : cz_M) (a1 : Nat) (k1 : cp_Q a1) {r2 : Int32} {M2 : cz_M} (h : f_CP_ask M a1 = some (r2, M2)) : cp_Ct l X A y_CP_ask (Cond.code y_CP_ask b_CP_ask 4 (some .boolean) :: cz_T) rm_CP_ask [.ref (X.2.1 0), .ref (X.2.1 a1)] M (some (.int r2)) M2 := by
  refine cz_Met (by decide) rfl (Nat.le_of_ble_eq_true rfl) hD ?_
  intro p e s m args below meth c hargs S hr hlocks hP ls hl
  have S : cz_Cx p m c b_CP_ask 4 s args cz_T "ChainPeers" X.1 cp_cl (cp_tys X) cz_N A (cp_wl X) := S
  have hx := S.1.1
  have hb := S.1.2.1
  have hS : va_S A s.heap s.heap [] := va_S.rf
  have hl : lv_has ls 4 [(0, .ref (X.2.1 0)), (1, .ref (X.2.1 a1))] := hl
  refine lv_aload_n hx hb d_CP_ask_0 rfl (lv_at hl 0 rfl) ?_
  obtain ⟨r1, M1, hq1, h⟩ := cz_ubi h
  refine iv_CP_287 (rest := []) S hl.1 hP hS (c_CP_wantedBlock l hD M hq1) ⟨Nat.le_of_ble_eq_true rfl, Nat.le_of_ble_eq_true rfl⟩ (Nat.le_of_ble_eq_true rfl) rfl d_CP_ask_1 (fun H locs hP hS => ?_)
  refine lv_istore_n (lv' := [(2, .int r1), (0, .ref (X.2.1 0)), (1, .ref (X.2.1 a1))]) hx hb d_CP_ask_4 rfl hl (by decide) rfl (fun ls hl => ?_)
  refine lv_iload_n hx hb d_CP_ask_5 rfl (lv_at hl 0 rfl) ?_
  refine lv_iconst (v := -1) hx hb d_CP_ask_6 (by decide) ?_
  refine lv_icmp_eq (tgt := 18) hx hb d_CP_ask_7 rfl (fun hc => ?_) (fun hc => ?_)
  · have h := cz_t hc h
    refine lv_aload_n hx hb d_CP_ask_18 rfl (lv_at hl 1 rfl) ?_
    refine gf_CP_29 S hP d_CP_ask_19 ?_
    refine lv_aload_n hx hb d_CP_ask_22 rfl (lv_at hl 1 rfl) ?_
    refine gf_CP_29 S hP d_CP_ask_23 ?_
    obtain ⟨r26, M26, hq26, h⟩ := cz_ubi h
    refine iv_CP_184 (rest := [.ref (X.2.1 19)]) S hl.1 hP hS (c_Blocks_heaviest l hD M1 hq26) ⟨Nat.le_of_ble_eq_true rfl, Nat.le_of_ble_eq_true rfl⟩ (Nat.le_of_ble_eq_true rfl) rfl d_CP_ask_26 (fun H locs hP hS => ?_)
    obtain ⟨r29, M29, hq29, h⟩ := cz_ubi h
    refine iv_CP_139 (rest := []) S hl.1 hP hS (c_Blocks_numberOf l hD M26 r26 hq29) ⟨Nat.le_of_ble_eq_true rfl, Nat.le_of_ble_eq_true rfl⟩ (Nat.le_of_ble_eq_true rfl) rfl d_CP_ask_29 (fun H locs hP hS => ?_)
    refine lv_iconst (v := 1) hx hb d_CP_ask_32 (by decide) ?_
    refine lv_iadd hx hb d_CP_ask_33 ?_
    refine lv_aload_n hx hb d_CP_ask_34 rfl (lv_at hl 2 rfl) ?_
    refine gf_CP_234 S hP k1 d_CP_ask_35 ?_
    refine lv_isub hx hb d_CP_ask_38 ?_
    refine lv_iconst (v := 1) hx hb d_CP_ask_39 (by decide) ?_
    refine ma_CP_46 S hl.1 (Nat.le_of_ble_eq_true rfl) (Nat.le_of_ble_eq_true rfl) d_CP_ask_40 ?_
    refine lv_istore_n (lv' := [(3, .int (cz_max ((r29 + (1 : Int32)) - (M29.1 a1 3)) (1 : Int32))), (2, .int r1), (0, .ref (X.2.1 0)), (1, .ref (X.2.1 a1))]) hx hb d_CP_ask_43 rfl hl (by decide) rfl (fun ls hl => ?_)
    refine lv_aload_n hx hb d_CP_ask_44 rfl (lv_at hl 2 rfl) ?_
    refine gf_CP_29 S hP d_CP_ask_45 ?_
    obtain ⟨r48, M48, hq48, h⟩ := cz_ubi h
    refine iv_CP_157 (rest := []) S hl.1 hP hS (c_Blocks_isFull l hD M29 hq48) ⟨Nat.le_of_ble_eq_true rfl, Nat.le_of_ble_eq_true rfl⟩ (Nat.le_of_ble_eq_true rfl) rfl d_CP_ask_48 (fun H locs hP hS => ?_)
    refine lv_if_ne (tgt := 62) hx hb d_CP_ask_51 rfl (fun hc => ?_) (fun hc => ?_)
    · have h := cz_f hc h
      refine lv_iconst (v := 0) hx hb d_CP_ask_62 (by decide) ?_
      exact cz_zreth S hr hlocks hP hS h rfl d_CP_ask_63
    have h := cz_t hc h
    refine lv_aload_n hx hb d_CP_ask_54 rfl (lv_at hl 3 rfl) ?_
    refine gf_CP_203 S hP k1 d_CP_ask_55 ?_
    refine lv_iload_n hx hb d_CP_ask_58 rfl (lv_at hl 0 rfl) ?_
    refine lv_icmp_ge (tgt := 64) hx hb d_CP_ask_59 rfl (fun hc => ?_) (fun hc => ?_)
    · have h := cz_t hc h
      refine lv_aload_n hx hb d_CP_ask_64 rfl (lv_at hl 2 rfl) ?_
      refine lv_aload_n hx hb d_CP_ask_65 rfl (lv_at hl 3 rfl) ?_
      refine lv_iload_n hx hb d_CP_ask_66 rfl (lv_at hl 0 rfl) ?_
      obtain ⟨M67, hq67, h⟩ := cz_ubv h
      refine iv_CP_294 (rest := []) S hl.1 hP hS (c_CP_askForHeaders l hD M48 a1 (cz_max ((r29 + (1 : Int32)) - (M29.1 a1 3)) (1 : Int32)) k1 hq67) ⟨Nat.le_of_ble_eq_true rfl, Nat.le_of_ble_eq_true rfl⟩ (Nat.le_of_ble_eq_true rfl) rfl d_CP_ask_67 (fun H locs hP hS => ?_)
      refine lv_iconst (v := 1) hx hb d_CP_ask_70 (by decide) ?_
      exact cz_zreth S hr hlocks hP hS h rfl d_CP_ask_71
    have h := cz_f hc h
    refine lv_iconst (v := 0) hx hb d_CP_ask_62 (by decide) ?_
    exact cz_zreth S hr hlocks hP hS h rfl d_CP_ask_63
  have h := cz_f hc h
  refine lv_aload_n hx hb d_CP_ask_10 rfl (lv_at hl 1 rfl) ?_
  refine lv_aload_n hx hb d_CP_ask_11 rfl (lv_at hl 2 rfl) ?_
  refine lv_iload_n hx hb d_CP_ask_12 rfl (lv_at hl 0 rfl) ?_
  obtain ⟨M13, hq13, h⟩ := cz_ubv h
  refine iv_CP_290 (rest := []) S hl.1 hP hS (c_CP_askForBody l hD M1 a1 r1 k1 hq13) ⟨Nat.le_of_ble_eq_true rfl, Nat.le_of_ble_eq_true rfl⟩ (Nat.le_of_ble_eq_true rfl) rfl d_CP_ask_13 (fun H locs hP hS => ?_)
  refine lv_iconst (v := 1) hx hb d_CP_ask_16 (by decide) ?_
  exact cz_zreth S hr hlocks hP hS h rfl d_CP_ask_17
set_option maxHeartbeats 4000000 in
set_option maxRecDepth 100000 in
theorem c_CP_work (l : Launch) {X : cz_X} {A : Nat → Prop} (hD : ∀ M, va_D A (cp_wl X M)) (M : cz_M) {r2 : Int32} {M2 : cz_M} (h : f_CP_work M = some (r2, M2)) : cp_Ct l X A y_CP_work (Cond.code y_CP_work b_CP_work 3 (some .int) :: cz_T) rm_CP_work [.ref (X.2.1 0)] M (some (.int r2)) M2 := by
  refine cz_Met (by decide) rfl (Nat.le_of_ble_eq_true rfl) hD ?_
  intro p e s m args below meth c hargs S hr hlocks hP ls hl
  have S : cz_Cx p m c b_CP_work 3 s args cz_T "ChainPeers" X.1 cp_cl (cp_tys X) cz_N A (cp_wl X) := S
  have hx := S.1.1
  have hb := S.1.2.1
  have hS : va_S A s.heap s.heap [] := va_S.rf
  have hl : lv_has ls 3 [(0, .ref (X.2.1 0))] := hl
  have hb4 : ∀ (n : Nat) (M : cz_M) (v1 : Int32) (v2 : Int32), cz_lp3 (l_CP_work_4) n M v1 v2 = some (r2, M2) → ∀ (H : Heap) (locs : List Loc) (ls : Array Slot), va_P X.1 cp_cl (cp_wl X M) H → va_S A s.heap H locs → lv_has ls 3 [(0, .ref (X.2.1 0)), (1, .int v1), (2, .int v2)] → W p l e rm_CP_work s m args below meth c H locs 0 0 (MQ below (cz_Qw X.1 cp_cl (some (.int r2)) (cp_wl X M2) A) args s 0 0 A) (F0 m 4 ls []) := by
    refine cz_ind3 (fun rec4 ih4 M v1 v2 h H locs ls hP hS hl => ?_)
    have hb37 : ∀ (M : cz_M) (v1 : Int32) (v2 : Int32), b_CP_work_37 rec4 M v1 v2 = some (r2, M2) → ∀ (H : Heap) (locs : List Loc) (ls : Array Slot), va_P X.1 cp_cl (cp_wl X M) H → va_S A s.heap H locs → lv_has ls 3 [(0, .ref (X.2.1 0)), (1, .int v1), (2, .int v2)] → W p l e rm_CP_work s m args below meth c H locs 0 0 (MQ below (cz_Qw X.1 cp_cl (some (.int r2)) (cp_wl X M2) A) args s 0 0 A) (F0 m 37 ls []) := by
      intro M v1 v2 h H locs ls hP hS hl
      refine lv_iinc (lv' := [(2, .int (v2 + 1)), (0, .ref (X.2.1 0)), (1, .int v1)]) (v := v2 + 1) (k := 2) hx hb d_CP_work_37 hl rfl (cz_inc1 _) (by decide) rfl (fun ls hl => ?_)
      refine lv_goto (tgt := 4) hx hb d_CP_work_40 rfl ?_
      exact ih4 M v1 (v2 + 1) h _ _ _ hP hS (lv_sub hl [1, 2, 0] rfl)
    refine lv_iload_n hx hb d_CP_work_4 rfl (lv_at hl 2 rfl) ?_
    refine lv_iconst (v := 4) hx hb d_CP_work_5 (by decide) ?_
    refine lv_icmp_ge (tgt := 43) hx hb d_CP_work_6 rfl (fun hc => ?_) (fun hc => ?_)
    · have h := cz_t hc h
      refine lv_iload_n hx hb d_CP_work_43 rfl (lv_at hl 1 rfl) ?_
      exact cz_ireth S hr hlocks hP hS h d_CP_work_44
    have h := cz_f hc h
    refine lv_aload_n hx hb d_CP_work_9 rfl (lv_at hl 0 rfl) ?_
    refine gf_CP_35 S hP d_CP_work_10 ?_
    refine lv_iload_n hx hb d_CP_work_13 rfl (lv_at hl 2 rfl) ?_
    obtain ⟨hin14, h⟩ := cz_ck h
    refine cp_aaPA S hP hin14 d_CP_work_14 ?_
    obtain ⟨r15, M15, hq15, h⟩ := cz_ubi h
    refine iv_CP_119 (rest := []) S hl.1 hP hS (c_Peer_isIdle l hD M (2 + 2 * v2.toNatClampNeg) (cp_peer hin14) hq15) (cp_peer hin14) ⟨Nat.le_of_ble_eq_true rfl, Nat.le_of_ble_eq_true rfl⟩ (Nat.le_of_ble_eq_true rfl) rfl d_CP_work_15 (fun H locs hP hS => ?_)
    refine lv_if_eq (tgt := 37) hx hb d_CP_work_18 rfl (fun hc => ?_) (fun hc => ?_)
    · have h := cz_t hc h
      exact hb37 M15 v1 v2 h _ _ _ hP hS (lv_sub hl [0, 1, 2] rfl)
    have h := cz_f hc h
    refine lv_aload_n hx hb d_CP_work_21 rfl (lv_at hl 0 rfl) ?_
    refine lv_aload_n hx hb d_CP_work_22 rfl (lv_at hl 0 rfl) ?_
    refine gf_CP_35 S hP d_CP_work_23 ?_
    refine lv_iload_n hx hb d_CP_work_26 rfl (lv_at hl 2 rfl) ?_
    obtain ⟨hin27, h⟩ := cz_ck h
    refine cp_aaPA S hP hin27 d_CP_work_27 ?_
    obtain ⟨r28, M28, hq28, h⟩ := cz_ubi h
    refine iv_CP_122 (rest := []) S hl.1 hP hS (c_CP_ask l hD M15 (2 + 2 * v2.toNatClampNeg) (cp_peer hin27) hq28) ⟨Nat.le_of_ble_eq_true rfl, Nat.le_of_ble_eq_true rfl⟩ (Nat.le_of_ble_eq_true rfl) rfl d_CP_work_28 (fun H locs hP hS => ?_)
    refine lv_if_eq (tgt := 37) hx hb d_CP_work_31 rfl (fun hc => ?_) (fun hc => ?_)
    · have h := cz_t hc h
      exact hb37 M28 v1 v2 h _ _ _ hP hS (lv_sub hl [0, 1, 2] rfl)
    have h := cz_f hc h
    refine lv_iinc (lv' := [(1, .int (v1 + 1)), (0, .ref (X.2.1 0)), (2, .int v2)]) (v := v1 + 1) (k := 1) hx hb d_CP_work_34 hl rfl (cz_inc1 _) (by decide) rfl (fun ls hl => ?_)
    exact hb37 M28 (v1 + 1) v2 h _ _ _ hP hS (lv_sub hl [1, 0, 2] rfl)
  refine lv_iconst (v := 0) hx hb d_CP_work_0 (by decide) ?_
  refine lv_istore_n (lv' := [(1, .int (0 : Int32)), (0, .ref (X.2.1 0))]) hx hb d_CP_work_1 rfl hl (by decide) rfl (fun ls hl => ?_)
  refine lv_iconst (v := 0) hx hb d_CP_work_2 (by decide) ?_
  refine lv_istore_n (lv' := [(2, .int (0 : Int32)), (1, .int (0 : Int32)), (0, .ref (X.2.1 0))]) hx hb d_CP_work_3 rfl hl (by decide) rfl (fun ls hl => ?_)
  exact hb4 _ M (0 : Int32) (0 : Int32) h _ _ _ hP hS (lv_sub hl [2, 1, 0] rfl)
set_option maxHeartbeats 4000000 in
set_option maxRecDepth 100000 in
theorem c_CP_loseLateRequests (l : Launch) {X : cz_X} {A : Nat → Prop} (hD : ∀ M, va_D A (cp_wl X M)) (M : cz_M) {r2 : Int32} {M2 : cz_M} (h : f_CP_loseLateRequests M = some (r2, M2)) : cp_Ct l X A y_CP_loseLateRequests (Cond.code y_CP_loseLateRequests b_CP_loseLateRequests 3 (some .int) :: cz_T) rm_CP_loseLateRequests [.ref (X.2.1 0)] M (some (.int r2)) M2 := by
  refine cz_Met (by decide) rfl (Nat.le_of_ble_eq_true rfl) hD ?_
  intro p e s m args below meth c hargs S hr hlocks hP ls hl
  have S : cz_Cx p m c b_CP_loseLateRequests 3 s args cz_T "ChainPeers" X.1 cp_cl (cp_tys X) cz_N A (cp_wl X) := S
  have hx := S.1.1
  have hb := S.1.2.1
  have hS : va_S A s.heap s.heap [] := va_S.rf
  have hl : lv_has ls 3 [(0, .ref (X.2.1 0))] := hl
  have hb4 : ∀ (n : Nat) (M : cz_M) (v1 : Int32) (v2 : Int32), cz_lp3 (l_CP_loseLateRequests_4) n M v1 v2 = some (r2, M2) → ∀ (H : Heap) (locs : List Loc) (ls : Array Slot), va_P X.1 cp_cl (cp_wl X M) H → va_S A s.heap H locs → lv_has ls 3 [(0, .ref (X.2.1 0)), (1, .int v1), (2, .int v2)] → W p l e rm_CP_loseLateRequests s m args below meth c H locs 0 0 (MQ below (cz_Qw X.1 cp_cl (some (.int r2)) (cp_wl X M2) A) args s 0 0 A) (F0 m 4 ls []) := by
    refine cz_ind3 (fun rec4 ih4 M v1 v2 h H locs ls hP hS hl => ?_)
    have hb47 : ∀ (M : cz_M) (v1 : Int32) (v2 : Int32), b_CP_loseLateRequests_47 rec4 M v1 v2 = some (r2, M2) → ∀ (H : Heap) (locs : List Loc) (ls : Array Slot), va_P X.1 cp_cl (cp_wl X M) H → va_S A s.heap H locs → lv_has ls 3 [(0, .ref (X.2.1 0)), (1, .int v1), (2, .int v2)] → W p l e rm_CP_loseLateRequests s m args below meth c H locs 0 0 (MQ below (cz_Qw X.1 cp_cl (some (.int r2)) (cp_wl X M2) A) args s 0 0 A) (F0 m 47 ls []) := by
      intro M v1 v2 h H locs ls hP hS hl
      refine lv_iinc (lv' := [(2, .int (v2 + 1)), (0, .ref (X.2.1 0)), (1, .int v1)]) (v := v2 + 1) (k := 2) hx hb d_CP_loseLateRequests_47 hl rfl (cz_inc1 _) (by decide) rfl (fun ls hl => ?_)
      refine lv_goto (tgt := 4) hx hb d_CP_loseLateRequests_50 rfl ?_
      exact ih4 M v1 (v2 + 1) h _ _ _ hP hS (lv_sub hl [1, 2, 0] rfl)
    refine lv_iload_n hx hb d_CP_loseLateRequests_4 rfl (lv_at hl 2 rfl) ?_
    refine lv_iconst (v := 4) hx hb d_CP_loseLateRequests_5 (by decide) ?_
    refine lv_icmp_ge (tgt := 53) hx hb d_CP_loseLateRequests_6 rfl (fun hc => ?_) (fun hc => ?_)
    · have h := cz_t hc h
      refine lv_iload_n hx hb d_CP_loseLateRequests_53 rfl (lv_at hl 1 rfl) ?_
      exact cz_ireth S hr hlocks hP hS h d_CP_loseLateRequests_54
    have h := cz_f hc h
    refine lv_aload_n hx hb d_CP_loseLateRequests_9 rfl (lv_at hl 0 rfl) ?_
    refine gf_CP_35 S hP d_CP_loseLateRequests_10 ?_
    refine lv_iload_n hx hb d_CP_loseLateRequests_13 rfl (lv_at hl 2 rfl) ?_
    obtain ⟨hin14, h⟩ := cz_ck h
    refine cp_aaPA S hP hin14 d_CP_loseLateRequests_14 ?_
    refine lv_aload_n hx hb d_CP_loseLateRequests_15 rfl (lv_at hl 0 rfl) ?_
    refine gf_CP_126 S hP d_CP_loseLateRequests_16 ?_
    obtain ⟨r19, M19, hq19, h⟩ := cz_ubi h
    refine iv_CP_310 (rest := []) S hl.1 hP hS (c_Peer_isLate l hD M (2 + 2 * v2.toNatClampNeg) (M.1 0 9) (cp_peer hin14) hq19) (cp_peer hin14) ⟨Nat.le_of_ble_eq_true rfl, Nat.le_of_ble_eq_true rfl⟩ (Nat.le_of_ble_eq_true rfl) rfl d_CP_loseLateRequests_19 (fun H locs hP hS => ?_)
    refine lv_if_eq (tgt := 47) hx hb d_CP_loseLateRequests_22 rfl (fun hc => ?_) (fun hc => ?_)
    · have h := cz_t hc h
      exact hb47 M19 v1 v2 h _ _ _ hP hS (lv_sub hl [0, 1, 2] rfl)
    have h := cz_f hc h
    refine lv_aload_n hx hb d_CP_loseLateRequests_25 rfl (lv_at hl 0 rfl) ?_
    refine gf_CP_35 S hP d_CP_loseLateRequests_26 ?_
    refine lv_iload_n hx hb d_CP_loseLateRequests_29 rfl (lv_at hl 2 rfl) ?_
    obtain ⟨hin30, h⟩ := cz_ck h
    refine cp_aaPA S hP hin30 d_CP_loseLateRequests_30 ?_
    obtain ⟨M31, hq31, h⟩ := cz_ubv h
    refine iv_CP_225 (rest := []) S hl.1 hP hS (c_Peer_dropRequest l hD M19 (2 + 2 * v2.toNatClampNeg) (cp_peer hin30) hq31) (cp_peer hin30) ⟨Nat.le_of_ble_eq_true rfl, Nat.le_of_ble_eq_true rfl⟩ (Nat.le_of_ble_eq_true rfl) rfl d_CP_loseLateRequests_31 (fun H locs hP hS => ?_)
    refine lv_aload_n hx hb d_CP_loseLateRequests_34 rfl (lv_at hl 0 rfl) ?_
    refine gf_CP_35 S hP d_CP_loseLateRequests_35 ?_
    refine lv_iload_n hx hb d_CP_loseLateRequests_38 rfl (lv_at hl 2 rfl) ?_
    obtain ⟨hin39, h⟩ := cz_ck h
    refine cp_aaPA S hP hin39 d_CP_loseLateRequests_39 ?_
    refine lv_iconst (v := 1) hx hb d_CP_loseLateRequests_40 (by decide) ?_
    obtain ⟨M41, hq41, h⟩ := cz_ubv h
    refine iv_CP_99 (rest := []) S hl.1 hP hS (c_Peer_fault l hD M31 (2 + 2 * v2.toNatClampNeg) (1 : Int32) (cp_peer hin39) hq41) (cp_peer hin39) ⟨Nat.le_of_ble_eq_true rfl, Nat.le_of_ble_eq_true rfl⟩ (Nat.le_of_ble_eq_true rfl) rfl d_CP_loseLateRequests_41 (fun H locs hP hS => ?_)
    refine lv_iinc (lv' := [(1, .int (v1 + 1)), (0, .ref (X.2.1 0)), (2, .int v2)]) (v := v1 + 1) (k := 1) hx hb d_CP_loseLateRequests_44 hl rfl (cz_inc1 _) (by decide) rfl (fun ls hl => ?_)
    exact hb47 M41 (v1 + 1) v2 h _ _ _ hP hS (lv_sub hl [1, 0, 2] rfl)
  refine lv_iconst (v := 0) hx hb d_CP_loseLateRequests_0 (by decide) ?_
  refine lv_istore_n (lv' := [(1, .int (0 : Int32)), (0, .ref (X.2.1 0))]) hx hb d_CP_loseLateRequests_1 rfl hl (by decide) rfl (fun ls hl => ?_)
  refine lv_iconst (v := 0) hx hb d_CP_loseLateRequests_2 (by decide) ?_
  refine lv_istore_n (lv' := [(2, .int (0 : Int32)), (1, .int (0 : Int32)), (0, .ref (X.2.1 0))]) hx hb d_CP_loseLateRequests_3 rfl hl (by decide) rfl (fun ls hl => ?_)
  exact hb4 _ M (0 : Int32) (0 : Int32) h _ _ _ hP hS (lv_sub hl [2, 1, 0] rfl)
set_option maxHeartbeats 4000000 in
set_option maxRecDepth 100000 in
theorem c_CP_tick (l : Launch) {X : cz_X} {A : Nat → Prop} (hD : ∀ M, va_D A (cp_wl X M)) (M : cz_M) (a1 : Int32) {r2 : Int32} {M2 : cz_M} (h : f_CP_tick M a1 = some (r2, M2)) : cp_Ct l X A y_CP_tick (Cond.code y_CP_tick b_CP_tick 4 (some .int) :: cz_T) rm_CP_tick [.ref (X.2.1 0), .int a1] M (some (.int r2)) M2 := by
  refine cz_Met (by decide) rfl (Nat.le_of_ble_eq_true rfl) hD ?_
  intro p e s m args below meth c hargs S hr hlocks hP ls hl
  have S : cz_Cx p m c b_CP_tick 4 s args cz_T "ChainPeers" X.1 cp_cl (cp_tys X) cz_N A (cp_wl X) := S
  have hx := S.1.1
  have hb := S.1.2.1
  have hS : va_S A s.heap s.heap [] := va_S.rf
  have hl : lv_has ls 4 [(0, .ref (X.2.1 0)), (1, .int a1)] := hl
  have hb16 : ∀ (n : Nat) (M : cz_M) (v2 : Int32) (v3 : Int32), cz_lp3 (l_CP_tick_16 a1) n M v2 v3 = some (r2, M2) → ∀ (H : Heap) (locs : List Loc) (ls : Array Slot), va_P X.1 cp_cl (cp_wl X M) H → va_S A s.heap H locs → lv_has ls 4 [(0, .ref (X.2.1 0)), (1, .int a1), (2, .int v2), (3, .int v3)] → W p l e rm_CP_tick s m args below meth c H locs 0 0 (MQ below (cz_Qw X.1 cp_cl (some (.int r2)) (cp_wl X M2) A) args s 0 0 A) (F0 m 16 ls []) := by
    refine cz_ind3 (fun rec16 ih16 M v2 v3 h H locs ls hP hS hl => ?_)
    refine lv_iload_n hx hb d_CP_tick_16 rfl (lv_at hl 3 rfl) ?_
    refine lv_iload_n hx hb d_CP_tick_17 rfl (lv_at hl 1 rfl) ?_
    refine lv_icmp_ge (tgt := 44) hx hb d_CP_tick_18 rfl (fun hc => ?_) (fun hc => ?_)
    · have h := cz_t hc h
      refine lv_iload_n hx hb d_CP_tick_44 rfl (lv_at hl 2 rfl) ?_
      exact cz_ireth S hr hlocks hP hS h d_CP_tick_45
    have h := cz_f hc h
    refine lv_aload_n hx hb d_CP_tick_21 rfl (lv_at hl 0 rfl) ?_
    refine lv_dup hx hb d_CP_tick_22 rfl ?_
    refine gf_CP_126 S hP d_CP_tick_23 ?_
    refine lv_iconst (v := 1) hx hb d_CP_tick_26 (by decide) ?_
    refine lv_iadd hx hb d_CP_tick_27 ?_
    refine pf_CP_126 S hP hS d_CP_tick_28 (fun H locs hP hS => ?_)
    refine lv_iload_n hx hb d_CP_tick_31 rfl (lv_at hl 2 rfl) ?_
    refine lv_aload_n hx hb d_CP_tick_32 rfl (lv_at hl 0 rfl) ?_
    obtain ⟨r33, M33, hq33, h⟩ := cz_ubi h
    refine iv_CP_129 (rest := [.int v2]) S hl.1 hP hS (c_CP_loseLateRequests l hD (cz_i M 0 9 ((M.1 0 9) + (1 : Int32))) hq33) ⟨Nat.le_of_ble_eq_true rfl, Nat.le_of_ble_eq_true rfl⟩ (Nat.le_of_ble_eq_true rfl) rfl d_CP_tick_33 (fun H locs hP hS => ?_)
    refine lv_iadd hx hb d_CP_tick_36 ?_
    refine lv_istore_n (lv' := [(2, .int (v2 + r33)), (0, .ref (X.2.1 0)), (1, .int a1), (3, .int v3)]) hx hb d_CP_tick_37 rfl hl (by decide) rfl (fun ls hl => ?_)
    refine lv_iinc (lv' := [(3, .int (v3 + 1)), (2, .int (v2 + r33)), (0, .ref (X.2.1 0)), (1, .int a1)]) (v := v3 + 1) (k := 3) hx hb d_CP_tick_38 hl rfl (cz_inc1 _) (by decide) rfl (fun ls hl => ?_)
    refine lv_goto (tgt := 16) hx hb d_CP_tick_41 rfl ?_
    exact ih16 M33 (v2 + r33) (v3 + 1) h _ _ _ hP hS (lv_sub hl [2, 3, 1, 0] rfl)
  refine lv_iload_n hx hb d_CP_tick_0 rfl (lv_at hl 1 rfl) ?_
  refine lv_if_lt (tgt := 10) hx hb d_CP_tick_1 rfl (fun hc => ?_) (fun hc => ?_)
  · have h := cz_t hc h
    refine lv_iconst (v := -1) hx hb d_CP_tick_10 (by decide) ?_
    exact cz_ireth S hr hlocks hP hS h d_CP_tick_11
  have h := cz_f hc h
  refine lv_iload_n hx hb d_CP_tick_4 rfl (lv_at hl 1 rfl) ?_
  refine lv_bipush (v := 50) hx hb d_CP_tick_5 (by decide) ?_
  refine lv_icmp_le (tgt := 12) hx hb d_CP_tick_7 rfl (fun hc => ?_) (fun hc => ?_)
  · have h := cz_t hc h
    refine lv_iconst (v := 0) hx hb d_CP_tick_12 (by decide) ?_
    refine lv_istore_n (lv' := [(2, .int (0 : Int32)), (0, .ref (X.2.1 0)), (1, .int a1)]) hx hb d_CP_tick_13 rfl hl (by decide) rfl (fun ls hl => ?_)
    refine lv_iconst (v := 0) hx hb d_CP_tick_14 (by decide) ?_
    refine lv_istore_n (lv' := [(3, .int (0 : Int32)), (2, .int (0 : Int32)), (0, .ref (X.2.1 0)), (1, .int a1)]) hx hb d_CP_tick_15 rfl hl (by decide) rfl (fun ls hl => ?_)
    exact hb16 _ M (0 : Int32) (0 : Int32) h _ _ _ hP hS (lv_sub hl [2, 3, 1, 0] rfl)
  have h := cz_f hc h
  refine lv_iconst (v := -1) hx hb d_CP_tick_10 (by decide) ?_
  exact cz_ireth S hr hlocks hP hS h d_CP_tick_11
set_option maxHeartbeats 4000000 in
set_option maxRecDepth 100000 in
theorem c_CP_seal (l : Launch) {X : cz_X} {A : Nat → Prop} (hD : ∀ M, va_D A (cp_wl X M)) (M : cz_M) (a1 : Int32) (a2 : Int32) (a3 : Int32) {r2 : Int32} {M2 : cz_M} (h : f_CP_seal M a1 a2 a3 = some (r2, M2)) : cp_Ct l X A y_CP_seal (Cond.code y_CP_seal b_CP_seal 7 (some .int) :: cz_T) rm_CP_seal [.ref (X.2.1 0), .int a1, .int a2, .int a3] M (some (.int r2)) M2 := by
  refine cz_Met (by decide) rfl (Nat.le_of_ble_eq_true rfl) hD ?_
  intro p e s m args below meth c hargs S hr hlocks hP ls hl
  have S : cz_Cx p m c b_CP_seal 7 s args cz_T "ChainPeers" X.1 cp_cl (cp_tys X) cz_N A (cp_wl X) := S
  have hx := S.1.1
  have hb := S.1.2.1
  have hS : va_S A s.heap s.heap [] := va_S.rf
  have hl : lv_has ls 7 [(0, .ref (X.2.1 0)), (1, .int a1), (2, .int a2), (3, .int a3)] := hl
  have hb18 : ∀ (M : cz_M) (v4 : Int32) (s0 : Int32), b_CP_seal_18 a1 a2 a3 M v4 s0 = some (r2, M2) → ∀ (H : Heap) (locs : List Loc) (ls : Array Slot), va_P X.1 cp_cl (cp_wl X M) H → va_S A s.heap H locs → lv_has ls 7 [(0, .ref (X.2.1 0)), (1, .int a1), (2, .int a2), (3, .int a3), (4, .int v4)] → W p l e rm_CP_seal s m args below meth c H locs 0 0 (MQ below (cz_Qw X.1 cp_cl (some (.int r2)) (cp_wl X M2) A) args s 0 0 A) (F0 m 18 ls [.int s0]) := by
    intro M v4 s0 h H locs ls hP hS hl
    refine lv_istore (lv' := [(5, .int s0), (0, .ref (X.2.1 0)), (1, .int a1), (2, .int a2), (3, .int a3), (4, .int v4)]) hx hb d_CP_seal_18 hl (by decide) rfl (fun ls hl => ?_)
    refine lv_aload_n hx hb d_CP_seal_20 rfl (lv_at hl 1 rfl) ?_
    refine gf_CP_43 S hP d_CP_seal_21 ?_
    refine lv_iconst (v := 0) hx hb d_CP_seal_24 (by decide) ?_
    refine lv_iload_n hx hb d_CP_seal_25 rfl (lv_at hl 4 rfl) ?_
    obtain ⟨hin26, h⟩ := cz_ck h
    refine cp_is S hP hS cp_k28 hin26 d_CP_seal_26 (fun H locs hP hS => ?_)
    refine lv_aload_n hx hb d_CP_seal_27 rfl (lv_at hl 1 rfl) ?_
    refine gf_CP_39 S hP d_CP_seal_28 ?_
    refine lv_iconst (v := 0) hx hb d_CP_seal_31 (by decide) ?_
    refine lv_aload_n hx hb d_CP_seal_32 rfl (lv_at hl 1 rfl) ?_
    refine gf_CP_29 S hP d_CP_seal_33 ?_
    refine gf_CP_136 S hP d_CP_seal_36 ?_
    refine lv_iload hx hb d_CP_seal_39 (lv_at hl 5 rfl) ?_
    obtain ⟨hin41, h⟩ := cz_ck h
    refine cp_ia S hP cp_k21 hin41 d_CP_seal_41 ?_
    obtain ⟨hin42, h⟩ := cz_ck h
    refine cp_is S hP hS cp_k27 hin42 d_CP_seal_42 (fun H locs hP hS => ?_)
    refine lv_aload_n hx hb d_CP_seal_43 rfl (lv_at hl 1 rfl) ?_
    refine gf_CP_39 S hP d_CP_seal_44 ?_
    refine lv_iconst (v := 1) hx hb d_CP_seal_47 (by decide) ?_
    refine lv_aload_n hx hb d_CP_seal_48 rfl (lv_at hl 1 rfl) ?_
    refine gf_CP_29 S hP d_CP_seal_49 ?_
    refine lv_iload hx hb d_CP_seal_52 (lv_at hl 5 rfl) ?_
    obtain ⟨r54, M54, hq54, h⟩ := cz_ubi h
    refine iv_CP_139 (rest := [.int (1 : Int32), .ref (X.2.1 27)]) S hl.1 hP hS (c_Blocks_numberOf l hD (cz_i (cz_i M 28 (0 : Int32).toNatClampNeg a3) 27 (0 : Int32).toNatClampNeg ((cz_i M 28 (0 : Int32).toNatClampNeg a3).1 21 v4.toNatClampNeg)) v4 hq54) ⟨Nat.le_of_ble_eq_true rfl, Nat.le_of_ble_eq_true rfl⟩ (Nat.le_of_ble_eq_true rfl) rfl d_CP_seal_54 (fun H locs hP hS => ?_)
    refine lv_iconst (v := 1) hx hb d_CP_seal_57 (by decide) ?_
    refine lv_iadd hx hb d_CP_seal_58 ?_
    obtain ⟨hin59, h⟩ := cz_ck h
    refine cp_is S hP hS cp_k27 hin59 d_CP_seal_59 (fun H locs hP hS => ?_)
    refine lv_aload_n hx hb d_CP_seal_60 rfl (lv_at hl 1 rfl) ?_
    refine gf_CP_39 S hP d_CP_seal_61 ?_
    refine lv_iconst (v := 2) hx hb d_CP_seal_64 (by decide) ?_
    refine lv_iload_n hx hb d_CP_seal_65 rfl (lv_at hl 2 rfl) ?_
    obtain ⟨hin66, h⟩ := cz_ck h
    refine cp_is S hP hS cp_k27 hin66 d_CP_seal_66 (fun H locs hP hS => ?_)
    refine lv_aload_n hx hb d_CP_seal_67 rfl (lv_at hl 1 rfl) ?_
    refine gf_CP_39 S hP d_CP_seal_68 ?_
    refine lv_iconst (v := 3) hx hb d_CP_seal_71 (by decide) ?_
    refine lv_iload_n hx hb d_CP_seal_72 rfl (lv_at hl 3 rfl) ?_
    obtain ⟨hin73, h⟩ := cz_ck h
    refine cp_is S hP hS cp_k27 hin73 d_CP_seal_73 (fun H locs hP hS => ?_)
    refine lv_aload_n hx hb d_CP_seal_74 rfl (lv_at hl 1 rfl) ?_
    refine gf_CP_39 S hP d_CP_seal_75 ?_
    refine lv_iconst (v := 4) hx hb d_CP_seal_78 (by decide) ?_
    refine lv_aload_n hx hb d_CP_seal_79 rfl (lv_at hl 1 rfl) ?_
    refine gf_CP_43 S hP d_CP_seal_80 ?_
    refine lv_iload hx hb d_CP_seal_83 (lv_at hl 0 rfl) ?_
    obtain ⟨r85, M85, hq85, h⟩ := cz_ubi h
    refine iv_CP_142 (rest := [.int (4 : Int32), .ref (X.2.1 27)]) S hl.1 hP hS (c_CP_rootOf l hD (cz_i (cz_i (cz_i M54 27 (1 : Int32).toNatClampNeg (r54 + (1 : Int32))) 27 (2 : Int32).toNatClampNeg a1) 27 (3 : Int32).toNatClampNeg a2) 28 s0 cp_k28 hq85) ⟨Nat.le_of_ble_eq_true rfl, Nat.le_of_ble_eq_true rfl⟩ (Nat.le_of_ble_eq_true rfl) rfl d_CP_seal_85 (fun H locs hP hS => ?_)
    obtain ⟨hin88, h⟩ := cz_ck h
    refine cp_is S hP hS cp_k27 hin88 d_CP_seal_88 (fun H locs hP hS => ?_)
    refine lv_aload_n hx hb d_CP_seal_89 rfl (lv_at hl 1 rfl) ?_
    refine gf_CP_29 S hP d_CP_seal_90 ?_
    refine lv_aload_n hx hb d_CP_seal_93 rfl (lv_at hl 1 rfl) ?_
    refine gf_CP_39 S hP d_CP_seal_94 ?_
    obtain ⟨r97, M97, hq97, h⟩ := cz_ubi h
    refine iv_CP_146 (rest := []) S hl.1 hP hS (c_Blocks_isGood l hD (cz_i M85 27 (4 : Int32).toNatClampNeg r85) 27 cp_k27 hq97) ⟨Nat.le_of_ble_eq_true rfl, Nat.le_of_ble_eq_true rfl⟩ (Nat.le_of_ble_eq_true rfl) rfl d_CP_seal_97 (fun H locs hP hS => ?_)
    refine lv_if_eq (tgt := 130) hx hb d_CP_seal_100 rfl (fun hc => ?_) (fun hc => ?_)
    · have h := cz_t hc h
      refine lv_iconst (v := -1) hx hb d_CP_seal_130 (by decide) ?_
      exact cz_ireth S hr hlocks hP hS h d_CP_seal_131
    have h := cz_f hc h
    refine lv_aload_n hx hb d_CP_seal_103 rfl (lv_at hl 1 rfl) ?_
    refine gf_CP_29 S hP d_CP_seal_104 ?_
    refine lv_aload_n hx hb d_CP_seal_107 rfl (lv_at hl 1 rfl) ?_
    refine gf_CP_39 S hP d_CP_seal_108 ?_
    obtain ⟨r111, M111, hq111, h⟩ := cz_ubi h
    refine iv_CP_150 (rest := [.ref (X.2.1 19)]) S hl.1 hP hS (c_CP_hashOf l hD M97 27 cp_k27 hq111) ⟨Nat.le_of_ble_eq_true rfl, Nat.le_of_ble_eq_true rfl⟩ (Nat.le_of_ble_eq_true rfl) rfl d_CP_seal_111 (fun H locs hP hS => ?_)
    obtain ⟨r114, M114, hq114, h⟩ := cz_ubi h
    refine iv_CP_154 (rest := []) S hl.1 hP hS (c_Blocks_isKnown l hD M111 r111 hq114) ⟨Nat.le_of_ble_eq_true rfl, Nat.le_of_ble_eq_true rfl⟩ (Nat.le_of_ble_eq_true rfl) rfl d_CP_seal_114 (fun H locs hP hS => ?_)
    refine lv_if_ne (tgt := 130) hx hb d_CP_seal_117 rfl (fun hc => ?_) (fun hc => ?_)
    · have h := cz_f hc h
      refine lv_iconst (v := -1) hx hb d_CP_seal_130 (by decide) ?_
      exact cz_ireth S hr hlocks hP hS h d_CP_seal_131
    have h := cz_t hc h
    refine lv_aload_n hx hb d_CP_seal_120 rfl (lv_at hl 1 rfl) ?_
    refine gf_CP_29 S hP d_CP_seal_121 ?_
    obtain ⟨r124, M124, hq124, h⟩ := cz_ubi h
    refine iv_CP_157 (rest := []) S hl.1 hP hS (c_Blocks_isFull l hD M114 hq124) ⟨Nat.le_of_ble_eq_true rfl, Nat.le_of_ble_eq_true rfl⟩ (Nat.le_of_ble_eq_true rfl) rfl d_CP_seal_124 (fun H locs hP hS => ?_)
    refine lv_if_eq (tgt := 132) hx hb d_CP_seal_127 rfl (fun hc => ?_) (fun hc => ?_)
    · have h := cz_t hc h
      refine lv_aload_n hx hb d_CP_seal_132 rfl (lv_at hl 1 rfl) ?_
      refine gf_CP_29 S hP d_CP_seal_133 ?_
      refine gf_CP_160 S hP d_CP_seal_136 ?_
      refine lv_istore (lv' := [(6, .int (M124.1 19 7)), (5, .int s0), (0, .ref (X.2.1 0)), (1, .int a1), (2, .int a2), (3, .int a3), (4, .int v4)]) hx hb d_CP_seal_139 hl (by decide) rfl (fun ls hl => ?_)
      refine lv_aload_n hx hb d_CP_seal_141 rfl (lv_at hl 2 rfl) ?_
      refine gf_CP_29 S hP d_CP_seal_142 ?_
      refine lv_aload_n hx hb d_CP_seal_145 rfl (lv_at hl 2 rfl) ?_
      refine gf_CP_39 S hP d_CP_seal_146 ?_
      obtain ⟨M149, hq149, h⟩ := cz_ubv h
      refine iv_CP_163 (rest := []) S hl.1 hP hS (c_Blocks_append l hD M124 27 cp_k27 hq149) ⟨Nat.le_of_ble_eq_true rfl, Nat.le_of_ble_eq_true rfl⟩ (Nat.le_of_ble_eq_true rfl) rfl d_CP_seal_149 (fun H locs hP hS => ?_)
      refine lv_aload_n hx hb d_CP_seal_152 rfl (lv_at hl 2 rfl) ?_
      refine gf_CP_29 S hP d_CP_seal_153 ?_
      refine lv_iload hx hb d_CP_seal_156 (lv_at hl 0 rfl) ?_
      refine lv_aload_n hx hb d_CP_seal_158 rfl (lv_at hl 2 rfl) ?_
      refine gf_CP_43 S hP d_CP_seal_159 ?_
      refine lv_iload hx hb d_CP_seal_162 (lv_at hl 1 rfl) ?_
      obtain ⟨M164, hq164, h⟩ := cz_ubv h
      refine iv_CP_167 (rest := []) S hl.1 hP hS (c_Blocks_setBody l hD M149 (M124.1 19 7) 28 s0 cp_k28 hq164) ⟨Nat.le_of_ble_eq_true rfl, Nat.le_of_ble_eq_true rfl⟩ (Nat.le_of_ble_eq_true rfl) rfl d_CP_seal_164 (fun H locs hP hS => ?_)
      refine lv_iload hx hb d_CP_seal_167 (lv_at hl 0 rfl) ?_
      exact cz_ireth S hr hlocks hP hS h d_CP_seal_169
    have h := cz_f hc h
    refine lv_iconst (v := -1) hx hb d_CP_seal_130 (by decide) ?_
    exact cz_ireth S hr hlocks hP hS h d_CP_seal_131
  refine lv_aload_n hx hb d_CP_seal_0 rfl (lv_at hl 0 rfl) ?_
  refine gf_CP_29 S hP d_CP_seal_1 ?_
  obtain ⟨r4, M4, hq4, h⟩ := cz_ubi h
  refine iv_CP_133 (rest := []) S hl.1 hP hS (c_Blocks_head l hD M hq4) ⟨Nat.le_of_ble_eq_true rfl, Nat.le_of_ble_eq_true rfl⟩ (Nat.le_of_ble_eq_true rfl) rfl d_CP_seal_4 (fun H locs hP hS => ?_)
  refine lv_istore (lv' := [(4, .int r4), (0, .ref (X.2.1 0)), (1, .int a1), (2, .int a2), (3, .int a3)]) hx hb d_CP_seal_7 hl (by decide) rfl (fun ls hl => ?_)
  refine lv_iload_n hx hb d_CP_seal_9 rfl (lv_at hl 4 rfl) ?_
  refine lv_if_ge (tgt := 17) hx hb d_CP_seal_10 rfl (fun hc => ?_) (fun hc => ?_)
  · have h := cz_t hc h
    refine lv_iconst (v := 1) hx hb d_CP_seal_17 (by decide) ?_
    exact hb18 M4 r4 (1 : Int32) h _ _ _ hP hS (lv_sub hl [1, 2, 3, 4, 0] rfl)
  have h := cz_f hc h
  refine lv_iconst (v := 0) hx hb d_CP_seal_13 (by decide) ?_
  refine lv_goto (tgt := 18) hx hb d_CP_seal_14 rfl ?_
  exact hb18 M4 r4 (0 : Int32) h _ _ _ hP hS (lv_sub hl [1, 2, 3, 4, 0] rfl)
set_option maxHeartbeats 4000000 in
set_option maxRecDepth 100000 in
theorem c_CP_peer (l : Launch) {X : cz_X} {A : Nat → Prop} (hD : ∀ M, va_D A (cp_wl X M)) (M : cz_M) (a1 : Int32) (a2 : Int32) {r2 : Int32} {M2 : cz_M} (h : f_CP_peer M a1 a2 = some (r2, M2)) : cp_Ct l X A y_CP_peer (Cond.code y_CP_peer b_CP_peer 3 (some .int) :: cz_T) rm_CP_peer [.ref (X.2.1 0), .int a1, .int a2] M (some (.int r2)) M2 := by
  refine cz_Met (by decide) rfl (Nat.le_of_ble_eq_true rfl) hD ?_
  intro p e s m args below meth c hargs S hr hlocks hP ls hl
  have S : cz_Cx p m c b_CP_peer 3 s args cz_T "ChainPeers" X.1 cp_cl (cp_tys X) cz_N A (cp_wl X) := S
  have hx := S.1.1
  have hb := S.1.2.1
  have hS : va_S A s.heap s.heap [] := va_S.rf
  have hl : lv_has ls 3 [(0, .ref (X.2.1 0)), (1, .int a1), (2, .int a2)] := hl
  refine lv_iload_n hx hb d_CP_peer_0 rfl (lv_at hl 1 rfl) ?_
  obtain ⟨r1, M1, hq1, h⟩ := cz_ubi h
  refine iv_CP_63 (rest := []) S hl.1 hP hS (c_CP_isPeer l hD M a1 hq1) ⟨Nat.le_of_ble_eq_true rfl, Nat.le_of_ble_eq_true rfl⟩ (Nat.le_of_ble_eq_true rfl) rfl d_CP_peer_1 (fun H locs hP hS => ?_)
  refine lv_if_eq (tgt := 20) hx hb d_CP_peer_4 rfl (fun hc => ?_) (fun hc => ?_)
  · have h := cz_t hc h
    refine lv_iconst (v := 0) hx hb d_CP_peer_20 (by decide) ?_
    exact cz_ireth S hr hlocks hP hS h d_CP_peer_21
  have h := cz_f hc h
  refine lv_aload_n hx hb d_CP_peer_7 rfl (lv_at hl 0 rfl) ?_
  refine gf_CP_35 S hP d_CP_peer_8 ?_
  refine lv_iload_n hx hb d_CP_peer_11 rfl (lv_at hl 1 rfl) ?_
  obtain ⟨hin12, h⟩ := cz_ck h
  refine cp_aaPA S hP hin12 d_CP_peer_12 ?_
  refine lv_iload_n hx hb d_CP_peer_13 rfl (lv_at hl 2 rfl) ?_
  obtain ⟨r14, M14, hq14, h⟩ := cz_ubi h
  refine iv_CP_171 (rest := []) S hl.1 hP hS (c_Peer_look l hD M1 (2 + 2 * a1.toNatClampNeg) a2 (cp_peer hin12) hq14) (cp_peer hin12) ⟨Nat.le_of_ble_eq_true rfl, Nat.le_of_ble_eq_true rfl⟩ (Nat.le_of_ble_eq_true rfl) rfl d_CP_peer_14 (fun H locs hP hS => ?_)
  refine lv_goto (tgt := 21) hx hb d_CP_peer_17 rfl ?_
  exact cz_ireth S hr hlocks hP hS h d_CP_peer_21
set_option maxHeartbeats 4000000 in
set_option maxRecDepth 100000 in
theorem c_CP_block (l : Launch) {X : cz_X} {A : Nat → Prop} (hD : ∀ M, va_D A (cp_wl X M)) (M : cz_M) (a1 : Int32) (a2 : Int32) {r2 : Int32} {M2 : cz_M} (h : f_CP_block M a1 a2 = some (r2, M2)) : cp_Ct l X A y_CP_block (Cond.code y_CP_block b_CP_block 3 (some .int) :: cz_T) rm_CP_block [.ref (X.2.1 0), .int a1, .int a2] M (some (.int r2)) M2 := by
  refine cz_Met (by decide) rfl (Nat.le_of_ble_eq_true rfl) hD ?_
  intro p e s m args below meth c hargs S hr hlocks hP ls hl
  have S : cz_Cx p m c b_CP_block 3 s args cz_T "ChainPeers" X.1 cp_cl (cp_tys X) cz_N A (cp_wl X) := S
  have hx := S.1.1
  have hb := S.1.2.1
  have hS : va_S A s.heap s.heap [] := va_S.rf
  have hl : lv_has ls 3 [(0, .ref (X.2.1 0)), (1, .int a1), (2, .int a2)] := hl
  refine lv_aload_n hx hb d_CP_block_0 rfl (lv_at hl 0 rfl) ?_
  refine gf_CP_29 S hP d_CP_block_1 ?_
  refine lv_iload_n hx hb d_CP_block_4 rfl (lv_at hl 1 rfl) ?_
  refine lv_iload_n hx hb d_CP_block_5 rfl (lv_at hl 2 rfl) ?_
  obtain ⟨r6, M6, hq6, h⟩ := cz_ubi h
  refine iv_CP_174 (rest := []) S hl.1 hP hS (c_Blocks_look l hD M a1 a2 hq6) ⟨Nat.le_of_ble_eq_true rfl, Nat.le_of_ble_eq_true rfl⟩ (Nat.le_of_ble_eq_true rfl) rfl d_CP_block_6 (fun H locs hP hS => ?_)
  exact cz_ireth S hr hlocks hP hS h d_CP_block_9
set_option maxHeartbeats 4000000 in
set_option maxRecDepth 100000 in
theorem c_CP_tx (l : Launch) {X : cz_X} {A : Nat → Prop} (hD : ∀ M, va_D A (cp_wl X M)) (M : cz_M) (a1 : Int32) (a2 : Int32) {r2 : Int32} {M2 : cz_M} (h : f_CP_tx M a1 a2 = some (r2, M2)) : cp_Ct l X A y_CP_tx (Cond.code y_CP_tx b_CP_tx 3 (some .int) :: cz_T) rm_CP_tx [.ref (X.2.1 0), .int a1, .int a2] M (some (.int r2)) M2 := by
  refine cz_Met (by decide) rfl (Nat.le_of_ble_eq_true rfl) hD ?_
  intro p e s m args below meth c hargs S hr hlocks hP ls hl
  have S : cz_Cx p m c b_CP_tx 3 s args cz_T "ChainPeers" X.1 cp_cl (cp_tys X) cz_N A (cp_wl X) := S
  have hx := S.1.1
  have hb := S.1.2.1
  have hS : va_S A s.heap s.heap [] := va_S.rf
  have hl : lv_has ls 3 [(0, .ref (X.2.1 0)), (1, .int a1), (2, .int a2)] := hl
  refine lv_aload_n hx hb d_CP_tx_0 rfl (lv_at hl 0 rfl) ?_
  refine gf_CP_29 S hP d_CP_tx_1 ?_
  refine lv_iload_n hx hb d_CP_tx_4 rfl (lv_at hl 1 rfl) ?_
  refine lv_iload_n hx hb d_CP_tx_5 rfl (lv_at hl 2 rfl) ?_
  obtain ⟨r6, M6, hq6, h⟩ := cz_ubi h
  refine iv_CP_176 (rest := []) S hl.1 hP hS (c_Blocks_hasInBody l hD M a1 a2 hq6) ⟨Nat.le_of_ble_eq_true rfl, Nat.le_of_ble_eq_true rfl⟩ (Nat.le_of_ble_eq_true rfl) rfl d_CP_tx_6 (fun H locs hP hS => ?_)
  refine lv_if_eq (tgt := 26) hx hb d_CP_tx_9 rfl (fun hc => ?_) (fun hc => ?_)
  · have h := cz_t hc h
    refine lv_iconst (v := -1) hx hb d_CP_tx_26 (by decide) ?_
    exact cz_ireth S hr hlocks hP hS h d_CP_tx_27
  have h := cz_f hc h
  refine lv_aload_n hx hb d_CP_tx_12 rfl (lv_at hl 0 rfl) ?_
  refine gf_CP_29 S hP d_CP_tx_13 ?_
  refine gf_CP_180 S hP d_CP_tx_16 ?_
  refine lv_iload_n hx hb d_CP_tx_19 rfl (lv_at hl 1 rfl) ?_
  obtain ⟨hin20, h⟩ := cz_ck h
  refine cp_aaGB S hP hin20 d_CP_tx_20 ?_
  refine lv_iload_n hx hb d_CP_tx_21 rfl (lv_at hl 2 rfl) ?_
  obtain ⟨hin22, h⟩ := cz_ck h
  refine cp_ia S hP (cp_r89 hin20) hin22 d_CP_tx_22 ?_
  refine lv_goto (tgt := 27) hx hb d_CP_tx_23 rfl ?_
  exact cz_ireth S hr hlocks hP hS h d_CP_tx_27
set_option maxHeartbeats 4000000 in
set_option maxRecDepth 100000 in
theorem c_CP_state (l : Launch) {X : cz_X} {A : Nat → Prop} (hD : ∀ M, va_D A (cp_wl X M)) (M : cz_M) (a1 : Int32) {r2 : Int32} {M2 : cz_M} (h : f_CP_state M a1 = some (r2, M2)) : cp_Ct l X A y_CP_state (Cond.code y_CP_state b_CP_state 2 (some .int) :: cz_T) rm_CP_state [.ref (X.2.1 0), .int a1] M (some (.int r2)) M2 := by
  refine cz_Met (by decide) rfl (Nat.le_of_ble_eq_true rfl) hD ?_
  intro p e s m args below meth c hargs S hr hlocks hP ls hl
  have S : cz_Cx p m c b_CP_state 2 s args cz_T "ChainPeers" X.1 cp_cl (cp_tys X) cz_N A (cp_wl X) := S
  have hx := S.1.1
  have hb := S.1.2.1
  have hS : va_S A s.heap s.heap [] := va_S.rf
  have hl : lv_has ls 2 [(0, .ref (X.2.1 0)), (1, .int a1)] := hl
  refine lv_iload_n hx hb d_CP_state_0 rfl (lv_at hl 1 rfl) ?_
  refine (Decidable.em (a1 = (0 : Int32))).elim (fun hc => ?_) (fun hc0 => ?_)
  · have h := cz_t hc h
    refine lv_tableIn (tgt := 36) hx hb d_CP_state_1 (by rw [hc]; decide) (by rw [hc]; decide) (by rw [hc]; rfl) rfl ?_
    refine lv_aload_n hx hb d_CP_state_36 rfl (lv_at hl 0 rfl) ?_
    refine gf_CP_29 S hP d_CP_state_37 ?_
    refine gf_CP_160 S hP d_CP_state_40 ?_
    exact cz_ireth S hr hlocks hP hS h d_CP_state_43
  have h := cz_f hc0 h
  refine (Decidable.em (a1 = (1 : Int32))).elim (fun hc => ?_) (fun hc1 => ?_)
  · have h := cz_t hc h
    refine lv_tableIn (tgt := 44) hx hb d_CP_state_1 (by rw [hc]; decide) (by rw [hc]; decide) (by rw [hc]; rfl) rfl ?_
    refine lv_aload_n hx hb d_CP_state_44 rfl (lv_at hl 0 rfl) ?_
    refine gf_CP_29 S hP d_CP_state_45 ?_
    obtain ⟨r48, M48, hq48, h⟩ := cz_ubi h
    refine iv_CP_184 (rest := []) S hl.1 hP hS (c_Blocks_heaviest l hD M hq48) ⟨Nat.le_of_ble_eq_true rfl, Nat.le_of_ble_eq_true rfl⟩ (Nat.le_of_ble_eq_true rfl) rfl d_CP_state_48 (fun H locs hP hS => ?_)
    exact cz_ireth S hr hlocks hP hS h d_CP_state_51
  have h := cz_f hc1 h
  refine (Decidable.em (a1 = (2 : Int32))).elim (fun hc => ?_) (fun hc2 => ?_)
  · have h := cz_t hc h
    refine lv_tableIn (tgt := 52) hx hb d_CP_state_1 (by rw [hc]; decide) (by rw [hc]; decide) (by rw [hc]; rfl) rfl ?_
    refine lv_aload_n hx hb d_CP_state_52 rfl (lv_at hl 0 rfl) ?_
    refine gf_CP_29 S hP d_CP_state_53 ?_
    obtain ⟨r56, M56, hq56, h⟩ := cz_ubi h
    refine iv_CP_133 (rest := []) S hl.1 hP hS (c_Blocks_head l hD M hq56) ⟨Nat.le_of_ble_eq_true rfl, Nat.le_of_ble_eq_true rfl⟩ (Nat.le_of_ble_eq_true rfl) rfl d_CP_state_56 (fun H locs hP hS => ?_)
    exact cz_ireth S hr hlocks hP hS h d_CP_state_59
  have h := cz_f hc2 h
  refine (Decidable.em (a1 = (3 : Int32))).elim (fun hc => ?_) (fun hc3 => ?_)
  · have h := cz_t hc h
    refine lv_tableIn (tgt := 60) hx hb d_CP_state_1 (by rw [hc]; decide) (by rw [hc]; decide) (by rw [hc]; rfl) rfl ?_
    refine lv_aload_n hx hb d_CP_state_60 rfl (lv_at hl 0 rfl) ?_
    refine gf_CP_126 S hP d_CP_state_61 ?_
    exact cz_ireth S hr hlocks hP hS h d_CP_state_64
  have h := cz_f hc3 h
  refine (Decidable.em (a1 = (4 : Int32))).elim (fun hc => ?_) (fun hc4 => ?_)
  · have h := cz_t hc h
    refine lv_tableIn (tgt := 65) hx hb d_CP_state_1 (by rw [hc]; decide) (by rw [hc]; decide) (by rw [hc]; rfl) rfl ?_
    refine lv_aload_n hx hb d_CP_state_65 rfl (lv_at hl 0 rfl) ?_
    refine gf_CP_187 S hP d_CP_state_66 ?_
    exact cz_ireth S hr hlocks hP hS h d_CP_state_69
  have h := cz_f hc4 h
  refine lv_tableOut (tgt := 70) hx hb d_CP_state_1 (by have e0 := lv_neT (a := 0) hc0 rfl; have e1 := lv_neT (a := 1) hc1 rfl; have e2 := lv_neT (a := 2) hc2 rfl; have e3 := lv_neT (a := 3) hc3 rfl; have e4 := lv_neT (a := 4) hc4 rfl; omega) rfl ?_
  refine lv_iconst (v := -1) hx hb d_CP_state_70 (by decide) ?_
  exact cz_ireth S hr hlocks hP hS h d_CP_state_71
