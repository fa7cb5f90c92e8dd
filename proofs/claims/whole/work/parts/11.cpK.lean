set_option maxHeartbeats 4000000 in
set_option maxRecDepth 100000 in
theorem c_Blocks_head (l : Launch) {X : cz_X} {A : Nat → Prop} (hD : ∀ M, va_D A (cp_wl X M)) (M : cz_M) {r2 : Int32} {M2 : cz_M} (h : f_Blocks_head M = some (r2, M2)) : cp_Ct l X A y_Blocks_head (Cond.code y_Blocks_head b_Blocks_head 3 (some .int) :: cz_T) rm_Blocks_head [.ref (X.2.1 19)] M (some (.int r2)) M2 := by
  refine cz_Met (by decide) rfl (Nat.le_of_ble_eq_true rfl) hD ?_
  intro p e s m args below meth c hargs S hr hlocks hP ls hl
  have S : cz_Cx p m c b_Blocks_head 3 s args cz_T "ChainPeers$Blocks" X.1 cp_cl (cp_tys X) cz_N A (cp_wl X) := S
  have hx := S.1.1
  have hb := S.1.2.1
  have hS : va_S A s.heap s.heap [] := va_S.rf
  have hl : lv_has ls 3 [(0, .ref (X.2.1 19))] := hl
  have hb4 : ∀ (n : Nat) (M : cz_M) (v1 : Int32) (v2 : Int32), cz_lp3 (l_Blocks_head_4) n M v1 v2 = some (r2, M2) → ∀ (H : Heap) (locs : List Loc) (ls : Array Slot), va_P X.1 cp_cl (cp_wl X M) H → va_S A s.heap H locs → lv_has ls 3 [(0, .ref (X.2.1 19)), (1, .int v1), (2, .int v2)] → W p l e rm_Blocks_head s m args below meth c H locs 0 0 (MQ below (cz_Qw X.1 cp_cl (some (.int r2)) (cp_wl X M2) A) args s 0 0 A) (F0 m 4 ls []) := by
    refine cz_ind3 (fun rec4 ih4 M v1 v2 h H locs ls hP hS hl => ?_)
    have hb38 : ∀ (M : cz_M) (v1 : Int32) (v2 : Int32), b_Blocks_head_38 rec4 M v1 v2 = some (r2, M2) → ∀ (H : Heap) (locs : List Loc) (ls : Array Slot), va_P X.1 cp_cl (cp_wl X M) H → va_S A s.heap H locs → lv_has ls 3 [(0, .ref (X.2.1 19)), (1, .int v1), (2, .int v2)] → W p l e rm_Blocks_head s m args below meth c H locs 0 0 (MQ below (cz_Qw X.1 cp_cl (some (.int r2)) (cp_wl X M2) A) args s 0 0 A) (F0 m 38 ls []) := by
      intro M v1 v2 h H locs ls hP hS hl
      refine lv_iinc (lv' := [(2, .int (v2 + 1)), (0, .ref (X.2.1 19)), (1, .int v1)]) (v := v2 + 1) (k := 2) hx hb d_Blocks_head_38 hl rfl (cz_inc1 _) (by decide) rfl (fun ls hl => ?_)
      refine lv_goto (tgt := 4) hx hb d_Blocks_head_41 rfl ?_
      exact ih4 M v1 (v2 + 1) h _ _ _ hP hS (lv_sub hl [1, 2, 0] rfl)
    refine lv_iload_n hx hb d_Blocks_head_4 rfl (lv_at hl 2 rfl) ?_
    refine lv_aload_n hx hb d_Blocks_head_5 rfl (lv_at hl 0 rfl) ?_
    refine gf_Blocks_40 S hP d_Blocks_head_6 ?_
    refine lv_icmp_ge (tgt := 44) hx hb d_Blocks_head_9 rfl (fun hc => ?_) (fun hc => ?_)
    · have h := cz_t hc h
      refine lv_iload_n hx hb d_Blocks_head_44 rfl (lv_at hl 1 rfl) ?_
      exact cz_ireth S hr hlocks hP hS h d_Blocks_head_45
    have h := cz_f hc h
    refine lv_aload_n hx hb d_Blocks_head_12 rfl (lv_at hl 0 rfl) ?_
    refine gf_Blocks_32 S hP d_Blocks_head_13 ?_
    refine lv_iload_n hx hb d_Blocks_head_16 rfl (lv_at hl 2 rfl) ?_
    obtain ⟨hin17, h⟩ := cz_ck h
    refine cp_za S hP hin17 d_Blocks_head_17 ?_
    refine lv_if_eq (tgt := 38) hx hb d_Blocks_head_18 rfl (fun hc => ?_) (fun hc => ?_)
    · have h := cz_t hc h
      exact hb38 M v1 v2 h _ _ _ hP hS (lv_sub hl [0, 1, 2] rfl)
    have h := cz_f hc h
    refine lv_aload_n hx hb d_Blocks_head_21 rfl (lv_at hl 0 rfl) ?_
    refine gf_Blocks_23 S hP d_Blocks_head_22 ?_
    refine lv_iload_n hx hb d_Blocks_head_25 rfl (lv_at hl 2 rfl) ?_
    obtain ⟨hin26, h⟩ := cz_ck h
    refine cp_ia S hP cp_k23 hin26 d_Blocks_head_26 ?_
    refine lv_aload_n hx hb d_Blocks_head_27 rfl (lv_at hl 0 rfl) ?_
    refine gf_Blocks_23 S hP d_Blocks_head_28 ?_
    refine lv_iload_n hx hb d_Blocks_head_31 rfl (lv_at hl 1 rfl) ?_
    obtain ⟨hin32, h⟩ := cz_ck h
    refine cp_ia S hP cp_k23 hin32 d_Blocks_head_32 ?_
    refine lv_icmp_le (tgt := 38) hx hb d_Blocks_head_33 rfl (fun hc => ?_) (fun hc => ?_)
    · have h := cz_t hc h
      exact hb38 M v1 v2 h _ _ _ hP hS (lv_sub hl [0, 1, 2] rfl)
    have h := cz_f hc h
    refine lv_iload_n hx hb d_Blocks_head_36 rfl (lv_at hl 2 rfl) ?_
    refine lv_istore_n (lv' := [(1, .int v2), (0, .ref (X.2.1 19)), (2, .int v2)]) hx hb d_Blocks_head_37 rfl hl (by decide) rfl (fun ls hl => ?_)
    exact hb38 M v2 v2 h _ _ _ hP hS (lv_sub hl [1, 0, 2] rfl)
  refine lv_iconst (v := 0) hx hb d_Blocks_head_0 (by decide) ?_
  refine lv_istore_n (lv' := [(1, .int (0 : Int32)), (0, .ref (X.2.1 19))]) hx hb d_Blocks_head_1 rfl hl (by decide) rfl (fun ls hl => ?_)
  refine lv_iconst (v := 1) hx hb d_Blocks_head_2 (by decide) ?_
  refine lv_istore_n (lv' := [(2, .int (1 : Int32)), (1, .int (0 : Int32)), (0, .ref (X.2.1 19))]) hx hb d_Blocks_head_3 rfl hl (by decide) rfl (fun ls hl => ?_)
  exact hb4 _ M (0 : Int32) (1 : Int32) h _ _ _ hP hS (lv_sub hl [2, 1, 0] rfl)
set_option maxHeartbeats 4000000 in
set_option maxRecDepth 100000 in
theorem c_Blocks_numberOf (l : Launch) {X : cz_X} {A : Nat → Prop} (hD : ∀ M, va_D A (cp_wl X M)) (M : cz_M) (a1 : Int32) {r2 : Int32} {M2 : cz_M} (h : f_Blocks_numberOf M a1 = some (r2, M2)) : cp_Ct l X A y_Blocks_numberOf (Cond.code y_Blocks_numberOf b_Blocks_numberOf 2 (some .int) :: cz_T) rm_Blocks_numberOf [.ref (X.2.1 19), .int a1] M (some (.int r2)) M2 := by
  refine cz_Met (by decide) rfl (Nat.le_of_ble_eq_true rfl) hD ?_
  intro p e s m args below meth c hargs S hr hlocks hP ls hl
  have S : cz_Cx p m c b_Blocks_numberOf 2 s args cz_T "ChainPeers$Blocks" X.1 cp_cl (cp_tys X) cz_N A (cp_wl X) := S
  have hx := S.1.1
  have hb := S.1.2.1
  have hS : va_S A s.heap s.heap [] := va_S.rf
  have hl : lv_has ls 2 [(0, .ref (X.2.1 19)), (1, .int a1)] := hl
  refine lv_aload_n hx hb d_Blocks_numberOf_0 rfl (lv_at hl 0 rfl) ?_
  refine gf_Blocks_11 S hP d_Blocks_numberOf_1 ?_
  refine lv_iload_n hx hb d_Blocks_numberOf_4 rfl (lv_at hl 1 rfl) ?_
  obtain ⟨hin5, h⟩ := cz_ck h
  refine cp_aaGH S hP hin5 d_Blocks_numberOf_5 ?_
  refine lv_iconst (v := 1) hx hb d_Blocks_numberOf_6 (by decide) ?_
  obtain ⟨hin7, h⟩ := cz_ck h
  refine cp_ia S hP (cp_r69 hin5) hin7 d_Blocks_numberOf_7 ?_
  exact cz_ireth S hr hlocks hP hS h d_Blocks_numberOf_8
set_option maxHeartbeats 4000000 in
set_option maxRecDepth 100000 in
theorem c_Blocks_ancestor (l : Launch) {X : cz_X} {A : Nat → Prop} (hD : ∀ M, va_D A (cp_wl X M)) (M : cz_M) (a1 : Int32) (a2 : Int32) {r2 : Int32} {M2 : cz_M} (h : f_Blocks_ancestor M a1 a2 = some (r2, M2)) : cp_Ct l X A y_Blocks_ancestor (Cond.code y_Blocks_ancestor b_Blocks_ancestor 5 (some .int) :: cz_T) rm_Blocks_ancestor [.ref (X.2.1 19), .int a1, .int a2] M (some (.int r2)) M2 := by
  refine cz_Met (by decide) rfl (Nat.le_of_ble_eq_true rfl) hD ?_
  intro p e s m args below meth c hargs S hr hlocks hP ls hl
  have S : cz_Cx p m c b_Blocks_ancestor 5 s args cz_T "ChainPeers$Blocks" X.1 cp_cl (cp_tys X) cz_N A (cp_wl X) := S
  have hx := S.1.1
  have hb := S.1.2.1
  have hS : va_S A s.heap s.heap [] := va_S.rf
  have hl : lv_has ls 5 [(0, .ref (X.2.1 19)), (1, .int a1), (2, .int a2)] := hl
  have hb11 : ∀ (n : Nat) (M : cz_M) (v3 : Int32) (v4 : Int32), cz_lp3 (l_Blocks_ancestor_11 a1 a2) n M v3 v4 = some (r2, M2) → ∀ (H : Heap) (locs : List Loc) (ls : Array Slot), va_P X.1 cp_cl (cp_wl X M) H → va_S A s.heap H locs → lv_has ls 5 [(0, .ref (X.2.1 19)), (3, .int v3), (4, .int v4)] → W p l e rm_Blocks_ancestor s m args below meth c H locs 0 0 (MQ below (cz_Qw X.1 cp_cl (some (.int r2)) (cp_wl X M2) A) args s 0 0 A) (F0 m 11 ls []) := by
    refine cz_ind3 (fun rec11 ih11 M v3 v4 h H locs ls hP hS hl => ?_)
    refine lv_iload hx hb d_Blocks_ancestor_11 (lv_at hl 2 rfl) ?_
    refine lv_if_le (tgt := 29) hx hb d_Blocks_ancestor_13 rfl (fun hc => ?_) (fun hc => ?_)
    · have h := cz_t hc h
      refine lv_iload_n hx hb d_Blocks_ancestor_29 rfl (lv_at hl 1 rfl) ?_
      exact cz_ireth S hr hlocks hP hS h d_Blocks_ancestor_30
    have h := cz_f hc h
    refine lv_aload_n hx hb d_Blocks_ancestor_16 rfl (lv_at hl 0 rfl) ?_
    refine gf_Blocks_20 S hP d_Blocks_ancestor_17 ?_
    refine lv_iload_n hx hb d_Blocks_ancestor_20 rfl (lv_at hl 1 rfl) ?_
    obtain ⟨hin21, h⟩ := cz_ck h
    refine cp_ia S hP cp_k22 hin21 d_Blocks_ancestor_21 ?_
    refine lv_istore_n (lv' := [(3, .int (M.1 22 v3.toNatClampNeg)), (0, .ref (X.2.1 19)), (4, .int v4)]) hx hb d_Blocks_ancestor_22 rfl hl (by decide) rfl (fun ls hl => ?_)
    refine lv_iinc (lv' := [(4, .int (v4 - 1)), (3, .int (M.1 22 v3.toNatClampNeg)), (0, .ref (X.2.1 19))]) (v := v4 - 1) (k := 2) hx hb d_Blocks_ancestor_23 hl rfl (cz_incm1 _) (by decide) rfl (fun ls hl => ?_)
    refine lv_goto (tgt := 11) hx hb d_Blocks_ancestor_26 rfl ?_
    exact ih11 M (M.1 22 v3.toNatClampNeg) (v4 - 1) h _ _ _ hP hS (lv_sub hl [2, 1, 0] rfl)
  refine lv_iload_n hx hb d_Blocks_ancestor_0 rfl (lv_at hl 1 rfl) ?_
  refine lv_istore_n (lv' := [(3, .int a1), (0, .ref (X.2.1 19)), (1, .int a1), (2, .int a2)]) hx hb d_Blocks_ancestor_1 rfl hl (by decide) rfl (fun ls hl => ?_)
  refine lv_aload_n hx hb d_Blocks_ancestor_2 rfl (lv_at hl 1 rfl) ?_
  refine lv_iload_n hx hb d_Blocks_ancestor_3 rfl (lv_at hl 2 rfl) ?_
  obtain ⟨r4, M4, hq4, h⟩ := cz_ubi h
  refine iv_Blocks_52 (rest := []) S hl.1 hP hS (c_Blocks_numberOf l hD M a1 hq4) ⟨Nat.le_of_ble_eq_true rfl, Nat.le_of_ble_eq_true rfl⟩ (Nat.le_of_ble_eq_true rfl) rfl d_Blocks_ancestor_4 (fun H locs hP hS => ?_)
  refine lv_iload_n hx hb d_Blocks_ancestor_7 rfl (lv_at hl 3 rfl) ?_
  refine lv_isub hx hb d_Blocks_ancestor_8 ?_
  refine lv_istore (lv' := [(4, .int (r4 - a2)), (3, .int a1), (0, .ref (X.2.1 19)), (1, .int a1), (2, .int a2)]) hx hb d_Blocks_ancestor_9 hl (by decide) rfl (fun ls hl => ?_)
  exact hb11 _ M4 a1 (r4 - a2) h _ _ _ hP hS (lv_sub hl [2, 1, 0] rfl)
set_option maxHeartbeats 4000000 in
set_option maxRecDepth 100000 in
theorem c_CP_mix (l : Launch) {X : cz_X} {A : Nat → Prop} (hD : ∀ M, va_D A (cp_wl X M)) (M : cz_M) (a0 : Int32) (a1 : Nat) (a2 : Int32) (k1 : cp_I a1) {r2 : Int32} {M2 : cz_M} (h : f_CP_mix M a0 a1 a2 = some (r2, M2)) : cp_Ct l X A y_CP_mix (Cond.code y_CP_mix b_CP_mix 6 (some .int) :: cz_T) rm_CP_mix [.int a0, .ref (X.2.1 a1), .int a2] M (some (.int r2)) M2 := by
  refine cz_Met (by decide) rfl (Nat.le_of_ble_eq_true rfl) hD ?_
  intro p e s m args below meth c hargs S hr hlocks hP ls hl
  have S : cz_Cx p m c b_CP_mix 6 s args cz_T "ChainPeers" X.1 cp_cl (cp_tys X) cz_N A (cp_wl X) := S
  have hx := S.1.1
  have hb := S.1.2.1
  have hS : va_S A s.heap s.heap [] := va_S.rf
  have hl : lv_has ls 6 [(0, .int a0), (1, .ref (X.2.1 a1)), (2, .int a2)] := hl
  have hb5 : ∀ (n : Nat) (M : cz_M) (v3 : Int32) (v4 : Int32), cz_lp3 (l_CP_mix_5 a0 a1 a2) n M v3 v4 = some (r2, M2) → ∀ (H : Heap) (locs : List Loc) (ls : Array Slot), va_P X.1 cp_cl (cp_wl X M) H → va_S A s.heap H locs → lv_has ls 6 [(1, .ref (X.2.1 a1)), (2, .int a2), (3, .int v3), (4, .int v4)] → W p l e rm_CP_mix s m args below meth c H locs 0 0 (MQ below (cz_Qw X.1 cp_cl (some (.int r2)) (cp_wl X M2) A) args s 0 0 A) (F0 m 5 ls []) := by
    refine cz_ind3 (fun rec5 ih5 M v3 v4 h H locs ls hP hS hl => ?_)
    refine lv_iload hx hb d_CP_mix_5 (lv_at hl 3 rfl) ?_
    refine lv_iload_n hx hb d_CP_mix_7 rfl (lv_at hl 1 rfl) ?_
    refine lv_icmp_ge (tgt := 47) hx hb d_CP_mix_8 rfl (fun hc => ?_) (fun hc => ?_)
    · have h := cz_t hc h
      refine lv_iload_n hx hb d_CP_mix_47 rfl (lv_at hl 2 rfl) ?_
      exact cz_ireth S hr hlocks hP hS h d_CP_mix_48
    have h := cz_f hc h
    refine lv_iload hx hb d_CP_mix_11 (lv_at hl 3 rfl) ?_
    refine lv_aload_n hx hb d_CP_mix_13 rfl (lv_at hl 0 rfl) ?_
    refine cp_al S hP k1 d_CP_mix_14 ?_
    refine lv_icmp_ge (tgt := 47) hx hb d_CP_mix_15 rfl (fun hc => ?_) (fun hc => ?_)
    · have h := cz_t hc h
      refine lv_iload_n hx hb d_CP_mix_47 rfl (lv_at hl 2 rfl) ?_
      exact cz_ireth S hr hlocks hP hS h d_CP_mix_48
    have h := cz_f hc h
    refine lv_iload_n hx hb d_CP_mix_18 rfl (lv_at hl 2 rfl) ?_
    refine lv_aload_n hx hb d_CP_mix_19 rfl (lv_at hl 0 rfl) ?_
    refine lv_iload hx hb d_CP_mix_20 (lv_at hl 3 rfl) ?_
    obtain ⟨hin22, h⟩ := cz_ck h
    refine cp_ia S hP k1 hin22 d_CP_mix_22 ?_
    refine lv_ixor hx hb d_CP_mix_23 ?_
    refine lv_ldc (v := 16777619) hx hb S.1.2.2.2.1 (S.1.2.2.2.2 _ mw_103) d_CP_mix_24 ?_
    refine lv_imul hx hb d_CP_mix_26 ?_
    refine lv_istore (lv' := [(5, .int ((v3 ^^^ (M.1 a1 v4.toNatClampNeg)) * (16777619 : Int32))), (1, .ref (X.2.1 a1)), (2, .int a2), (3, .int v3), (4, .int v4)]) hx hb d_CP_mix_27 hl (by decide) rfl (fun ls hl => ?_)
    refine lv_iload hx hb d_CP_mix_29 (lv_at hl 0 rfl) ?_
    refine lv_iload hx hb d_CP_mix_31 (lv_at hl 0 rfl) ?_
    refine lv_bipush (v := 15) hx hb d_CP_mix_33 (by decide) ?_
    refine lv_iushr (v := cz_iushr ((v3 ^^^ (M.1 a1 v4.toNatClampNeg)) * (16777619 : Int32)) (15 : Int32)) hx hb d_CP_mix_35 rfl ?_
    refine lv_ixor hx hb d_CP_mix_36 ?_
    refine lv_ldc (v := 2147483647) hx hb S.1.2.2.2.1 (S.1.2.2.2.2 _ mw_104) d_CP_mix_37 ?_
    refine lv_iand hx hb d_CP_mix_39 ?_
    refine lv_istore_n (lv' := [(3, .int ((((v3 ^^^ (M.1 a1 v4.toNatClampNeg)) * (16777619 : Int32)) ^^^ (cz_iushr ((v3 ^^^ (M.1 a1 v4.toNatClampNeg)) * (16777619 : Int32)) (15 : Int32))) &&& (2147483647 : Int32))), (5, .int ((v3 ^^^ (M.1 a1 v4.toNatClampNeg)) * (16777619 : Int32))), (1, .ref (X.2.1 a1)), (2, .int a2), (4, .int v4)]) hx hb d_CP_mix_40 rfl hl (by decide) rfl (fun ls hl => ?_)
    refine lv_iinc (lv' := [(4, .int (v4 + 1)), (3, .int ((((v3 ^^^ (M.1 a1 v4.toNatClampNeg)) * (16777619 : Int32)) ^^^ (cz_iushr ((v3 ^^^ (M.1 a1 v4.toNatClampNeg)) * (16777619 : Int32)) (15 : Int32))) &&& (2147483647 : Int32))), (5, .int ((v3 ^^^ (M.1 a1 v4.toNatClampNeg)) * (16777619 : Int32))), (1, .ref (X.2.1 a1)), (2, .int a2)]) (v := v4 + 1) (k := 4) hx hb d_CP_mix_41 hl rfl (cz_inc1 _) (by decide) rfl (fun ls hl => ?_)
    refine lv_goto (tgt := 5) hx hb d_CP_mix_44 rfl ?_
    exact ih5 M ((((v3 ^^^ (M.1 a1 v4.toNatClampNeg)) * (16777619 : Int32)) ^^^ (cz_iushr ((v3 ^^^ (M.1 a1 v4.toNatClampNeg)) * (16777619 : Int32)) (15 : Int32))) &&& (2147483647 : Int32)) (v4 + 1) h _ _ _ hP hS (lv_sub hl [3, 4, 1, 0] rfl)
  refine lv_iload_n hx hb d_CP_mix_0 rfl (lv_at hl 0 rfl) ?_
  refine lv_istore_n (lv' := [(3, .int a0), (0, .int a0), (1, .ref (X.2.1 a1)), (2, .int a2)]) hx hb d_CP_mix_1 rfl hl (by decide) rfl (fun ls hl => ?_)
  refine lv_iconst (v := 0) hx hb d_CP_mix_2 (by decide) ?_
  refine lv_istore (lv' := [(4, .int (0 : Int32)), (3, .int a0), (0, .int a0), (1, .ref (X.2.1 a1)), (2, .int a2)]) hx hb d_CP_mix_3 hl (by decide) rfl (fun ls hl => ?_)
  exact hb5 _ M a0 (0 : Int32) h _ _ _ hP hS (lv_sub hl [3, 4, 1, 0] rfl)
set_option maxHeartbeats 4000000 in
set_option maxRecDepth 100000 in
theorem c_CP_hashOf (l : Launch) {X : cz_X} {A : Nat → Prop} (hD : ∀ M, va_D A (cp_wl X M)) (M : cz_M) (a0 : Nat) (k0 : cp_I a0) {r2 : Int32} {M2 : cz_M} (h : f_CP_hashOf M a0 = some (r2, M2)) : cp_Ct l X A y_CP_hashOf (Cond.code y_CP_hashOf b_CP_hashOf 1 (some .int) :: cz_T) rm_CP_hashOf [.ref (X.2.1 a0)] M (some (.int r2)) M2 := by
  refine cz_Met (by decide) rfl (Nat.le_of_ble_eq_true rfl) hD ?_
  intro p e s m args below meth c hargs S hr hlocks hP ls hl
  have S : cz_Cx p m c b_CP_hashOf 1 s args cz_T "ChainPeers" X.1 cp_cl (cp_tys X) cz_N A (cp_wl X) := S
  have hx := S.1.1
  have hb := S.1.2.1
  have hS : va_S A s.heap s.heap [] := va_S.rf
  have hl : lv_has ls 1 [(0, .ref (X.2.1 a0))] := hl
  refine lv_bipush (v := 7) hx hb d_CP_hashOf_0 (by decide) ?_
  refine lv_aload_n hx hb d_CP_hashOf_2 rfl (lv_at hl 0 rfl) ?_
  refine lv_iconst (v := 5) hx hb d_CP_hashOf_3 (by decide) ?_
  obtain ⟨r4, M4, hq4, h⟩ := cz_ubi h
  refine iv_CP_190 (rest := []) S hl.1 hP hS (c_CP_mix l hD M (7 : Int32) a0 (5 : Int32) k0 hq4) ⟨Nat.le_of_ble_eq_true rfl, Nat.le_of_ble_eq_true rfl⟩ (Nat.le_of_ble_eq_true rfl) rfl d_CP_hashOf_4 (fun H locs hP hS => ?_)
  exact cz_ireth S hr hlocks hP hS h d_CP_hashOf_7
set_option maxHeartbeats 4000000 in
set_option maxRecDepth 100000 in
theorem c_Blocks_find (l : Launch) {X : cz_X} {A : Nat → Prop} (hD : ∀ M, va_D A (cp_wl X M)) (M : cz_M) (a1 : Int32) {r2 : Int32} {M2 : cz_M} (h : f_Blocks_find M a1 = some (r2, M2)) : cp_Ct l X A y_Blocks_find (Cond.code y_Blocks_find b_Blocks_find 3 (some .int) :: cz_T) rm_Blocks_find [.ref (X.2.1 19), .int a1] M (some (.int r2)) M2 := by
  refine cz_Met (by decide) rfl (Nat.le_of_ble_eq_true rfl) hD ?_
  intro p e s m args below meth c hargs S hr hlocks hP ls hl
  have S : cz_Cx p m c b_Blocks_find 3 s args cz_T "ChainPeers$Blocks" X.1 cp_cl (cp_tys X) cz_N A (cp_wl X) := S
  have hx := S.1.1
  have hb := S.1.2.1
  have hS : va_S A s.heap s.heap [] := va_S.rf
  have hl : lv_has ls 3 [(0, .ref (X.2.1 19)), (1, .int a1)] := hl
  have hb2 : ∀ (n : Nat) (M : cz_M) (v2 : Int32), cz_lp2 (l_Blocks_find_2 a1) n M v2 = some (r2, M2) → ∀ (H : Heap) (locs : List Loc) (ls : Array Slot), va_P X.1 cp_cl (cp_wl X M) H → va_S A s.heap H locs → lv_has ls 3 [(0, .ref (X.2.1 19)), (1, .int a1), (2, .int v2)] → W p l e rm_Blocks_find s m args below meth c H locs 0 0 (MQ below (cz_Qw X.1 cp_cl (some (.int r2)) (cp_wl X M2) A) args s 0 0 A) (F0 m 2 ls []) := by
    refine cz_ind2 (fun rec2 ih2 M v2 h H locs ls hP hS hl => ?_)
    refine lv_iload_n hx hb d_Blocks_find_2 rfl (lv_at hl 2 rfl) ?_
    refine lv_aload_n hx hb d_Blocks_find_3 rfl (lv_at hl 0 rfl) ?_
    refine gf_Blocks_40 S hP d_Blocks_find_4 ?_
    refine lv_icmp_ge (tgt := 28) hx hb d_Blocks_find_7 rfl (fun hc => ?_) (fun hc => ?_)
    · have h := cz_t hc h
      refine lv_iconst (v := -1) hx hb d_Blocks_find_28 (by decide) ?_
      exact cz_ireth S hr hlocks hP hS h d_Blocks_find_29
    have h := cz_f hc h
    refine lv_aload_n hx hb d_Blocks_find_10 rfl (lv_at hl 0 rfl) ?_
    refine gf_Blocks_16 S hP d_Blocks_find_11 ?_
    refine lv_iload_n hx hb d_Blocks_find_14 rfl (lv_at hl 2 rfl) ?_
    obtain ⟨hin15, h⟩ := cz_ck h
    refine cp_ia S hP cp_k21 hin15 d_Blocks_find_15 ?_
    refine lv_iload_n hx hb d_Blocks_find_16 rfl (lv_at hl 1 rfl) ?_
    refine lv_icmp_ne (tgt := 22) hx hb d_Blocks_find_17 rfl (fun hc => ?_) (fun hc => ?_)
    · have h := cz_f hc h
      refine lv_iinc (lv' := [(2, .int (v2 + 1)), (0, .ref (X.2.1 19)), (1, .int a1)]) (v := v2 + 1) (k := 2) hx hb d_Blocks_find_22 hl rfl (cz_inc1 _) (by decide) rfl (fun ls hl => ?_)
      refine lv_goto (tgt := 2) hx hb d_Blocks_find_25 rfl ?_
      exact ih2 M (v2 + 1) h _ _ _ hP hS (lv_sub hl [1, 2, 0] rfl)
    have h := cz_t hc h
    refine lv_iload_n hx hb d_Blocks_find_20 rfl (lv_at hl 2 rfl) ?_
    exact cz_ireth S hr hlocks hP hS h d_Blocks_find_21
  refine lv_iconst (v := 0) hx hb d_Blocks_find_0 (by decide) ?_
  refine lv_istore_n (lv' := [(2, .int (0 : Int32)), (0, .ref (X.2.1 19)), (1, .int a1)]) hx hb d_Blocks_find_1 rfl hl (by decide) rfl (fun ls hl => ?_)
  exact hb2 _ M (0 : Int32) h _ _ _ hP hS (lv_sub hl [1, 2, 0] rfl)
set_option maxHeartbeats 4000000 in
set_option maxRecDepth 100000 in
theorem c_Blocks_isKnown (l : Launch) {X : cz_X} {A : Nat → Prop} (hD : ∀ M, va_D A (cp_wl X M)) (M : cz_M) (a1 : Int32) {r2 : Int32} {M2 : cz_M} (h : f_Blocks_isKnown M a1 = some (r2, M2)) : cp_Ct l X A y_Blocks_isKnown (Cond.code y_Blocks_isKnown b_Blocks_isKnown 2 (some .boolean) :: cz_T) rm_Blocks_isKnown [.ref (X.2.1 19), .int a1] M (some (.int r2)) M2 := by
  refine cz_Met (by decide) rfl (Nat.le_of_ble_eq_true rfl) hD ?_
  intro p e s m args below meth c hargs S hr hlocks hP ls hl
  have S : cz_Cx p m c b_Blocks_isKnown 2 s args cz_T "ChainPeers$Blocks" X.1 cp_cl (cp_tys X) cz_N A (cp_wl X) := S
  have hx := S.1.1
  have hb := S.1.2.1
  have hS : va_S A s.heap s.heap [] := va_S.rf
  have hl : lv_has ls 2 [(0, .ref (X.2.1 19)), (1, .int a1)] := hl
  refine lv_aload_n hx hb d_Blocks_isKnown_0 rfl (lv_at hl 0 rfl) ?_
  refine lv_iload_n hx hb d_Blocks_isKnown_1 rfl (lv_at hl 1 rfl) ?_
  obtain ⟨r2, M2, hq2, h⟩ := cz_ubi h
  refine iv_Blocks_48 (rest := []) S hl.1 hP hS (c_Blocks_find l hD M a1 hq2) ⟨Nat.le_of_ble_eq_true rfl, Nat.le_of_ble_eq_true rfl⟩ (Nat.le_of_ble_eq_true rfl) rfl d_Blocks_isKnown_2 (fun H locs hP hS => ?_)
  refine lv_iconst (v := -1) hx hb d_Blocks_isKnown_5 (by decide) ?_
  refine lv_icmp_eq (tgt := 13) hx hb d_Blocks_isKnown_6 rfl (fun hc => ?_) (fun hc => ?_)
  · have h := cz_t hc h
    refine lv_iconst (v := 0) hx hb d_Blocks_isKnown_13 (by decide) ?_
    exact cz_zreth S hr hlocks hP hS h rfl d_Blocks_isKnown_14
  have h := cz_f hc h
  refine lv_iconst (v := 1) hx hb d_Blocks_isKnown_9 (by decide) ?_
  refine lv_goto (tgt := 14) hx hb d_Blocks_isKnown_10 rfl ?_
  exact cz_zreth S hr hlocks hP hS h rfl d_Blocks_isKnown_14
set_option maxHeartbeats 4000000 in
set_option maxRecDepth 100000 in
theorem c_Blocks_isGood (l : Launch) {X : cz_X} {A : Nat → Prop} (hD : ∀ M, va_D A (cp_wl X M)) (M : cz_M) (a1 : Nat) (k1 : cp_I a1) {r2 : Int32} {M2 : cz_M} (h : f_Blocks_isGood M a1 = some (r2, M2)) : cp_Ct l X A y_Blocks_isGood (Cond.code y_Blocks_isGood b_Blocks_isGood 5 (some .boolean) :: cz_T) rm_Blocks_isGood [.ref (X.2.1 19), .ref (X.2.1 a1)] M (some (.int r2)) M2 := by
  refine cz_Met (by decide) rfl (Nat.le_of_ble_eq_true rfl) hD ?_
  intro p e s m args below meth c hargs S hr hlocks hP ls hl
  have S : cz_Cx p m c b_Blocks_isGood 5 s args cz_T "ChainPeers$Blocks" X.1 cp_cl (cp_tys X) cz_N A (cp_wl X) := S
  have hx := S.1.1
  have hb := S.1.2.1
  have hS : va_S A s.heap s.heap [] := va_S.rf
  have hl : lv_has ls 5 [(0, .ref (X.2.1 19)), (1, .ref (X.2.1 a1))] := hl
  refine lv_aload_n hx hb d_Blocks_isGood_0 rfl (lv_at hl 0 rfl) ?_
  refine lv_aload_n hx hb d_Blocks_isGood_1 rfl (lv_at hl 1 rfl) ?_
  refine lv_iconst (v := 0) hx hb d_Blocks_isGood_2 (by decide) ?_
  obtain ⟨hin3, h⟩ := cz_ck h
  refine cp_ia S hP k1 hin3 d_Blocks_isGood_3 ?_
  obtain ⟨r4, M4, hq4, h⟩ := cz_ubi h
  refine iv_Blocks_48 (rest := []) S hl.1 hP hS (c_Blocks_find l hD M (M.1 a1 (0 : Int32).toNatClampNeg) hq4) ⟨Nat.le_of_ble_eq_true rfl, Nat.le_of_ble_eq_true rfl⟩ (Nat.le_of_ble_eq_true rfl) rfl d_Blocks_isGood_4 (fun H locs hP hS => ?_)
  refine lv_istore_n (lv' := [(2, .int r4), (0, .ref (X.2.1 19)), (1, .ref (X.2.1 a1))]) hx hb d_Blocks_isGood_7 rfl hl (by decide) rfl (fun ls hl => ?_)
  refine lv_iload_n hx hb d_Blocks_isGood_8 rfl (lv_at hl 0 rfl) ?_
  refine lv_iconst (v := -1) hx hb d_Blocks_isGood_9 (by decide) ?_
  refine lv_icmp_ne (tgt := 15) hx hb d_Blocks_isGood_10 rfl (fun hc => ?_) (fun hc => ?_)
  · have h := cz_f hc h
    refine lv_aload_n hx hb d_Blocks_isGood_15 rfl (lv_at hl 2 rfl) ?_
    refine lv_iconst (v := 3) hx hb d_Blocks_isGood_16 (by decide) ?_
    obtain ⟨hin17, h⟩ := cz_ck h
    refine cp_ia S hP k1 hin17 d_Blocks_isGood_17 ?_
    refine lv_istore_n (lv' := [(3, .int (M4.1 a1 (3 : Int32).toNatClampNeg)), (2, .int r4), (0, .ref (X.2.1 19)), (1, .ref (X.2.1 a1))]) hx hb d_Blocks_isGood_18 rfl hl (by decide) rfl (fun ls hl => ?_)
    refine lv_aload_n hx hb d_Blocks_isGood_19 rfl (lv_at hl 2 rfl) ?_
    refine gf_Blocks_11 S hP d_Blocks_isGood_20 ?_
    refine lv_iload_n hx hb d_Blocks_isGood_23 rfl (lv_at hl 1 rfl) ?_
    obtain ⟨hin24, h⟩ := cz_ck h
    refine cp_aaGH S hP hin24 d_Blocks_isGood_24 ?_
    refine lv_iconst (v := 3) hx hb d_Blocks_isGood_25 (by decide) ?_
    obtain ⟨hin26, h⟩ := cz_ck h
    refine cp_ia S hP (cp_r69 hin24) hin26 d_Blocks_isGood_26 ?_
    refine lv_istore (lv' := [(4, .int (M4.1 (69 + r4.toNatClampNeg) (3 : Int32).toNatClampNeg)), (3, .int (M4.1 a1 (3 : Int32).toNatClampNeg)), (2, .int r4), (0, .ref (X.2.1 19)), (1, .ref (X.2.1 a1))]) hx hb d_Blocks_isGood_27 hl (by decide) rfl (fun ls hl => ?_)
    refine lv_aload_n hx hb d_Blocks_isGood_29 rfl (lv_at hl 4 rfl) ?_
    refine lv_iconst (v := 1) hx hb d_Blocks_isGood_30 (by decide) ?_
    obtain ⟨hin31, h⟩ := cz_ck h
    refine cp_ia S hP k1 hin31 d_Blocks_isGood_31 ?_
    refine lv_aload_n hx hb d_Blocks_isGood_32 rfl (lv_at hl 3 rfl) ?_
    refine lv_iload_n hx hb d_Blocks_isGood_33 rfl (lv_at hl 2 rfl) ?_
    obtain ⟨r34, M34, hq34, h⟩ := cz_ubi h
    refine iv_Blocks_52 (rest := [.int (M4.1 a1 (1 : Int32).toNatClampNeg)]) S hl.1 hP hS (c_Blocks_numberOf l hD M4 r4 hq34) ⟨Nat.le_of_ble_eq_true rfl, Nat.le_of_ble_eq_true rfl⟩ (Nat.le_of_ble_eq_true rfl) rfl d_Blocks_isGood_34 (fun H locs hP hS => ?_)
    refine lv_iconst (v := 1) hx hb d_Blocks_isGood_37 (by decide) ?_
    refine lv_iadd hx hb d_Blocks_isGood_38 ?_
    refine lv_icmp_ne (tgt := 87) hx hb d_Blocks_isGood_39 rfl (fun hc => ?_) (fun hc => ?_)
    · have h := cz_f hc h
      refine lv_iconst (v := 0) hx hb d_Blocks_isGood_87 (by decide) ?_
      exact cz_zreth S hr hlocks hP hS h rfl d_Blocks_isGood_88
    have h := cz_t hc h
    refine lv_aload_n hx hb d_Blocks_isGood_42 rfl (lv_at hl 4 rfl) ?_
    refine lv_iconst (v := 2) hx hb d_Blocks_isGood_43 (by decide) ?_
    obtain ⟨hin44, h⟩ := cz_ck h
    refine cp_ia S hP k1 hin44 d_Blocks_isGood_44 ?_
    refine lv_aload_n hx hb d_Blocks_isGood_45 rfl (lv_at hl 3 rfl) ?_
    refine gf_Blocks_11 S hP d_Blocks_isGood_46 ?_
    refine lv_iload_n hx hb d_Blocks_isGood_49 rfl (lv_at hl 2 rfl) ?_
    obtain ⟨hin50, h⟩ := cz_ck h
    refine cp_aaGH S hP hin50 d_Blocks_isGood_50 ?_
    refine lv_iconst (v := 2) hx hb d_Blocks_isGood_51 (by decide) ?_
    obtain ⟨hin52, h⟩ := cz_ck h
    refine cp_ia S hP (cp_r69 hin50) hin52 d_Blocks_isGood_52 ?_
    refine lv_icmp_le (tgt := 87) hx hb d_Blocks_isGood_53 rfl (fun hc => ?_) (fun hc => ?_)
    · have h := cz_t hc h
      refine lv_iconst (v := 0) hx hb d_Blocks_isGood_87 (by decide) ?_
      exact cz_zreth S hr hlocks hP hS h rfl d_Blocks_isGood_88
    have h := cz_f hc h
    refine lv_iload_n hx hb d_Blocks_isGood_56 rfl (lv_at hl 1 rfl) ?_
    refine lv_iconst (v := 1) hx hb d_Blocks_isGood_57 (by decide) ?_
    refine lv_icmp_lt (tgt := 87) hx hb d_Blocks_isGood_58 rfl (fun hc => ?_) (fun hc => ?_)
    · have h := cz_t hc h
      refine lv_iconst (v := 0) hx hb d_Blocks_isGood_87 (by decide) ?_
      exact cz_zreth S hr hlocks hP hS h rfl d_Blocks_isGood_88
    have h := cz_f hc h
    refine lv_iload_n hx hb d_Blocks_isGood_61 rfl (lv_at hl 1 rfl) ?_
    refine lv_bipush (v := 99) hx hb d_Blocks_isGood_62 (by decide) ?_
    refine lv_icmp_gt (tgt := 87) hx hb d_Blocks_isGood_64 rfl (fun hc => ?_) (fun hc => ?_)
    · have h := cz_t hc h
      refine lv_iconst (v := 0) hx hb d_Blocks_isGood_87 (by decide) ?_
      exact cz_zreth S hr hlocks hP hS h rfl d_Blocks_isGood_88
    have h := cz_f hc h
    refine lv_iload_n hx hb d_Blocks_isGood_67 rfl (lv_at hl 1 rfl) ?_
    refine lv_iload hx hb d_Blocks_isGood_68 (lv_at hl 0 rfl) ?_
    refine lv_isub hx hb d_Blocks_isGood_70 ?_
    refine ma_Blocks_55 S hl.1 (Nat.le_of_ble_eq_true rfl) (Nat.le_of_ble_eq_true rfl) d_Blocks_isGood_71 ?_
    refine lv_iload hx hb d_Blocks_isGood_74 (lv_at hl 0 rfl) ?_
    refine lv_iconst (v := 4) hx hb d_Blocks_isGood_76 (by decide) ?_
    refine lv_idiv hx hb d_Blocks_isGood_77 (by decide) ?_
    refine lv_iconst (v := 1) hx hb d_Blocks_isGood_78 (by decide) ?_
    refine lv_iadd hx hb d_Blocks_isGood_79 ?_
    refine lv_icmp_gt (tgt := 87) hx hb d_Blocks_isGood_80 rfl (fun hc => ?_) (fun hc => ?_)
    · have h := cz_t hc h
      refine lv_iconst (v := 0) hx hb d_Blocks_isGood_87 (by decide) ?_
      exact cz_zreth S hr hlocks hP hS h rfl d_Blocks_isGood_88
    have h := cz_f hc h
    refine lv_iconst (v := 1) hx hb d_Blocks_isGood_83 (by decide) ?_
    refine lv_goto (tgt := 88) hx hb d_Blocks_isGood_84 rfl ?_
    exact cz_zreth S hr hlocks hP hS h rfl d_Blocks_isGood_88
  have h := cz_t hc h
  refine lv_iconst (v := 0) hx hb d_Blocks_isGood_13 (by decide) ?_
  exact cz_zreth S hr hlocks hP hS h rfl d_Blocks_isGood_14
set_option maxHeartbeats 4000000 in
set_option maxRecDepth 100000 in
theorem c_Blocks_isFull (l : Launch) {X : cz_X} {A : Nat → Prop} (hD : ∀ M, va_D A (cp_wl X M)) (M : cz_M) {r2 : Int32} {M2 : cz_M} (h : f_Blocks_isFull M = some (r2, M2)) : cp_Ct l X A y_Blocks_isFull (Cond.code y_Blocks_isFull b_Blocks_isFull 1 (some .boolean) :: cz_T) rm_Blocks_isFull [.ref (X.2.1 19)] M (some (.int r2)) M2 := by
  refine cz_Met (by decide) rfl (Nat.le_of_ble_eq_true rfl) hD ?_
  intro p e s m args below meth c hargs S hr hlocks hP ls hl
  have S : cz_Cx p m c b_Blocks_isFull 1 s args cz_T "ChainPeers$Blocks" X.1 cp_cl (cp_tys X) cz_N A (cp_wl X) := S
  have hx := S.1.1
  have hb := S.1.2.1
  have hS : va_S A s.heap s.heap [] := va_S.rf
  have hl : lv_has ls 1 [(0, .ref (X.2.1 19))] := hl
  refine lv_aload_n hx hb d_Blocks_isFull_0 rfl (lv_at hl 0 rfl) ?_
  refine gf_Blocks_40 S hP d_Blocks_isFull_1 ?_
  refine lv_bipush (v := 20) hx hb d_Blocks_isFull_4 (by decide) ?_
  refine lv_icmp_lt (tgt := 13) hx hb d_Blocks_isFull_6 rfl (fun hc => ?_) (fun hc => ?_)
  · have h := cz_t hc h
    refine lv_iconst (v := 0) hx hb d_Blocks_isFull_13 (by decide) ?_
    exact cz_zreth S hr hlocks hP hS h rfl d_Blocks_isFull_14
  have h := cz_f hc h
  refine lv_iconst (v := 1) hx hb d_Blocks_isFull_9 (by decide) ?_
  refine lv_goto (tgt := 14) hx hb d_Blocks_isFull_10 rfl ?_
  exact cz_zreth S hr hlocks hP hS h rfl d_Blocks_isFull_14
set_option maxHeartbeats 4000000 in
set_option maxRecDepth 100000 in
theorem c_Blocks_append (l : Launch) {X : cz_X} {A : Nat → Prop} (hD : ∀ M, va_D A (cp_wl X M)) (M : cz_M) (a1 : Nat) (k1 : cp_I a1) {M2 : cz_M} (h : f_Blocks_append M a1 = some M2) : cp_Ct l X A y_Blocks_append (Cond.code y_Blocks_append b_Blocks_append 3 none :: cz_T) rm_Blocks_append [.ref (X.2.1 19), .ref (X.2.1 a1)] M none M2 := by
  refine cz_Met (by decide) rfl (Nat.le_of_ble_eq_true rfl) hD ?_
  intro p e s m args below meth c hargs S hr hlocks hP ls hl
  have S : cz_Cx p m c b_Blocks_append 3 s args cz_T "ChainPeers$Blocks" X.1 cp_cl (cp_tys X) cz_N A (cp_wl X) := S
  have hx := S.1.1
  have hb := S.1.2.1
  have hS : va_S A s.heap s.heap [] := va_S.rf
  have hl : lv_has ls 3 [(0, .ref (X.2.1 19)), (1, .ref (X.2.1 a1))] := hl
  refine lv_aload_n hx hb d_Blocks_append_0 rfl (lv_at hl 0 rfl) ?_
  refine lv_aload_n hx hb d_Blocks_append_1 rfl (lv_at hl 1 rfl) ?_
  refine lv_iconst (v := 0) hx hb d_Blocks_append_2 (by decide) ?_
  obtain ⟨hin3, h⟩ := cz_ck h
  refine cp_ia S hP k1 hin3 d_Blocks_append_3 ?_
  obtain ⟨r4, M4, hq4, h⟩ := cz_ubi h
  refine iv_Blocks_48 (rest := []) S hl.1 hP hS (c_Blocks_find l hD M (M.1 a1 (0 : Int32).toNatClampNeg) hq4) ⟨Nat.le_of_ble_eq_true rfl, Nat.le_of_ble_eq_true rfl⟩ (Nat.le_of_ble_eq_true rfl) rfl d_Blocks_append_4 (fun H locs hP hS => ?_)
  refine lv_istore_n (lv' := [(2, .int r4), (0, .ref (X.2.1 19)), (1, .ref (X.2.1 a1))]) hx hb d_Blocks_append_7 rfl hl (by decide) rfl (fun ls hl => ?_)
  refine lv_aload_n hx hb d_Blocks_append_8 rfl (lv_at hl 1 rfl) ?_
  obtain ⟨r9, M9, hq9, h⟩ := cz_ubi h
  refine iv_Blocks_60 (rest := []) S hl.1 hP hS (c_Blocks_isFull l hD M4 hq9) ⟨Nat.le_of_ble_eq_true rfl, Nat.le_of_ble_eq_true rfl⟩ (Nat.le_of_ble_eq_true rfl) rfl d_Blocks_append_9 (fun H locs hP hS => ?_)
  refine lv_if_ne (tgt := 20) hx hb d_Blocks_append_12 rfl (fun hc => ?_) (fun hc => ?_)
  · have h := cz_f hc h
    exact cz_vreth S hr hlocks hP hS h d_Blocks_append_20
  have h := cz_t hc h
  refine lv_iload_n hx hb d_Blocks_append_15 rfl (lv_at hl 0 rfl) ?_
  refine lv_iconst (v := -1) hx hb d_Blocks_append_16 (by decide) ?_
  refine lv_icmp_ne (tgt := 21) hx hb d_Blocks_append_17 rfl (fun hc => ?_) (fun hc => ?_)
  · have h := cz_f hc h
    refine lv_aload_n hx hb d_Blocks_append_21 rfl (lv_at hl 2 rfl) ?_
    refine lv_iconst (v := 0) hx hb d_Blocks_append_22 (by decide) ?_
    refine lv_aload_n hx hb d_Blocks_append_23 rfl (lv_at hl 1 rfl) ?_
    refine gf_Blocks_11 S hP d_Blocks_append_24 ?_
    refine lv_aload_n hx hb d_Blocks_append_27 rfl (lv_at hl 1 rfl) ?_
    refine gf_Blocks_40 S hP d_Blocks_append_28 ?_
    obtain ⟨hin31, h⟩ := cz_ck h
    refine cp_aaGH S hP hin31 d_Blocks_append_31 ?_
    refine lv_iconst (v := 0) hx hb d_Blocks_append_32 (by decide) ?_
    refine lv_iconst (v := 5) hx hb d_Blocks_append_33 (by decide) ?_
    obtain ⟨hin34, h⟩ := cz_ck h
    refine ac_Blocks_64 S hl.1 hP hS k1 (cp_r69 hin31) hin34 (Nat.le_of_ble_eq_true rfl) (Nat.le_of_ble_eq_true rfl) d_Blocks_append_34 (fun H locs hP hS => ?_)
    refine lv_aload_n hx hb d_Blocks_append_37 rfl (lv_at hl 1 rfl) ?_
    refine gf_Blocks_16 S hP d_Blocks_append_38 ?_
    refine lv_aload_n hx hb d_Blocks_append_41 rfl (lv_at hl 1 rfl) ?_
    refine gf_Blocks_40 S hP d_Blocks_append_42 ?_
    refine lv_aload_n hx hb d_Blocks_append_45 rfl (lv_at hl 2 rfl) ?_
    obtain ⟨r46, M46, hq46, h⟩ := cz_ubi h
    refine iv_Blocks_36 (rest := [.int ((cz_a M9 (69 + (M9.1 19 7).toNatClampNeg) (va_cpy (M9.1 a1) (M9.1 (69 + (M9.1 19 7).toNatClampNeg)) (0 : Int32).toNatClampNeg (0 : Int32).toNatClampNeg (5 : Int32).toNatClampNeg)).1 19 7), .ref (X.2.1 21)]) S hl.1 hP hS (c_CP_hashOf l hD (cz_a M9 (69 + (M9.1 19 7).toNatClampNeg) (va_cpy (M9.1 a1) (M9.1 (69 + (M9.1 19 7).toNatClampNeg)) (0 : Int32).toNatClampNeg (0 : Int32).toNatClampNeg (5 : Int32).toNatClampNeg)) a1 k1 hq46) ⟨Nat.le_of_ble_eq_true rfl, Nat.le_of_ble_eq_true rfl⟩ (Nat.le_of_ble_eq_true rfl) rfl d_Blocks_append_46 (fun H locs hP hS => ?_)
    obtain ⟨hin49, h⟩ := cz_ck h
    refine cp_is S hP hS cp_k21 hin49 d_Blocks_append_49 (fun H locs hP hS => ?_)
    refine lv_aload_n hx hb d_Blocks_append_50 rfl (lv_at hl 1 rfl) ?_
    refine gf_Blocks_20 S hP d_Blocks_append_51 ?_
    refine lv_aload_n hx hb d_Blocks_append_54 rfl (lv_at hl 1 rfl) ?_
    refine gf_Blocks_40 S hP d_Blocks_append_55 ?_
    refine lv_iload_n hx hb d_Blocks_append_58 rfl (lv_at hl 0 rfl) ?_
    obtain ⟨hin59, h⟩ := cz_ck h
    refine cp_is S hP hS cp_k22 hin59 d_Blocks_append_59 (fun H locs hP hS => ?_)
    refine lv_aload_n hx hb d_Blocks_append_60 rfl (lv_at hl 1 rfl) ?_
    refine gf_Blocks_23 S hP d_Blocks_append_61 ?_
    refine lv_aload_n hx hb d_Blocks_append_64 rfl (lv_at hl 1 rfl) ?_
    refine gf_Blocks_40 S hP d_Blocks_append_65 ?_
    refine lv_aload_n hx hb d_Blocks_append_68 rfl (lv_at hl 1 rfl) ?_
    refine gf_Blocks_23 S hP d_Blocks_append_69 ?_
    refine lv_iload_n hx hb d_Blocks_append_72 rfl (lv_at hl 0 rfl) ?_
    obtain ⟨hin73, h⟩ := cz_ck h
    refine cp_ia S hP cp_k23 hin73 d_Blocks_append_73 ?_
    refine lv_aload_n hx hb d_Blocks_append_74 rfl (lv_at hl 2 rfl) ?_
    refine lv_iconst (v := 3) hx hb d_Blocks_append_75 (by decide) ?_
    obtain ⟨hin76, h⟩ := cz_ck h
    refine cp_ia S hP k1 hin76 d_Blocks_append_76 ?_
    refine lv_iadd hx hb d_Blocks_append_77 ?_
    obtain ⟨hin78, h⟩ := cz_ck h
    refine cp_is S hP hS cp_k23 hin78 d_Blocks_append_78 (fun H locs hP hS => ?_)
    refine lv_aload_n hx hb d_Blocks_append_79 rfl (lv_at hl 1 rfl) ?_
    refine gf_Blocks_29 S hP d_Blocks_append_80 ?_
    refine lv_aload_n hx hb d_Blocks_append_83 rfl (lv_at hl 1 rfl) ?_
    refine gf_Blocks_40 S hP d_Blocks_append_84 ?_
    refine lv_iconst (v := -1) hx hb d_Blocks_append_87 (by decide) ?_
    obtain ⟨hin88, h⟩ := cz_ck h
    refine cp_is S hP hS cp_k25 hin88 d_Blocks_append_88 (fun H locs hP hS => ?_)
    refine lv_aload_n hx hb d_Blocks_append_89 rfl (lv_at hl 1 rfl) ?_
    refine lv_dup hx hb d_Blocks_append_90 rfl ?_
    refine gf_Blocks_40 S hP d_Blocks_append_91 ?_
    refine lv_iconst (v := 1) hx hb d_Blocks_append_94 (by decide) ?_
    refine lv_iadd hx hb d_Blocks_append_95 ?_
    refine pf_Blocks_40 S hP hS d_Blocks_append_96 (fun H locs hP hS => ?_)
    exact cz_vreth S hr hlocks hP hS h d_Blocks_append_99
  have h := cz_t hc h
  exact cz_vreth S hr hlocks hP hS h d_Blocks_append_20
set_option maxHeartbeats 4000000 in
set_option maxRecDepth 100000 in
theorem c_Blocks_hasBody (l : Launch) {X : cz_X} {A : Nat → Prop} (hD : ∀ M, va_D A (cp_wl X M)) (M : cz_M) (a1 : Int32) {r2 : Int32} {M2 : cz_M} (h : f_Blocks_hasBody M a1 = some (r2, M2)) : cp_Ct l X A y_Blocks_hasBody (Cond.code y_Blocks_hasBody b_Blocks_hasBody 2 (some .boolean) :: cz_T) rm_Blocks_hasBody [.ref (X.2.1 19), .int a1] M (some (.int r2)) M2 := by
  refine cz_Met (by decide) rfl (Nat.le_of_ble_eq_true rfl) hD ?_
  intro p e s m args below meth c hargs S hr hlocks hP ls hl
  have S : cz_Cx p m c b_Blocks_hasBody 2 s args cz_T "ChainPeers$Blocks" X.1 cp_cl (cp_tys X) cz_N A (cp_wl X) := S
  have hx := S.1.1
  have hb := S.1.2.1
  have hS : va_S A s.heap s.heap [] := va_S.rf
  have hl : lv_has ls 2 [(0, .ref (X.2.1 19)), (1, .int a1)] := hl
  refine lv_aload_n hx hb d_Blocks_hasBody_0 rfl (lv_at hl 0 rfl) ?_
  refine gf_Blocks_29 S hP d_Blocks_hasBody_1 ?_
  refine lv_iload_n hx hb d_Blocks_hasBody_4 rfl (lv_at hl 1 rfl) ?_
  obtain ⟨hin5, h⟩ := cz_ck h
  refine cp_ia S hP cp_k25 hin5 d_Blocks_hasBody_5 ?_
  refine lv_iconst (v := -1) hx hb d_Blocks_hasBody_6 (by decide) ?_
  refine lv_icmp_eq (tgt := 14) hx hb d_Blocks_hasBody_7 rfl (fun hc => ?_) (fun hc => ?_)
  · have h := cz_t hc h
    refine lv_iconst (v := 0) hx hb d_Blocks_hasBody_14 (by decide) ?_
    exact cz_zreth S hr hlocks hP hS h rfl d_Blocks_hasBody_15
  have h := cz_f hc h
  refine lv_iconst (v := 1) hx hb d_Blocks_hasBody_10 (by decide) ?_
  refine lv_goto (tgt := 15) hx hb d_Blocks_hasBody_11 rfl ?_
  exact cz_zreth S hr hlocks hP hS h rfl d_Blocks_hasBody_15
set_option maxHeartbeats 4000000 in
set_option maxRecDepth 100000 in
theorem c_Blocks_setBody (l : Launch) {X : cz_X} {A : Nat → Prop} (hD : ∀ M, va_D A (cp_wl X M)) (M : cz_M) (a1 : Int32) (a2 : Nat) (a3 : Int32) (k2 : cp_I a2) {M2 : cz_M} (h : f_Blocks_setBody M a1 a2 a3 = some M2) : cp_Ct l X A y_Blocks_setBody (Cond.code y_Blocks_setBody b_Blocks_setBody 5 none :: cz_T) rm_Blocks_setBody [.ref (X.2.1 19), .int a1, .ref (X.2.1 a2), .int a3] M none M2 := by
  refine cz_Met (by decide) rfl (Nat.le_of_ble_eq_true rfl) hD ?_
  intro p e s m args below meth c hargs S hr hlocks hP ls hl
  have S : cz_Cx p m c b_Blocks_setBody 5 s args cz_T "ChainPeers$Blocks" X.1 cp_cl (cp_tys X) cz_N A (cp_wl X) := S
  have hx := S.1.1
  have hb := S.1.2.1
  have hS : va_S A s.heap s.heap [] := va_S.rf
  have hl : lv_has ls 5 [(0, .ref (X.2.1 19)), (1, .int a1), (2, .ref (X.2.1 a2)), (3, .int a3)] := hl
  have hb23 : ∀ (n : Nat) (M : cz_M) (v4 : Int32), cz_lp2 (l_Blocks_setBody_23 a1 a2 a3) n M v4 = some M2 → ∀ (H : Heap) (locs : List Loc) (ls : Array Slot), va_P X.1 cp_cl (cp_wl X M) H → va_S A s.heap H locs → lv_has ls 5 [(0, .ref (X.2.1 19)), (4, .int v4)] → W p l e rm_Blocks_setBody s m args below meth c H locs 0 0 (MQ below (cz_Qw X.1 cp_cl none (cp_wl X M2) A) args s 0 0 A) (F0 m 23 ls []) := by
    refine cz_ind2 (fun rec23 ih23 M v4 h H locs ls hP hS hl => ?_)
    have hb67 : ∀ (M : cz_M) (v4 : Int32) (s0 : Int32) (s1 : Int32), b_Blocks_setBody_67 a1 a2 a3 rec23 M v4 s0 s1 = some M2 → ∀ (H : Heap) (locs : List Loc) (ls : Array Slot), va_P X.1 cp_cl (cp_wl X M) H → va_S A s.heap H locs → lv_has ls 5 [(0, .ref (X.2.1 19)), (4, .int v4)] → W p l e rm_Blocks_setBody s m args below meth c H locs 0 0 (MQ below (cz_Qw X.1 cp_cl none (cp_wl X M2) A) args s 0 0 A) (F0 m 67 ls [.int s0, .int s1, .ref (X.2.1 26)]) := by
      intro M v4 s0 s1 h H locs ls hP hS hl
      obtain ⟨hin67, h⟩ := cz_ck h
      refine cp_zs S hP hS hin67 d_Blocks_setBody_67 (fun H locs hP hS => ?_)
      refine lv_iinc (lv' := [(4, .int (v4 + 1)), (0, .ref (X.2.1 19))]) (v := v4 + 1) (k := 1) hx hb d_Blocks_setBody_68 hl rfl (cz_inc1 _) (by decide) rfl (fun ls hl => ?_)
      refine lv_goto (tgt := 23) hx hb d_Blocks_setBody_71 rfl ?_
      exact ih23 (cz_i M 26 s1.toNatClampNeg (vp_nar .boolean s0)) (v4 + 1) h _ _ _ hP hS (lv_sub hl [1, 0] rfl)
    have hb66 : ∀ (M : cz_M) (v4 : Int32) (s0 : Int32), b_Blocks_setBody_66 a1 a2 a3 rec23 M v4 s0 = some M2 → ∀ (H : Heap) (locs : List Loc) (ls : Array Slot), va_P X.1 cp_cl (cp_wl X M) H → va_S A s.heap H locs → lv_has ls 5 [(0, .ref (X.2.1 19)), (4, .int v4)] → W p l e rm_Blocks_setBody s m args below meth c H locs 0 0 (MQ below (cz_Qw X.1 cp_cl none (cp_wl X M2) A) args s 0 0 A) (F0 m 66 ls [.int s0, .ref (X.2.1 26)]) := by
      intro M v4 s0 h H locs ls hP hS hl
      refine lv_iconst (v := 0) hx hb d_Blocks_setBody_66 (by decide) ?_
      exact hb67 M v4 (0 : Int32) s0 h _ _ _ hP hS (lv_sub hl [0, 1] rfl)
    refine lv_iload hx hb d_Blocks_setBody_23 (lv_at hl 1 rfl) ?_
    refine lv_aload_n hx hb d_Blocks_setBody_25 rfl (lv_at hl 0 rfl) ?_
    refine gf_Blocks_40 S hP d_Blocks_setBody_26 ?_
    refine lv_icmp_ge (tgt := 74) hx hb d_Blocks_setBody_29 rfl (fun hc => ?_) (fun hc => ?_)
    · have h := cz_t hc h
      exact cz_vreth S hr hlocks hP hS h d_Blocks_setBody_74
    have h := cz_f hc h
    refine lv_aload_n hx hb d_Blocks_setBody_32 rfl (lv_at hl 0 rfl) ?_
    refine gf_Blocks_32 S hP d_Blocks_setBody_33 ?_
    refine lv_iload hx hb d_Blocks_setBody_36 (lv_at hl 1 rfl) ?_
    refine lv_aload_n hx hb d_Blocks_setBody_38 rfl (lv_at hl 0 rfl) ?_
    refine lv_iload hx hb d_Blocks_setBody_39 (lv_at hl 1 rfl) ?_
    obtain ⟨r41, M41, hq41, h⟩ := cz_ubi h
    refine iv_Blocks_70 (rest := [.int v4, .ref (X.2.1 26)]) S hl.1 hP hS (c_Blocks_hasBody l hD M v4 hq41) ⟨Nat.le_of_ble_eq_true rfl, Nat.le_of_ble_eq_true rfl⟩ (Nat.le_of_ble_eq_true rfl) rfl d_Blocks_setBody_41 (fun H locs hP hS => ?_)
    refine lv_if_eq (tgt := 66) hx hb d_Blocks_setBody_44 rfl (fun hc => ?_) (fun hc => ?_)
    · have h := cz_t hc h
      exact hb66 M41 v4 v4 h _ _ _ hP hS (lv_sub hl [0, 1] rfl)
    have h := cz_f hc h
    refine lv_aload_n hx hb d_Blocks_setBody_47 rfl (lv_at hl 0 rfl) ?_
    refine gf_Blocks_32 S hP d_Blocks_setBody_48 ?_
    refine lv_aload_n hx hb d_Blocks_setBody_51 rfl (lv_at hl 0 rfl) ?_
    refine gf_Blocks_20 S hP d_Blocks_setBody_52 ?_
    refine lv_iload hx hb d_Blocks_setBody_55 (lv_at hl 1 rfl) ?_
    obtain ⟨hin57, h⟩ := cz_ck h
    refine cp_ia S hP cp_k22 hin57 d_Blocks_setBody_57 ?_
    obtain ⟨hin58, h⟩ := cz_ck h
    refine cp_za S hP hin58 d_Blocks_setBody_58 ?_
    refine lv_if_eq (tgt := 66) hx hb d_Blocks_setBody_59 rfl (fun hc => ?_) (fun hc => ?_)
    · have h := cz_t hc h
      exact hb66 M41 v4 v4 h _ _ _ hP hS (lv_sub hl [0, 1] rfl)
    have h := cz_f hc h
    refine lv_iconst (v := 1) hx hb d_Blocks_setBody_62 (by decide) ?_
    refine lv_goto (tgt := 67) hx hb d_Blocks_setBody_63 rfl ?_
    exact hb67 M41 v4 (1 : Int32) v4 h _ _ _ hP hS (lv_sub hl [0, 1] rfl)
  refine lv_aload_n hx hb d_Blocks_setBody_0 rfl (lv_at hl 2 rfl) ?_
  refine lv_iconst (v := 0) hx hb d_Blocks_setBody_1 (by decide) ?_
  refine lv_aload_n hx hb d_Blocks_setBody_2 rfl (lv_at hl 0 rfl) ?_
  refine gf_Blocks_26 S hP d_Blocks_setBody_3 ?_
  refine lv_iload_n hx hb d_Blocks_setBody_6 rfl (lv_at hl 1 rfl) ?_
  obtain ⟨hin7, h⟩ := cz_ck h
  refine cp_aaGB S hP hin7 d_Blocks_setBody_7 ?_
  refine lv_iconst (v := 0) hx hb d_Blocks_setBody_8 (by decide) ?_
  refine lv_iload_n hx hb d_Blocks_setBody_9 rfl (lv_at hl 3 rfl) ?_
  obtain ⟨hin10, h⟩ := cz_ck h
  refine ac_Blocks_64 S hl.1 hP hS k2 (cp_r89 hin7) hin10 (Nat.le_of_ble_eq_true rfl) (Nat.le_of_ble_eq_true rfl) d_Blocks_setBody_10 (fun H locs hP hS => ?_)
  refine lv_aload_n hx hb d_Blocks_setBody_13 rfl (lv_at hl 0 rfl) ?_
  refine gf_Blocks_29 S hP d_Blocks_setBody_14 ?_
  refine lv_iload_n hx hb d_Blocks_setBody_17 rfl (lv_at hl 1 rfl) ?_
  refine lv_iload_n hx hb d_Blocks_setBody_18 rfl (lv_at hl 3 rfl) ?_
  obtain ⟨hin19, h⟩ := cz_ck h
  refine cp_is S hP hS cp_k25 hin19 d_Blocks_setBody_19 (fun H locs hP hS => ?_)
  refine lv_iload_n hx hb d_Blocks_setBody_20 rfl (lv_at hl 1 rfl) ?_
  refine lv_istore (lv' := [(4, .int a1), (0, .ref (X.2.1 19)), (1, .int a1), (2, .ref (X.2.1 a2)), (3, .int a3)]) hx hb d_Blocks_setBody_21 hl (by decide) rfl (fun ls hl => ?_)
  exact hb23 _ (cz_i (cz_a M (89 + a1.toNatClampNeg) (va_cpy (M.1 a2) (M.1 (89 + a1.toNatClampNeg)) (0 : Int32).toNatClampNeg (0 : Int32).toNatClampNeg a3.toNatClampNeg)) 25 a1.toNatClampNeg a3) a1 h _ _ _ hP hS (lv_sub hl [1, 0] rfl)
set_option maxHeartbeats 4000000 in
set_option maxRecDepth 100000 in
theorem c_Blocks_heaviest (l : Launch) {X : cz_X} {A : Nat → Prop} (hD : ∀ M, va_D A (cp_wl X M)) (M : cz_M) {r2 : Int32} {M2 : cz_M} (h : f_Blocks_heaviest M = some (r2, M2)) : cp_Ct l X A y_Blocks_heaviest (Cond.code y_Blocks_heaviest b_Blocks_heaviest 3 (some .int) :: cz_T) rm_Blocks_heaviest [.ref (X.2.1 19)] M (some (.int r2)) M2 := by
  refine cz_Met (by decide) rfl (Nat.le_of_ble_eq_true rfl) hD ?_
  intro p e s m args below meth c hargs S hr hlocks hP ls hl
  have S : cz_Cx p m c b_Blocks_heaviest 3 s args cz_T "ChainPeers$Blocks" X.1 cp_cl (cp_tys X) cz_N A (cp_wl X) := S
  have hx := S.1.1
  have hb := S.1.2.1
  have hS : va_S A s.heap s.heap [] := va_S.rf
  have hl : lv_has ls 3 [(0, .ref (X.2.1 19))] := hl
  have hb4 : ∀ (n : Nat) (M : cz_M) (v1 : Int32) (v2 : Int32), cz_lp3 (l_Blocks_heaviest_4) n M v1 v2 = some (r2, M2) → ∀ (H : Heap) (locs : List Loc) (ls : Array Slot), va_P X.1 cp_cl (cp_wl X M) H → va_S A s.heap H locs → lv_has ls 3 [(0, .ref (X.2.1 19)), (1, .int v1), (2, .int v2)] → W p l e rm_Blocks_heaviest s m args below meth c H locs 0 0 (MQ below (cz_Qw X.1 cp_cl (some (.int r2)) (cp_wl X M2) A) args s 0 0 A) (F0 m 4 ls []) := by
    refine cz_ind3 (fun rec4 ih4 M v1 v2 h H locs ls hP hS hl => ?_)
    have hb29 : ∀ (M : cz_M) (v1 : Int32) (v2 : Int32), b_Blocks_heaviest_29 rec4 M v1 v2 = some (r2, M2) → ∀ (H : Heap) (locs : List Loc) (ls : Array Slot), va_P X.1 cp_cl (cp_wl X M) H → va_S A s.heap H locs → lv_has ls 3 [(0, .ref (X.2.1 19)), (1, .int v1), (2, .int v2)] → W p l e rm_Blocks_heaviest s m args below meth c H locs 0 0 (MQ below (cz_Qw X.1 cp_cl (some (.int r2)) (cp_wl X M2) A) args s 0 0 A) (F0 m 29 ls []) := by
      intro M v1 v2 h H locs ls hP hS hl
      refine lv_iinc (lv' := [(2, .int (v2 + 1)), (0, .ref (X.2.1 19)), (1, .int v1)]) (v := v2 + 1) (k := 2) hx hb d_Blocks_heaviest_29 hl rfl (cz_inc1 _) (by decide) rfl (fun ls hl => ?_)
      refine lv_goto (tgt := 4) hx hb d_Blocks_heaviest_32 rfl ?_
      exact ih4 M v1 (v2 + 1) h _ _ _ hP hS (lv_sub hl [1, 2, 0] rfl)
    refine lv_iload_n hx hb d_Blocks_heaviest_4 rfl (lv_at hl 2 rfl) ?_
    refine lv_aload_n hx hb d_Blocks_heaviest_5 rfl (lv_at hl 0 rfl) ?_
    refine gf_Blocks_40 S hP d_Blocks_heaviest_6 ?_
    refine lv_icmp_ge (tgt := 35) hx hb d_Blocks_heaviest_9 rfl (fun hc => ?_) (fun hc => ?_)
    · have h := cz_t hc h
      refine lv_iload_n hx hb d_Blocks_heaviest_35 rfl (lv_at hl 1 rfl) ?_
      exact cz_ireth S hr hlocks hP hS h d_Blocks_heaviest_36
    have h := cz_f hc h
    refine lv_aload_n hx hb d_Blocks_heaviest_12 rfl (lv_at hl 0 rfl) ?_
    refine gf_Blocks_23 S hP d_Blocks_heaviest_13 ?_
    refine lv_iload_n hx hb d_Blocks_heaviest_16 rfl (lv_at hl 2 rfl) ?_
    obtain ⟨hin17, h⟩ := cz_ck h
    refine cp_ia S hP cp_k23 hin17 d_Blocks_heaviest_17 ?_
    refine lv_aload_n hx hb d_Blocks_heaviest_18 rfl (lv_at hl 0 rfl) ?_
    refine gf_Blocks_23 S hP d_Blocks_heaviest_19 ?_
    refine lv_iload_n hx hb d_Blocks_heaviest_22 rfl (lv_at hl 1 rfl) ?_
    obtain ⟨hin23, h⟩ := cz_ck h
    refine cp_ia S hP cp_k23 hin23 d_Blocks_heaviest_23 ?_
    refine lv_icmp_le (tgt := 29) hx hb d_Blocks_heaviest_24 rfl (fun hc => ?_) (fun hc => ?_)
    · have h := cz_t hc h
      exact hb29 M v1 v2 h _ _ _ hP hS (lv_sub hl [0, 1, 2] rfl)
    have h := cz_f hc h
    refine lv_iload_n hx hb d_Blocks_heaviest_27 rfl (lv_at hl 2 rfl) ?_
    refine lv_istore_n (lv' := [(1, .int v2), (0, .ref (X.2.1 19)), (2, .int v2)]) hx hb d_Blocks_heaviest_28 rfl hl (by decide) rfl (fun ls hl => ?_)
    exact hb29 M v2 v2 h _ _ _ hP hS (lv_sub hl [1, 0, 2] rfl)
  refine lv_iconst (v := 0) hx hb d_Blocks_heaviest_0 (by decide) ?_
  refine lv_istore_n (lv' := [(1, .int (0 : Int32)), (0, .ref (X.2.1 19))]) hx hb d_Blocks_heaviest_1 rfl hl (by decide) rfl (fun ls hl => ?_)
  refine lv_iconst (v := 1) hx hb d_Blocks_heaviest_2 (by decide) ?_
  refine lv_istore_n (lv' := [(2, .int (1 : Int32)), (1, .int (0 : Int32)), (0, .ref (X.2.1 19))]) hx hb d_Blocks_heaviest_3 rfl hl (by decide) rfl (fun ls hl => ?_)
  exact hb4 _ M (0 : Int32) (1 : Int32) h _ _ _ hP hS (lv_sub hl [2, 1, 0] rfl)
set_option maxHeartbeats 4000000 in
set_option maxRecDepth 100000 in
theorem c_Blocks_isBlock (l : Launch) {X : cz_X} {A : Nat → Prop} (hD : ∀ M, va_D A (cp_wl X M)) (M : cz_M) (a1 : Int32) {r2 : Int32} {M2 : cz_M} (h : f_Blocks_isBlock M a1 = some (r2, M2)) : cp_Ct l X A y_Blocks_isBlock (Cond.code y_Blocks_isBlock b_Blocks_isBlock 2 (some .boolean) :: cz_T) rm_Blocks_isBlock [.ref (X.2.1 19), .int a1] M (some (.int r2)) M2 := by
  refine cz_Met (by decide) rfl (Nat.le_of_ble_eq_true rfl) hD ?_
  intro p e s m args below meth c hargs S hr hlocks hP ls hl
  have S : cz_Cx p m c b_Blocks_isBlock 2 s args cz_T "ChainPeers$Blocks" X.1 cp_cl (cp_tys X) cz_N A (cp_wl X) := S
  have hx := S.1.1
  have hb := S.1.2.1
  have hS : va_S A s.heap s.heap [] := va_S.rf
  have hl : lv_has ls 2 [(0, .ref (X.2.1 19)), (1, .int a1)] := hl
  refine lv_iload_n hx hb d_Blocks_isBlock_0 rfl (lv_at hl 1 rfl) ?_
  refine lv_if_lt (tgt := 16) hx hb d_Blocks_isBlock_1 rfl (fun hc => ?_) (fun hc => ?_)
  · have h := cz_t hc h
    refine lv_iconst (v := 0) hx hb d_Blocks_isBlock_16 (by decide) ?_
    exact cz_zreth S hr hlocks hP hS h rfl d_Blocks_isBlock_17
  have h := cz_f hc h
  refine lv_iload_n hx hb d_Blocks_isBlock_4 rfl (lv_at hl 1 rfl) ?_
  refine lv_aload_n hx hb d_Blocks_isBlock_5 rfl (lv_at hl 0 rfl) ?_
  refine gf_Blocks_40 S hP d_Blocks_isBlock_6 ?_
  refine lv_icmp_ge (tgt := 16) hx hb d_Blocks_isBlock_9 rfl (fun hc => ?_) (fun hc => ?_)
  · have h := cz_t hc h
    refine lv_iconst (v := 0) hx hb d_Blocks_isBlock_16 (by decide) ?_
    exact cz_zreth S hr hlocks hP hS h rfl d_Blocks_isBlock_17
  have h := cz_f hc h
  refine lv_iconst (v := 1) hx hb d_Blocks_isBlock_12 (by decide) ?_
  refine lv_goto (tgt := 17) hx hb d_Blocks_isBlock_13 rfl ?_
  exact cz_zreth S hr hlocks hP hS h rfl d_Blocks_isBlock_17
set_option maxHeartbeats 4000000 in
set_option maxRecDepth 100000 in
theorem c_Blocks_look (l : Launch) {X : cz_X} {A : Nat → Prop} (hD : ∀ M, va_D A (cp_wl X M)) (M : cz_M) (a1 : Int32) (a2 : Int32) {r2 : Int32} {M2 : cz_M} (h : f_Blocks_look M a1 a2 = some (r2, M2)) : cp_Ct l X A y_Blocks_look (Cond.code y_Blocks_look b_Blocks_look 3 (some .int) :: cz_T) rm_Blocks_look [.ref (X.2.1 19), .int a1, .int a2] M (some (.int r2)) M2 := by
  refine cz_Met (by decide) rfl (Nat.le_of_ble_eq_true rfl) hD ?_
  intro p e s m args below meth c hargs S hr hlocks hP ls hl
  have S : cz_Cx p m c b_Blocks_look 3 s args cz_T "ChainPeers$Blocks" X.1 cp_cl (cp_tys X) cz_N A (cp_wl X) := S
  have hx := S.1.1
  have hb := S.1.2.1
  have hS : va_S A s.heap s.heap [] := va_S.rf
  have hl : lv_has ls 3 [(0, .ref (X.2.1 19)), (1, .int a1), (2, .int a2)] := hl
  have hb60 : ∀ (M : cz_M), b_Blocks_look_60 a1 a2 M = some (r2, M2) → ∀ (H : Heap) (locs : List Loc) (ls : Array Slot), va_P X.1 cp_cl (cp_wl X M) H → va_S A s.heap H locs → lv_has ls 3 [(0, .ref (X.2.1 19)), (1, .int a1), (2, .int a2)] → W p l e rm_Blocks_look s m args below meth c H locs 0 0 (MQ below (cz_Qw X.1 cp_cl (some (.int r2)) (cp_wl X M2) A) args s 0 0 A) (F0 m 60 ls []) := by
    intro M h H locs ls hP hS hl
    refine lv_aload_n hx hb d_Blocks_look_60 rfl (lv_at hl 0 rfl) ?_
    refine gf_Blocks_11 S hP d_Blocks_look_61 ?_
    refine lv_iload_n hx hb d_Blocks_look_64 rfl (lv_at hl 1 rfl) ?_
    obtain ⟨hin65, h⟩ := cz_ck h
    refine cp_aaGH S hP hin65 d_Blocks_look_65 ?_
    refine lv_iload_n hx hb d_Blocks_look_66 rfl (lv_at hl 2 rfl) ?_
    obtain ⟨hin67, h⟩ := cz_ck h
    refine cp_ia S hP (cp_r69 hin65) hin67 d_Blocks_look_67 ?_
    exact cz_ireth S hr hlocks hP hS h d_Blocks_look_68
  refine lv_aload_n hx hb d_Blocks_look_0 rfl (lv_at hl 0 rfl) ?_
  refine lv_iload_n hx hb d_Blocks_look_1 rfl (lv_at hl 1 rfl) ?_
  obtain ⟨r2, M2, hq2, h⟩ := cz_ubi h
  refine iv_Blocks_44 (rest := []) S hl.1 hP hS (c_Blocks_isBlock l hD M a1 hq2) ⟨Nat.le_of_ble_eq_true rfl, Nat.le_of_ble_eq_true rfl⟩ (Nat.le_of_ble_eq_true rfl) rfl d_Blocks_look_2 (fun H locs hP hS => ?_)
  refine lv_if_ne (tgt := 10) hx hb d_Blocks_look_5 rfl (fun hc => ?_) (fun hc => ?_)
  · have h := cz_f hc h
    refine lv_iload_n hx hb d_Blocks_look_10 rfl (lv_at hl 2 rfl) ?_
    refine (Decidable.em (a2 = (0 : Int32))).elim (fun hc => ?_) (fun hc0 => ?_)
    · have h := cz_t hc h
      refine lv_tableIn (tgt := 60) hx hb d_Blocks_look_11 (by rw [hc]; decide) (by rw [hc]; decide) (by rw [hc]; rfl) rfl ?_
      exact hb60 M2 h _ _ _ hP hS (lv_sub hl [0, 1, 2] rfl)
    have h := cz_f hc0 h
    refine (Decidable.em (a2 = (1 : Int32))).elim (fun hc => ?_) (fun hc1 => ?_)
    · have h := cz_t hc h
      refine lv_tableIn (tgt := 60) hx hb d_Blocks_look_11 (by rw [hc]; decide) (by rw [hc]; decide) (by rw [hc]; rfl) rfl ?_
      exact hb60 M2 h _ _ _ hP hS (lv_sub hl [0, 1, 2] rfl)
    have h := cz_f hc1 h
    refine (Decidable.em (a2 = (2 : Int32))).elim (fun hc => ?_) (fun hc2 => ?_)
    · have h := cz_t hc h
      refine lv_tableIn (tgt := 60) hx hb d_Blocks_look_11 (by rw [hc]; decide) (by rw [hc]; decide) (by rw [hc]; rfl) rfl ?_
      exact hb60 M2 h _ _ _ hP hS (lv_sub hl [0, 1, 2] rfl)
    have h := cz_f hc2 h
    refine (Decidable.em (a2 = (3 : Int32))).elim (fun hc => ?_) (fun hc3 => ?_)
    · have h := cz_t hc h
      refine lv_tableIn (tgt := 60) hx hb d_Blocks_look_11 (by rw [hc]; decide) (by rw [hc]; decide) (by rw [hc]; rfl) rfl ?_
      exact hb60 M2 h _ _ _ hP hS (lv_sub hl [0, 1, 2] rfl)
    have h := cz_f hc3 h
    refine (Decidable.em (a2 = (4 : Int32))).elim (fun hc => ?_) (fun hc4 => ?_)
    · have h := cz_t hc h
      refine lv_tableIn (tgt := 60) hx hb d_Blocks_look_11 (by rw [hc]; decide) (by rw [hc]; decide) (by rw [hc]; rfl) rfl ?_
      exact hb60 M2 h _ _ _ hP hS (lv_sub hl [0, 1, 2] rfl)
    have h := cz_f hc4 h
    refine (Decidable.em (a2 = (5 : Int32))).elim (fun hc => ?_) (fun hc5 => ?_)
    · have h := cz_t hc h
      refine lv_tableIn (tgt := 69) hx hb d_Blocks_look_11 (by rw [hc]; decide) (by rw [hc]; decide) (by rw [hc]; rfl) rfl ?_
      refine lv_aload_n hx hb d_Blocks_look_69 rfl (lv_at hl 0 rfl) ?_
      refine gf_Blocks_16 S hP d_Blocks_look_70 ?_
      refine lv_iload_n hx hb d_Blocks_look_73 rfl (lv_at hl 1 rfl) ?_
      obtain ⟨hin74, h⟩ := cz_ck h
      refine cp_ia S hP cp_k21 hin74 d_Blocks_look_74 ?_
      exact cz_ireth S hr hlocks hP hS h d_Blocks_look_75
    have h := cz_f hc5 h
    refine (Decidable.em (a2 = (6 : Int32))).elim (fun hc => ?_) (fun hc6 => ?_)
    · have h := cz_t hc h
      refine lv_tableIn (tgt := 76) hx hb d_Blocks_look_11 (by rw [hc]; decide) (by rw [hc]; decide) (by rw [hc]; rfl) rfl ?_
      refine lv_aload_n hx hb d_Blocks_look_76 rfl (lv_at hl 0 rfl) ?_
      refine gf_Blocks_23 S hP d_Blocks_look_77 ?_
      refine lv_iload_n hx hb d_Blocks_look_80 rfl (lv_at hl 1 rfl) ?_
      obtain ⟨hin81, h⟩ := cz_ck h
      refine cp_ia S hP cp_k23 hin81 d_Blocks_look_81 ?_
      exact cz_ireth S hr hlocks hP hS h d_Blocks_look_82
    have h := cz_f hc6 h
    refine (Decidable.em (a2 = (7 : Int32))).elim (fun hc => ?_) (fun hc7 => ?_)
    · have h := cz_t hc h
      refine lv_tableIn (tgt := 83) hx hb d_Blocks_look_11 (by rw [hc]; decide) (by rw [hc]; decide) (by rw [hc]; rfl) rfl ?_
      refine lv_aload_n hx hb d_Blocks_look_83 rfl (lv_at hl 0 rfl) ?_
      refine gf_Blocks_29 S hP d_Blocks_look_84 ?_
      refine lv_iload_n hx hb d_Blocks_look_87 rfl (lv_at hl 1 rfl) ?_
      obtain ⟨hin88, h⟩ := cz_ck h
      refine cp_ia S hP cp_k25 hin88 d_Blocks_look_88 ?_
      exact cz_ireth S hr hlocks hP hS h d_Blocks_look_89
    have h := cz_f hc7 h
    refine (Decidable.em (a2 = (8 : Int32))).elim (fun hc => ?_) (fun hc8 => ?_)
    · have h := cz_t hc h
      refine lv_tableIn (tgt := 90) hx hb d_Blocks_look_11 (by rw [hc]; decide) (by rw [hc]; decide) (by rw [hc]; rfl) rfl ?_
      refine lv_aload_n hx hb d_Blocks_look_90 rfl (lv_at hl 0 rfl) ?_
      refine gf_Blocks_32 S hP d_Blocks_look_91 ?_
      refine lv_iload_n hx hb d_Blocks_look_94 rfl (lv_at hl 1 rfl) ?_
      obtain ⟨hin95, h⟩ := cz_ck h
      refine cp_za S hP hin95 d_Blocks_look_95 ?_
      refine lv_if_eq (tgt := 103) hx hb d_Blocks_look_96 rfl (fun hc => ?_) (fun hc => ?_)
      · have h := cz_t hc h
        refine lv_iconst (v := 0) hx hb d_Blocks_look_103 (by decide) ?_
        exact cz_ireth S hr hlocks hP hS h d_Blocks_look_104
      have h := cz_f hc h
      refine lv_iconst (v := 1) hx hb d_Blocks_look_99 (by decide) ?_
      refine lv_goto (tgt := 104) hx hb d_Blocks_look_100 rfl ?_
      exact cz_ireth S hr hlocks hP hS h d_Blocks_look_104
    have h := cz_f hc8 h
    refine lv_tableOut (tgt := 105) hx hb d_Blocks_look_11 (by have e0 := lv_neT (a := 0) hc0 rfl; have e1 := lv_neT (a := 1) hc1 rfl; have e2 := lv_neT (a := 2) hc2 rfl; have e3 := lv_neT (a := 3) hc3 rfl; have e4 := lv_neT (a := 4) hc4 rfl; have e5 := lv_neT (a := 5) hc5 rfl; have e6 := lv_neT (a := 6) hc6 rfl; have e7 := lv_neT (a := 7) hc7 rfl; have e8 := lv_neT (a := 8) hc8 rfl; omega) rfl ?_
    refine lv_iconst (v := -1) hx hb d_Blocks_look_105 (by decide) ?_
    exact cz_ireth S hr hlocks hP hS h d_Blocks_look_106
  have h := cz_t hc h
  refine lv_iconst (v := -1) hx hb d_Blocks_look_8 (by decide) ?_
  exact cz_ireth S hr hlocks hP hS h d_Blocks_look_9
set_option maxHeartbeats 4000000 in
set_option maxRecDepth 100000 in
theorem c_Blocks_hasInBody (l : Launch) {X : cz_X} {A : Nat → Prop} (hD : ∀ M, va_D A (cp_wl X M)) (M : cz_M) (a1 : Int32) (a2 : Int32) {r2 : Int32} {M2 : cz_M} (h : f_Blocks_hasInBody M a1 a2 = some (r2, M2)) : cp_Ct l X A y_Blocks_hasInBody (Cond.code y_Blocks_hasInBody b_Blocks_hasInBody 3 (some .boolean) :: cz_T) rm_Blocks_hasInBody [.ref (X.2.1 19), .int a1, .int a2] M (some (.int r2)) M2 := by
  refine cz_Met (by decide) rfl (Nat.le_of_ble_eq_true rfl) hD ?_
  intro p e s m args below meth c hargs S hr hlocks hP ls hl
  have S : cz_Cx p m c b_Blocks_hasInBody 3 s args cz_T "ChainPeers$Blocks" X.1 cp_cl (cp_tys X) cz_N A (cp_wl X) := S
  have hx := S.1.1
  have hb := S.1.2.1
  have hS : va_S A s.heap s.heap [] := va_S.rf
  have hl : lv_has ls 3 [(0, .ref (X.2.1 19)), (1, .int a1), (2, .int a2)] := hl
  refine lv_aload_n hx hb d_Blocks_hasInBody_0 rfl (lv_at hl 0 rfl) ?_
  refine lv_iload_n hx hb d_Blocks_hasInBody_1 rfl (lv_at hl 1 rfl) ?_
  obtain ⟨r2, M2, hq2, h⟩ := cz_ubi h
  refine iv_Blocks_44 (rest := []) S hl.1 hP hS (c_Blocks_isBlock l hD M a1 hq2) ⟨Nat.le_of_ble_eq_true rfl, Nat.le_of_ble_eq_true rfl⟩ (Nat.le_of_ble_eq_true rfl) rfl d_Blocks_hasInBody_2 (fun H locs hP hS => ?_)
  refine lv_if_eq (tgt := 26) hx hb d_Blocks_hasInBody_5 rfl (fun hc => ?_) (fun hc => ?_)
  · have h := cz_t hc h
    refine lv_iconst (v := 0) hx hb d_Blocks_hasInBody_26 (by decide) ?_
    exact cz_zreth S hr hlocks hP hS h rfl d_Blocks_hasInBody_27
  have h := cz_f hc h
  refine lv_iload_n hx hb d_Blocks_hasInBody_8 rfl (lv_at hl 2 rfl) ?_
  refine lv_if_lt (tgt := 26) hx hb d_Blocks_hasInBody_9 rfl (fun hc => ?_) (fun hc => ?_)
  · have h := cz_t hc h
    refine lv_iconst (v := 0) hx hb d_Blocks_hasInBody_26 (by decide) ?_
    exact cz_zreth S hr hlocks hP hS h rfl d_Blocks_hasInBody_27
  have h := cz_f hc h
  refine lv_iload_n hx hb d_Blocks_hasInBody_12 rfl (lv_at hl 2 rfl) ?_
  refine lv_aload_n hx hb d_Blocks_hasInBody_13 rfl (lv_at hl 0 rfl) ?_
  refine gf_Blocks_29 S hP d_Blocks_hasInBody_14 ?_
  refine lv_iload_n hx hb d_Blocks_hasInBody_17 rfl (lv_at hl 1 rfl) ?_
  obtain ⟨hin18, h⟩ := cz_ck h
  refine cp_ia S hP cp_k25 hin18 d_Blocks_hasInBody_18 ?_
  refine lv_icmp_ge (tgt := 26) hx hb d_Blocks_hasInBody_19 rfl (fun hc => ?_) (fun hc => ?_)
  · have h := cz_t hc h
    refine lv_iconst (v := 0) hx hb d_Blocks_hasInBody_26 (by decide) ?_
    exact cz_zreth S hr hlocks hP hS h rfl d_Blocks_hasInBody_27
  have h := cz_f hc h
  refine lv_iconst (v := 1) hx hb d_Blocks_hasInBody_22 (by decide) ?_
  refine lv_goto (tgt := 27) hx hb d_Blocks_hasInBody_23 rfl ?_
  exact cz_zreth S hr hlocks hP hS h rfl d_Blocks_hasInBody_27
