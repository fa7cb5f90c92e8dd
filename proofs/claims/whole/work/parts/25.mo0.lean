set_option maxHeartbeats 4000000 in
set_option maxRecDepth 100000 in
theorem c_MO_mix (l : Launch) {X : cz_X} {A : Nat → Prop} (hD : ∀ M, va_D A (mo_wl X M)) (M : cz_M) (a0 : Int32) (a1 : Int32) {r2 : Int32} {M2 : cz_M} (h : f_MO_mix M a0 a1 = some (r2, M2)) : mo_Ct l X A y_MO_mix (Cond.code y_MO_mix b_MO_mix 3 (some .int) :: cz_T) rm_MO_mix [.int a0, .int a1] M (some (.int r2)) M2 := by
  refine cz_Met (by decide) rfl (Nat.le_of_ble_eq_true rfl) hD ?_
  intro p e s m args below meth c hargs S hr hlocks hP ls hl
  have S : cz_Cx p m c b_MO_mix 3 s args cz_T "ChainPeersModel" X.1 mo_cl (mo_tys X) cz_N A (mo_wl X) := S
  have hx := S.1.1
  have hb := S.1.2.1
  have hS : va_S A s.heap s.heap [] := va_S.rf
  have hl : lv_has ls 3 [(0, .int a0), (1, .int a1)] := hl
  refine lv_iload_n hx hb d_MO_mix_0 rfl (lv_at hl 0 rfl) ?_
  refine lv_iload_n hx hb d_MO_mix_1 rfl (lv_at hl 1 rfl) ?_
  refine lv_ixor hx hb d_MO_mix_2 ?_
  refine lv_ldc (v := 16777619) hx hb S.1.2.2.2.1 (S.1.2.2.2.2 _ mw_690) d_MO_mix_3 ?_
  refine lv_imul hx hb d_MO_mix_5 ?_
  refine lv_istore_n (lv' := [(2, .int ((a0 ^^^ a1) * (16777619 : Int32))), (0, .int a0), (1, .int a1)]) hx hb d_MO_mix_6 rfl hl (by decide) rfl (fun ls hl => ?_)
  refine lv_iload_n hx hb d_MO_mix_7 rfl (lv_at hl 0 rfl) ?_
  refine lv_iload_n hx hb d_MO_mix_8 rfl (lv_at hl 0 rfl) ?_
  refine lv_bipush (v := 15) hx hb d_MO_mix_9 (by decide) ?_
  refine lv_iushr (v := cz_iushr ((a0 ^^^ a1) * (16777619 : Int32)) (15 : Int32)) hx hb d_MO_mix_11 rfl ?_
  refine lv_ixor hx hb d_MO_mix_12 ?_
  refine lv_ldc (v := 2147483647) hx hb S.1.2.2.2.1 (S.1.2.2.2.2 _ mw_691) d_MO_mix_13 ?_
  refine lv_iand hx hb d_MO_mix_15 ?_
  exact cz_ireth S hr hlocks hP hS h d_MO_mix_16
set_option maxHeartbeats 4000000 in
set_option maxRecDepth 100000 in
theorem c_MO_hash (l : Launch) {X : cz_X} {A : Nat → Prop} (hD : ∀ M, va_D A (mo_wl X M)) (M : cz_M) (a1 : Int32) (a2 : Int32) {r2 : Int32} {M2 : cz_M} (h : f_MO_hash M a1 a2 = some (r2, M2)) : mo_Ct l X A y_MO_hash (Cond.code y_MO_hash b_MO_hash 5 (some .int) :: cz_T) rm_MO_hash [.ref (X.2.1 0), .int a1, .int a2] M (some (.int r2)) M2 := by
  refine cz_Met (by decide) rfl (Nat.le_of_ble_eq_true rfl) hD ?_
  intro p e s m args below meth c hargs S hr hlocks hP ls hl
  have S : cz_Cx p m c b_MO_hash 5 s args cz_T "ChainPeersModel" X.1 mo_cl (mo_tys X) cz_N A (mo_wl X) := S
  have hx := S.1.1
  have hb := S.1.2.1
  have hS : va_S A s.heap s.heap [] := va_S.rf
  have hl : lv_has ls 5 [(0, .ref (X.2.1 0)), (1, .int a1), (2, .int a2)] := hl
  have hb6 : ∀ (n : Nat) (M : cz_M) (v3 : Int32) (v4 : Int32), cz_lp3 (l_MO_hash_6 a1 a2) n M v3 v4 = some (r2, M2) → ∀ (H : Heap) (locs : List Loc) (ls : Array Slot), va_P X.1 mo_cl (mo_wl X M) H → va_S A s.heap H locs → lv_has ls 5 [(0, .ref (X.2.1 0)), (1, .int a1), (2, .int a2), (3, .int v3), (4, .int v4)] → W p l e rm_MO_hash s m args below meth c H locs 0 0 (MQ below (cz_Qw X.1 mo_cl (some (.int r2)) (mo_wl X M2) A) args s 0 0 A) (F0 m 6 ls []) := by
    refine cz_ind3 (fun rec6 ih6 M v3 v4 h H locs ls hP hS hl => ?_)
    have hb38 : ∀ (M : cz_M) (v4 : Int32) (s0 : Int32) (s1 : Int32), b_MO_hash_38 a1 a2 rec6 M v4 s0 s1 = some (r2, M2) → ∀ (H : Heap) (locs : List Loc) (ls : Array Slot), va_P X.1 mo_cl (mo_wl X M) H → va_S A s.heap H locs → lv_has ls 5 [(0, .ref (X.2.1 0)), (1, .int a1), (2, .int a2), (4, .int v4)] → W p l e rm_MO_hash s m args below meth c H locs 0 0 (MQ below (cz_Qw X.1 mo_cl (some (.int r2)) (mo_wl X M2) A) args s 0 0 A) (F0 m 38 ls [.int s0, .int s1]) := by
      intro M v4 s0 s1 h H locs ls hP hS hl
      obtain ⟨r38, M38, hq38, h⟩ := cz_ubi h
      refine iv_MO_76 (rest := []) S hl.1 hP hS (c_MO_mix l hD M s1 s0 hq38) ⟨Nat.le_of_ble_eq_true rfl, Nat.le_of_ble_eq_true rfl⟩ (Nat.le_of_ble_eq_true rfl) rfl d_MO_hash_38 (fun H locs hP hS => ?_)
      refine lv_istore_n (lv' := [(3, .int r38), (0, .ref (X.2.1 0)), (1, .int a1), (2, .int a2), (4, .int v4)]) hx hb d_MO_hash_41 rfl hl (by decide) rfl (fun ls hl => ?_)
      refine lv_iinc (lv' := [(4, .int (v4 + 1)), (3, .int r38), (0, .ref (X.2.1 0)), (1, .int a1), (2, .int a2)]) (v := v4 + 1) (k := 4) hx hb d_MO_hash_42 hl rfl (cz_inc1 _) (by decide) rfl (fun ls hl => ?_)
      refine lv_goto (tgt := 6) hx hb d_MO_hash_45 rfl ?_
      exact ih6 M38 r38 (v4 + 1) h _ _ _ hP hS (lv_sub hl [2, 3, 4, 1, 0] rfl)
    refine lv_iload hx hb d_MO_hash_6 (lv_at hl 4 rfl) ?_
    refine lv_iconst (v := 5) hx hb d_MO_hash_8 (by decide) ?_
    refine lv_icmp_ge (tgt := 48) hx hb d_MO_hash_9 rfl (fun hc => ?_) (fun hc => ?_)
    · have h := cz_t hc h
      refine lv_iload_n hx hb d_MO_hash_48 rfl (lv_at hl 3 rfl) ?_
      exact cz_ireth S hr hlocks hP hS h d_MO_hash_49
    have h := cz_f hc h
    refine lv_iload_n hx hb d_MO_hash_12 rfl (lv_at hl 3 rfl) ?_
    refine lv_iload_n hx hb d_MO_hash_13 rfl (lv_at hl 1 rfl) ?_
    refine lv_if_eq (tgt := 29) hx hb d_MO_hash_14 rfl (fun hc => ?_) (fun hc => ?_)
    · have h := cz_t hc h
      refine lv_aload_n hx hb d_MO_hash_29 rfl (lv_at hl 0 rfl) ?_
      refine gf_MO_58 S hP d_MO_hash_30 ?_
      refine lv_iload_n hx hb d_MO_hash_33 rfl (lv_at hl 2 rfl) ?_
      refine lv_iload hx hb d_MO_hash_34 (lv_at hl 4 rfl) ?_
      refine lv_iadd hx hb d_MO_hash_36 ?_
      obtain ⟨hin37, h⟩ := cz_ck h
      refine mo_ia S hP mo_k17 hin37 d_MO_hash_37 ?_
      exact hb38 M v4 (M.1 17 (a2 + v4).toNatClampNeg) v3 h _ _ _ hP hS (lv_sub hl [0, 1, 2, 4] rfl)
    have h := cz_f hc h
    refine lv_aload_n hx hb d_MO_hash_17 rfl (lv_at hl 0 rfl) ?_
    refine gf_MO_7 S hP d_MO_hash_18 ?_
    refine lv_iload_n hx hb d_MO_hash_21 rfl (lv_at hl 2 rfl) ?_
    refine lv_iload hx hb d_MO_hash_22 (lv_at hl 4 rfl) ?_
    refine lv_iadd hx hb d_MO_hash_24 ?_
    obtain ⟨hin25, h⟩ := cz_ck h
    refine mo_ia S hP mo_k1 hin25 d_MO_hash_25 ?_
    refine lv_goto (tgt := 38) hx hb d_MO_hash_26 rfl ?_
    exact hb38 M v4 (M.1 1 (a2 + v4).toNatClampNeg) v3 h _ _ _ hP hS (lv_sub hl [0, 1, 2, 4] rfl)
  refine lv_bipush (v := 7) hx hb d_MO_hash_0 (by decide) ?_
  refine lv_istore_n (lv' := [(3, .int (7 : Int32)), (0, .ref (X.2.1 0)), (1, .int a1), (2, .int a2)]) hx hb d_MO_hash_2 rfl hl (by decide) rfl (fun ls hl => ?_)
  refine lv_iconst (v := 0) hx hb d_MO_hash_3 (by decide) ?_
  refine lv_istore (lv' := [(4, .int (0 : Int32)), (3, .int (7 : Int32)), (0, .ref (X.2.1 0)), (1, .int a1), (2, .int a2)]) hx hb d_MO_hash_4 hl (by decide) rfl (fun ls hl => ?_)
  exact hb6 _ M (7 : Int32) (0 : Int32) h _ _ _ hP hS (lv_sub hl [2, 3, 4, 1, 0] rfl)
set_option maxHeartbeats 4000000 in
set_option maxRecDepth 100000 in
theorem c_MO_blockOf (l : Launch) {X : cz_X} {A : Nat → Prop} (hD : ∀ M, va_D A (mo_wl X M)) (M : cz_M) (a1 : Int32) {r2 : Int32} {M2 : cz_M} (h : f_MO_blockOf M a1 = some (r2, M2)) : mo_Ct l X A y_MO_blockOf (Cond.code y_MO_blockOf b_MO_blockOf 3 (some .int) :: cz_T) rm_MO_blockOf [.ref (X.2.1 0), .int a1] M (some (.int r2)) M2 := by
  refine cz_Met (by decide) rfl (Nat.le_of_ble_eq_true rfl) hD ?_
  intro p e s m args below meth c hargs S hr hlocks hP ls hl
  have S : cz_Cx p m c b_MO_blockOf 3 s args cz_T "ChainPeersModel" X.1 mo_cl (mo_tys X) cz_N A (mo_wl X) := S
  have hx := S.1.1
  have hb := S.1.2.1
  have hS : va_S A s.heap s.heap [] := va_S.rf
  have hl : lv_has ls 3 [(0, .ref (X.2.1 0)), (1, .int a1)] := hl
  have hb2 : ∀ (n : Nat) (M : cz_M) (v2 : Int32), cz_lp2 (l_MO_blockOf_2 a1) n M v2 = some (r2, M2) → ∀ (H : Heap) (locs : List Loc) (ls : Array Slot), va_P X.1 mo_cl (mo_wl X M) H → va_S A s.heap H locs → lv_has ls 3 [(0, .ref (X.2.1 0)), (1, .int a1), (2, .int v2)] → W p l e rm_MO_blockOf s m args below meth c H locs 0 0 (MQ below (cz_Qw X.1 mo_cl (some (.int r2)) (mo_wl X M2) A) args s 0 0 A) (F0 m 2 ls []) := by
    refine cz_ind2 (fun rec2 ih2 M v2 h H locs ls hP hS hl => ?_)
    refine lv_iload_n hx hb d_MO_blockOf_2 rfl (lv_at hl 2 rfl) ?_
    refine lv_aload_n hx hb d_MO_blockOf_3 rfl (lv_at hl 0 rfl) ?_
    refine gf_MO_71 S hP d_MO_blockOf_4 ?_
    refine lv_icmp_ge (tgt := 30) hx hb d_MO_blockOf_7 rfl (fun hc => ?_) (fun hc => ?_)
    · have h := cz_t hc h
      refine lv_iconst (v := -1) hx hb d_MO_blockOf_30 (by decide) ?_
      exact cz_ireth S hr hlocks hP hS h d_MO_blockOf_31
    have h := cz_f hc h
    refine lv_aload_n hx hb d_MO_blockOf_10 rfl (lv_at hl 0 rfl) ?_
    refine lv_iconst (v := 1) hx hb d_MO_blockOf_11 (by decide) ?_
    refine lv_iconst (v := 5) hx hb d_MO_blockOf_12 (by decide) ?_
    refine lv_iload_n hx hb d_MO_blockOf_13 rfl (lv_at hl 2 rfl) ?_
    refine lv_imul hx hb d_MO_blockOf_14 ?_
    obtain ⟨r15, M15, hq15, h⟩ := cz_ubi h
    refine iv_MO_80 (rest := []) S hl.1 hP hS (c_MO_hash l hD M (1 : Int32) ((5 : Int32) * v2) hq15) ⟨Nat.le_of_ble_eq_true rfl, Nat.le_of_ble_eq_true rfl⟩ (Nat.le_of_ble_eq_true rfl) rfl d_MO_blockOf_15 (fun H locs hP hS => ?_)
    refine lv_iload_n hx hb d_MO_blockOf_18 rfl (lv_at hl 1 rfl) ?_
    refine lv_icmp_ne (tgt := 24) hx hb d_MO_blockOf_19 rfl (fun hc => ?_) (fun hc => ?_)
    · have h := cz_f hc h
      refine lv_iinc (lv' := [(2, .int (v2 + 1)), (0, .ref (X.2.1 0)), (1, .int a1)]) (v := v2 + 1) (k := 2) hx hb d_MO_blockOf_24 hl rfl (cz_inc1 _) (by decide) rfl (fun ls hl => ?_)
      refine lv_goto (tgt := 2) hx hb d_MO_blockOf_27 rfl ?_
      exact ih2 M15 (v2 + 1) h _ _ _ hP hS (lv_sub hl [1, 2, 0] rfl)
    have h := cz_t hc h
    refine lv_iload_n hx hb d_MO_blockOf_22 rfl (lv_at hl 2 rfl) ?_
    exact cz_ireth S hr hlocks hP hS h d_MO_blockOf_23
  refine lv_iconst (v := 0) hx hb d_MO_blockOf_0 (by decide) ?_
  refine lv_istore_n (lv' := [(2, .int (0 : Int32)), (0, .ref (X.2.1 0)), (1, .int a1)]) hx hb d_MO_blockOf_1 rfl hl (by decide) rfl (fun ls hl => ?_)
  exact hb2 _ M (0 : Int32) h _ _ _ hP hS (lv_sub hl [1, 2, 0] rfl)
set_option maxHeartbeats 4000000 in
set_option maxRecDepth 100000 in
theorem c_MO_parent (l : Launch) {X : cz_X} {A : Nat → Prop} (hD : ∀ M, va_D A (mo_wl X M)) (M : cz_M) (a1 : Int32) {r2 : Int32} {M2 : cz_M} (h : f_MO_parent M a1 = some (r2, M2)) : mo_Ct l X A y_MO_parent (Cond.code y_MO_parent b_MO_parent 2 (some .int) :: cz_T) rm_MO_parent [.ref (X.2.1 0), .int a1] M (some (.int r2)) M2 := by
  refine cz_Met (by decide) rfl (Nat.le_of_ble_eq_true rfl) hD ?_
  intro p e s m args below meth c hargs S hr hlocks hP ls hl
  have S : cz_Cx p m c b_MO_parent 2 s args cz_T "ChainPeersModel" X.1 mo_cl (mo_tys X) cz_N A (mo_wl X) := S
  have hx := S.1.1
  have hb := S.1.2.1
  have hS : va_S A s.heap s.heap [] := va_S.rf
  have hl : lv_has ls 2 [(0, .ref (X.2.1 0)), (1, .int a1)] := hl
  refine lv_iload_n hx hb d_MO_parent_0 rfl (lv_at hl 1 rfl) ?_
  refine lv_if_ne (tgt := 8) hx hb d_MO_parent_1 rfl (fun hc => ?_) (fun hc => ?_)
  · have h := cz_f hc h
    refine lv_aload_n hx hb d_MO_parent_8 rfl (lv_at hl 0 rfl) ?_
    refine lv_aload_n hx hb d_MO_parent_9 rfl (lv_at hl 0 rfl) ?_
    refine gf_MO_7 S hP d_MO_parent_10 ?_
    refine lv_iconst (v := 5) hx hb d_MO_parent_13 (by decide) ?_
    refine lv_iload_n hx hb d_MO_parent_14 rfl (lv_at hl 1 rfl) ?_
    refine lv_imul hx hb d_MO_parent_15 ?_
    obtain ⟨hin16, h⟩ := cz_ck h
    refine mo_ia S hP mo_k1 hin16 d_MO_parent_16 ?_
    obtain ⟨r17, M17, hq17, h⟩ := cz_ubi h
    refine iv_MO_84 (rest := []) S hl.1 hP hS (c_MO_blockOf l hD M (M.1 1 ((5 : Int32) * a1).toNatClampNeg) hq17) ⟨Nat.le_of_ble_eq_true rfl, Nat.le_of_ble_eq_true rfl⟩ (Nat.le_of_ble_eq_true rfl) rfl d_MO_parent_17 (fun H locs hP hS => ?_)
    exact cz_ireth S hr hlocks hP hS h d_MO_parent_20
  have h := cz_t hc h
  refine lv_iconst (v := -1) hx hb d_MO_parent_4 (by decide) ?_
  refine lv_goto (tgt := 20) hx hb d_MO_parent_5 rfl ?_
  exact cz_ireth S hr hlocks hP hS h d_MO_parent_20
set_option maxHeartbeats 4000000 in
set_option maxRecDepth 100000 in
theorem c_MO_total (l : Launch) {X : cz_X} {A : Nat → Prop} (hD : ∀ M, va_D A (mo_wl X M)) (M : cz_M) (a1 : Int32) {r2 : Int32} {M2 : cz_M} (h : f_MO_total M a1 = some (r2, M2)) : mo_Ct l X A y_MO_total (Cond.code y_MO_total b_MO_total 5 (some .int) :: cz_T) rm_MO_total [.ref (X.2.1 0), .int a1] M (some (.int r2)) M2 := by
  refine cz_Met (by decide) rfl (Nat.le_of_ble_eq_true rfl) hD ?_
  intro p e s m args below meth c hargs S hr hlocks hP ls hl
  have S : cz_Cx p m c b_MO_total 5 s args cz_T "ChainPeersModel" X.1 mo_cl (mo_tys X) cz_N A (mo_wl X) := S
  have hx := S.1.1
  have hb := S.1.2.1
  have hS : va_S A s.heap s.heap [] := va_S.rf
  have hl : lv_has ls 5 [(0, .ref (X.2.1 0)), (1, .int a1)] := hl
  have hb7 : ∀ (n : Nat) (M : cz_M) (v2 : Int32) (v3 : Int32) (v4 : Int32), cz_lp4 (l_MO_total_7 a1) n M v2 v3 v4 = some (r2, M2) → ∀ (H : Heap) (locs : List Loc) (ls : Array Slot), va_P X.1 mo_cl (mo_wl X M) H → va_S A s.heap H locs → lv_has ls 5 [(0, .ref (X.2.1 0)), (2, .int v2), (3, .int v3), (4, .int v4)] → W p l e rm_MO_total s m args below meth c H locs 0 0 (MQ below (cz_Qw X.1 mo_cl (some (.int r2)) (mo_wl X M2) A) args s 0 0 A) (F0 m 7 ls []) := by
    refine cz_ind4 (fun rec7 ih7 M v2 v3 v4 h H locs ls hP hS hl => ?_)
    refine lv_iload hx hb d_MO_total_7 (lv_at hl 3 rfl) ?_
    refine lv_bipush (v := 20) hx hb d_MO_total_9 (by decide) ?_
    refine lv_icmp_ge (tgt := 43) hx hb d_MO_total_11 rfl (fun hc => ?_) (fun hc => ?_)
    · have h := cz_t hc h
      refine lv_iload_n hx hb d_MO_total_43 rfl (lv_at hl 1 rfl) ?_
      exact cz_ireth S hr hlocks hP hS h d_MO_total_44
    have h := cz_f hc h
    refine lv_iload_n hx hb d_MO_total_14 rfl (lv_at hl 2 rfl) ?_
    refine lv_if_lt (tgt := 43) hx hb d_MO_total_15 rfl (fun hc => ?_) (fun hc => ?_)
    · have h := cz_t hc h
      refine lv_iload_n hx hb d_MO_total_43 rfl (lv_at hl 1 rfl) ?_
      exact cz_ireth S hr hlocks hP hS h d_MO_total_44
    have h := cz_f hc h
    refine lv_iload_n hx hb d_MO_total_18 rfl (lv_at hl 1 rfl) ?_
    refine lv_aload_n hx hb d_MO_total_19 rfl (lv_at hl 0 rfl) ?_
    refine gf_MO_7 S hP d_MO_total_20 ?_
    refine lv_iconst (v := 5) hx hb d_MO_total_23 (by decide) ?_
    refine lv_iload_n hx hb d_MO_total_24 rfl (lv_at hl 2 rfl) ?_
    refine lv_imul hx hb d_MO_total_25 ?_
    refine lv_iconst (v := 3) hx hb d_MO_total_26 (by decide) ?_
    refine lv_iadd hx hb d_MO_total_27 ?_
    obtain ⟨hin28, h⟩ := cz_ck h
    refine mo_ia S hP mo_k1 hin28 d_MO_total_28 ?_
    refine lv_iadd hx hb d_MO_total_29 ?_
    refine lv_istore_n (lv' := [(2, .int (v2 + (M.1 1 (((5 : Int32) * v3) + (3 : Int32)).toNatClampNeg))), (0, .ref (X.2.1 0)), (3, .int v3), (4, .int v4)]) hx hb d_MO_total_30 rfl hl (by decide) rfl (fun ls hl => ?_)
    refine lv_aload_n hx hb d_MO_total_31 rfl (lv_at hl 1 rfl) ?_
    refine lv_iload_n hx hb d_MO_total_32 rfl (lv_at hl 2 rfl) ?_
    obtain ⟨r33, M33, hq33, h⟩ := cz_ubi h
    refine iv_MO_88 (rest := []) S hl.1 hP hS (c_MO_parent l hD M v3 hq33) ⟨Nat.le_of_ble_eq_true rfl, Nat.le_of_ble_eq_true rfl⟩ (Nat.le_of_ble_eq_true rfl) rfl d_MO_total_33 (fun H locs hP hS => ?_)
    refine lv_istore_n (lv' := [(3, .int r33), (2, .int (v2 + (M.1 1 (((5 : Int32) * v3) + (3 : Int32)).toNatClampNeg))), (0, .ref (X.2.1 0)), (4, .int v4)]) hx hb d_MO_total_36 rfl hl (by decide) rfl (fun ls hl => ?_)
    refine lv_iinc (lv' := [(4, .int (v4 + 1)), (3, .int r33), (2, .int (v2 + (M.1 1 (((5 : Int32) * v3) + (3 : Int32)).toNatClampNeg))), (0, .ref (X.2.1 0))]) (v := v4 + 1) (k := 3) hx hb d_MO_total_37 hl rfl (cz_inc1 _) (by decide) rfl (fun ls hl => ?_)
    refine lv_goto (tgt := 7) hx hb d_MO_total_40 rfl ?_
    exact ih7 M33 (v2 + (M.1 1 (((5 : Int32) * v3) + (3 : Int32)).toNatClampNeg)) r33 (v4 + 1) h _ _ _ hP hS (lv_sub hl [3, 2, 1, 0] rfl)
  refine lv_iconst (v := 0) hx hb d_MO_total_0 (by decide) ?_
  refine lv_istore_n (lv' := [(2, .int (0 : Int32)), (0, .ref (X.2.1 0)), (1, .int a1)]) hx hb d_MO_total_1 rfl hl (by decide) rfl (fun ls hl => ?_)
  refine lv_iload_n hx hb d_MO_total_2 rfl (lv_at hl 2 rfl) ?_
  refine lv_istore_n (lv' := [(3, .int a1), (2, .int (0 : Int32)), (0, .ref (X.2.1 0)), (1, .int a1)]) hx hb d_MO_total_3 rfl hl (by decide) rfl (fun ls hl => ?_)
  refine lv_iconst (v := 0) hx hb d_MO_total_4 (by decide) ?_
  refine lv_istore (lv' := [(4, .int (0 : Int32)), (3, .int a1), (2, .int (0 : Int32)), (0, .ref (X.2.1 0)), (1, .int a1)]) hx hb d_MO_total_5 hl (by decide) rfl (fun ls hl => ?_)
  exact hb7 _ M (0 : Int32) a1 (0 : Int32) h _ _ _ hP hS (lv_sub hl [3, 2, 1, 0] rfl)
set_option maxHeartbeats 4000000 in
set_option maxRecDepth 100000 in
theorem c_MO_imported (l : Launch) {X : cz_X} {A : Nat → Prop} (hD : ∀ M, va_D A (mo_wl X M)) (M : cz_M) (a1 : Int32) {r2 : Int32} {M2 : cz_M} (h : f_MO_imported M a1 = some (r2, M2)) : mo_Ct l X A y_MO_imported (Cond.code y_MO_imported b_MO_imported 5 (some .boolean) :: cz_T) rm_MO_imported [.ref (X.2.1 0), .int a1] M (some (.int r2)) M2 := by
  refine cz_Met (by decide) rfl (Nat.le_of_ble_eq_true rfl) hD ?_
  intro p e s m args below meth c hargs S hr hlocks hP ls hl
  have S : cz_Cx p m c b_MO_imported 5 s args cz_T "ChainPeersModel" X.1 mo_cl (mo_tys X) cz_N A (mo_wl X) := S
  have hx := S.1.1
  have hb := S.1.2.1
  have hS : va_S A s.heap s.heap [] := va_S.rf
  have hl : lv_has ls 5 [(0, .ref (X.2.1 0)), (1, .int a1)] := hl
  have hb7 : ∀ (n : Nat) (M : cz_M) (v2 : Int32) (v3 : Int32) (v4 : Int32), cz_lp4 (l_MO_imported_7 a1) n M v2 v3 v4 = some (r2, M2) → ∀ (H : Heap) (locs : List Loc) (ls : Array Slot), va_P X.1 mo_cl (mo_wl X M) H → va_S A s.heap H locs → lv_has ls 5 [(0, .ref (X.2.1 0)), (2, .int v2), (3, .int v3), (4, .int v4)] → W p l e rm_MO_imported s m args below meth c H locs 0 0 (MQ below (cz_Qw X.1 mo_cl (some (.int r2)) (mo_wl X M2) A) args s 0 0 A) (F0 m 7 ls []) := by
    refine cz_ind4 (fun rec7 ih7 M v2 v3 v4 h H locs ls hP hS hl => ?_)
    have hb36 : ∀ (M : cz_M) (v3 : Int32) (v4 : Int32) (s0 : Int32), b_MO_imported_36 a1 rec7 M v3 v4 s0 = some (r2, M2) → ∀ (H : Heap) (locs : List Loc) (ls : Array Slot), va_P X.1 mo_cl (mo_wl X M) H → va_S A s.heap H locs → lv_has ls 5 [(0, .ref (X.2.1 0)), (3, .int v3), (4, .int v4)] → W p l e rm_MO_imported s m args below meth c H locs 0 0 (MQ below (cz_Qw X.1 mo_cl (some (.int r2)) (mo_wl X M2) A) args s 0 0 A) (F0 m 36 ls [.int s0]) := by
      intro M v3 v4 s0 h H locs ls hP hS hl
      refine lv_istore_n (lv' := [(2, .int s0), (0, .ref (X.2.1 0)), (3, .int v3), (4, .int v4)]) hx hb d_MO_imported_36 rfl hl (by decide) rfl (fun ls hl => ?_)
      refine lv_aload_n hx hb d_MO_imported_37 rfl (lv_at hl 1 rfl) ?_
      refine lv_iload_n hx hb d_MO_imported_38 rfl (lv_at hl 2 rfl) ?_
      obtain ⟨r39, M39, hq39, h⟩ := cz_ubi h
      refine iv_MO_88 (rest := []) S hl.1 hP hS (c_MO_parent l hD M v3 hq39) ⟨Nat.le_of_ble_eq_true rfl, Nat.le_of_ble_eq_true rfl⟩ (Nat.le_of_ble_eq_true rfl) rfl d_MO_imported_39 (fun H locs hP hS => ?_)
      refine lv_istore_n (lv' := [(3, .int r39), (2, .int s0), (0, .ref (X.2.1 0)), (4, .int v4)]) hx hb d_MO_imported_42 rfl hl (by decide) rfl (fun ls hl => ?_)
      refine lv_iinc (lv' := [(4, .int (v4 + 1)), (3, .int r39), (2, .int s0), (0, .ref (X.2.1 0))]) (v := v4 + 1) (k := 3) hx hb d_MO_imported_43 hl rfl (cz_inc1 _) (by decide) rfl (fun ls hl => ?_)
      refine lv_goto (tgt := 7) hx hb d_MO_imported_46 rfl ?_
      exact ih7 M39 s0 r39 (v4 + 1) h _ _ _ hP hS (lv_sub hl [3, 2, 1, 0] rfl)
    have hb35 : ∀ (M : cz_M) (v3 : Int32) (v4 : Int32), b_MO_imported_35 a1 rec7 M v3 v4 = some (r2, M2) → ∀ (H : Heap) (locs : List Loc) (ls : Array Slot), va_P X.1 mo_cl (mo_wl X M) H → va_S A s.heap H locs → lv_has ls 5 [(0, .ref (X.2.1 0)), (3, .int v3), (4, .int v4)] → W p l e rm_MO_imported s m args below meth c H locs 0 0 (MQ below (cz_Qw X.1 mo_cl (some (.int r2)) (mo_wl X M2) A) args s 0 0 A) (F0 m 35 ls []) := by
      intro M v3 v4 h H locs ls hP hS hl
      refine lv_iconst (v := 0) hx hb d_MO_imported_35 (by decide) ?_
      exact hb36 M v3 v4 (0 : Int32) h _ _ _ hP hS (lv_sub hl [0, 1, 2] rfl)
    refine lv_iload hx hb d_MO_imported_7 (lv_at hl 3 rfl) ?_
    refine lv_bipush (v := 20) hx hb d_MO_imported_9 (by decide) ?_
    refine lv_icmp_ge (tgt := 49) hx hb d_MO_imported_11 rfl (fun hc => ?_) (fun hc => ?_)
    · have h := cz_t hc h
      refine lv_iload_n hx hb d_MO_imported_49 rfl (lv_at hl 1 rfl) ?_
      obtain ⟨hz, h⟩ := cz_ckp h
      exact cz_zreth S hr hlocks hP hS h (cz_nb hz) d_MO_imported_50
    have h := cz_f hc h
    refine lv_iload_n hx hb d_MO_imported_14 rfl (lv_at hl 2 rfl) ?_
    refine lv_if_lt (tgt := 49) hx hb d_MO_imported_15 rfl (fun hc => ?_) (fun hc => ?_)
    · have h := cz_t hc h
      refine lv_iload_n hx hb d_MO_imported_49 rfl (lv_at hl 1 rfl) ?_
      obtain ⟨hz, h⟩ := cz_ckp h
      exact cz_zreth S hr hlocks hP hS h (cz_nb hz) d_MO_imported_50
    have h := cz_f hc h
    refine lv_iload_n hx hb d_MO_imported_18 rfl (lv_at hl 1 rfl) ?_
    refine lv_if_eq (tgt := 35) hx hb d_MO_imported_19 rfl (fun hc => ?_) (fun hc => ?_)
    · have h := cz_t hc h
      exact hb35 M v3 v4 h _ _ _ hP hS (lv_sub hl [0, 2, 3] rfl)
    have h := cz_f hc h
    refine lv_aload_n hx hb d_MO_imported_22 rfl (lv_at hl 0 rfl) ?_
    refine gf_MO_16 S hP d_MO_imported_23 ?_
    refine lv_iload_n hx hb d_MO_imported_26 rfl (lv_at hl 2 rfl) ?_
    obtain ⟨hin27, h⟩ := cz_ck h
    refine mo_ia S hP mo_k3 hin27 d_MO_imported_27 ?_
    refine lv_if_lt (tgt := 35) hx hb d_MO_imported_28 rfl (fun hc => ?_) (fun hc => ?_)
    · have h := cz_t hc h
      exact hb35 M v3 v4 h _ _ _ hP hS (lv_sub hl [0, 2, 3] rfl)
    have h := cz_f hc h
    refine lv_iconst (v := 1) hx hb d_MO_imported_31 (by decide) ?_
    refine lv_goto (tgt := 36) hx hb d_MO_imported_32 rfl ?_
    exact hb36 M v3 v4 (1 : Int32) h _ _ _ hP hS (lv_sub hl [0, 2, 3] rfl)
  refine lv_iconst (v := 1) hx hb d_MO_imported_0 (by decide) ?_
  refine lv_istore_n (lv' := [(2, .int (1 : Int32)), (0, .ref (X.2.1 0)), (1, .int a1)]) hx hb d_MO_imported_1 rfl hl (by decide) rfl (fun ls hl => ?_)
  refine lv_iload_n hx hb d_MO_imported_2 rfl (lv_at hl 2 rfl) ?_
  refine lv_istore_n (lv' := [(3, .int a1), (2, .int (1 : Int32)), (0, .ref (X.2.1 0)), (1, .int a1)]) hx hb d_MO_imported_3 rfl hl (by decide) rfl (fun ls hl => ?_)
  refine lv_iconst (v := 0) hx hb d_MO_imported_4 (by decide) ?_
  refine lv_istore (lv' := [(4, .int (0 : Int32)), (3, .int a1), (2, .int (1 : Int32)), (0, .ref (X.2.1 0)), (1, .int a1)]) hx hb d_MO_imported_5 hl (by decide) rfl (fun ls hl => ?_)
  exact hb7 _ M (1 : Int32) a1 (0 : Int32) h _ _ _ hP hS (lv_sub hl [3, 2, 1, 0] rfl)
set_option maxHeartbeats 4000000 in
set_option maxRecDepth 100000 in
theorem c_MO_greatest (l : Launch) {X : cz_X} {A : Nat → Prop} (hD : ∀ M, va_D A (mo_wl X M)) (M : cz_M) (a1 : Int32) {r2 : Int32} {M2 : cz_M} (h : f_MO_greatest M a1 = some (r2, M2)) : mo_Ct l X A y_MO_greatest (Cond.code y_MO_greatest b_MO_greatest 4 (some .int) :: cz_T) rm_MO_greatest [.ref (X.2.1 0), .int a1] M (some (.int r2)) M2 := by
  refine cz_Met (by decide) rfl (Nat.le_of_ble_eq_true rfl) hD ?_
  intro p e s m args below meth c hargs S hr hlocks hP ls hl
  have S : cz_Cx p m c b_MO_greatest 4 s args cz_T "ChainPeersModel" X.1 mo_cl (mo_tys X) cz_N A (mo_wl X) := S
  have hx := S.1.1
  have hb := S.1.2.1
  have hS : va_S A s.heap s.heap [] := va_S.rf
  have hl : lv_has ls 4 [(0, .ref (X.2.1 0)), (1, .int a1)] := hl
  have hb4 : ∀ (n : Nat) (M : cz_M) (v2 : Int32) (v3 : Int32), cz_lp3 (l_MO_greatest_4 a1) n M v2 v3 = some (r2, M2) → ∀ (H : Heap) (locs : List Loc) (ls : Array Slot), va_P X.1 mo_cl (mo_wl X M) H → va_S A s.heap H locs → lv_has ls 4 [(0, .ref (X.2.1 0)), (1, .int a1), (2, .int v2), (3, .int v3)] → W p l e rm_MO_greatest s m args below meth c H locs 0 0 (MQ below (cz_Qw X.1 mo_cl (some (.int r2)) (mo_wl X M2) A) args s 0 0 A) (F0 m 4 ls []) := by
    refine cz_ind3 (fun rec4 ih4 M v2 v3 h H locs ls hP hS hl => ?_)
    have hb39 : ∀ (M : cz_M) (v2 : Int32) (v3 : Int32), b_MO_greatest_39 a1 rec4 M v2 v3 = some (r2, M2) → ∀ (H : Heap) (locs : List Loc) (ls : Array Slot), va_P X.1 mo_cl (mo_wl X M) H → va_S A s.heap H locs → lv_has ls 4 [(0, .ref (X.2.1 0)), (1, .int a1), (2, .int v2), (3, .int v3)] → W p l e rm_MO_greatest s m args below meth c H locs 0 0 (MQ below (cz_Qw X.1 mo_cl (some (.int r2)) (mo_wl X M2) A) args s 0 0 A) (F0 m 39 ls []) := by
      intro M v2 v3 h H locs ls hP hS hl
      refine lv_iinc (lv' := [(3, .int (v3 + 1)), (0, .ref (X.2.1 0)), (1, .int a1), (2, .int v2)]) (v := v3 + 1) (k := 3) hx hb d_MO_greatest_39 hl rfl (cz_inc1 _) (by decide) rfl (fun ls hl => ?_)
      refine lv_goto (tgt := 4) hx hb d_MO_greatest_42 rfl ?_
      exact ih4 M v2 (v3 + 1) h _ _ _ hP hS (lv_sub hl [1, 2, 3, 0] rfl)
    have hb24 : ∀ (M : cz_M) (v2 : Int32) (v3 : Int32), b_MO_greatest_24 a1 rec4 M v2 v3 = some (r2, M2) → ∀ (H : Heap) (locs : List Loc) (ls : Array Slot), va_P X.1 mo_cl (mo_wl X M) H → va_S A s.heap H locs → lv_has ls 4 [(0, .ref (X.2.1 0)), (1, .int a1), (2, .int v2), (3, .int v3)] → W p l e rm_MO_greatest s m args below meth c H locs 0 0 (MQ below (cz_Qw X.1 mo_cl (some (.int r2)) (mo_wl X M2) A) args s 0 0 A) (F0 m 24 ls []) := by
      intro M v2 v3 h H locs ls hP hS hl
      refine lv_aload_n hx hb d_MO_greatest_24 rfl (lv_at hl 0 rfl) ?_
      refine lv_iload_n hx hb d_MO_greatest_25 rfl (lv_at hl 3 rfl) ?_
      obtain ⟨r26, M26, hq26, h⟩ := cz_ubi h
      refine iv_MO_95 (rest := []) S hl.1 hP hS (c_MO_total l hD M v3 hq26) ⟨Nat.le_of_ble_eq_true rfl, Nat.le_of_ble_eq_true rfl⟩ (Nat.le_of_ble_eq_true rfl) rfl d_MO_greatest_26 (fun H locs hP hS => ?_)
      refine lv_aload_n hx hb d_MO_greatest_29 rfl (lv_at hl 0 rfl) ?_
      refine lv_iload_n hx hb d_MO_greatest_30 rfl (lv_at hl 2 rfl) ?_
      obtain ⟨r31, M31, hq31, h⟩ := cz_ubi h
      refine iv_MO_95 (rest := [.int r26]) S hl.1 hP hS (c_MO_total l hD M26 v2 hq31) ⟨Nat.le_of_ble_eq_true rfl, Nat.le_of_ble_eq_true rfl⟩ (Nat.le_of_ble_eq_true rfl) rfl d_MO_greatest_31 (fun H locs hP hS => ?_)
      refine lv_icmp_le (tgt := 39) hx hb d_MO_greatest_34 rfl (fun hc => ?_) (fun hc => ?_)
      · have h := cz_t hc h
        exact hb39 M31 v2 v3 h _ _ _ hP hS (lv_sub hl [0, 1, 2, 3] rfl)
      have h := cz_f hc h
      refine lv_iload_n hx hb d_MO_greatest_37 rfl (lv_at hl 3 rfl) ?_
      refine lv_istore_n (lv' := [(2, .int v3), (0, .ref (X.2.1 0)), (1, .int a1), (3, .int v3)]) hx hb d_MO_greatest_38 rfl hl (by decide) rfl (fun ls hl => ?_)
      exact hb39 M31 v3 v3 h _ _ _ hP hS (lv_sub hl [1, 2, 0, 3] rfl)
    refine lv_iload_n hx hb d_MO_greatest_4 rfl (lv_at hl 3 rfl) ?_
    refine lv_aload_n hx hb d_MO_greatest_5 rfl (lv_at hl 0 rfl) ?_
    refine gf_MO_71 S hP d_MO_greatest_6 ?_
    refine lv_icmp_ge (tgt := 45) hx hb d_MO_greatest_9 rfl (fun hc => ?_) (fun hc => ?_)
    · have h := cz_t hc h
      refine lv_iload_n hx hb d_MO_greatest_45 rfl (lv_at hl 2 rfl) ?_
      exact cz_ireth S hr hlocks hP hS h d_MO_greatest_46
    have h := cz_f hc h
    refine lv_iload_n hx hb d_MO_greatest_12 rfl (lv_at hl 1 rfl) ?_
    refine lv_if_eq (tgt := 24) hx hb d_MO_greatest_13 rfl (fun hc => ?_) (fun hc => ?_)
    · have h := cz_t hc h
      exact hb24 M v2 v3 h _ _ _ hP hS (lv_sub hl [0, 1, 2, 3] rfl)
    have h := cz_f hc h
    refine lv_aload_n hx hb d_MO_greatest_16 rfl (lv_at hl 0 rfl) ?_
    refine lv_iload_n hx hb d_MO_greatest_17 rfl (lv_at hl 3 rfl) ?_
    obtain ⟨r18, M18, hq18, h⟩ := cz_ubi h
    refine iv_MO_91 (rest := []) S hl.1 hP hS (c_MO_imported l hD M v3 hq18) ⟨Nat.le_of_ble_eq_true rfl, Nat.le_of_ble_eq_true rfl⟩ (Nat.le_of_ble_eq_true rfl) rfl d_MO_greatest_18 (fun H locs hP hS => ?_)
    refine lv_if_eq (tgt := 39) hx hb d_MO_greatest_21 rfl (fun hc => ?_) (fun hc => ?_)
    · have h := cz_t hc h
      exact hb39 M18 v2 v3 h _ _ _ hP hS (lv_sub hl [0, 1, 2, 3] rfl)
    have h := cz_f hc h
    exact hb24 M18 v2 v3 h _ _ _ hP hS (lv_sub hl [0, 1, 2, 3] rfl)
  refine lv_iconst (v := 0) hx hb d_MO_greatest_0 (by decide) ?_
  refine lv_istore_n (lv' := [(2, .int (0 : Int32)), (0, .ref (X.2.1 0)), (1, .int a1)]) hx hb d_MO_greatest_1 rfl hl (by decide) rfl (fun ls hl => ?_)
  refine lv_iconst (v := 1) hx hb d_MO_greatest_2 (by decide) ?_
  refine lv_istore_n (lv' := [(3, .int (1 : Int32)), (2, .int (0 : Int32)), (0, .ref (X.2.1 0)), (1, .int a1)]) hx hb d_MO_greatest_3 rfl hl (by decide) rfl (fun ls hl => ?_)
  exact hb4 _ M (0 : Int32) (1 : Int32) h _ _ _ hP hS (lv_sub hl [2, 3, 1, 0] rfl)
set_option maxHeartbeats 4000000 in
set_option maxRecDepth 100000 in
theorem c_MO_ofHead (l : Launch) {X : cz_X} {A : Nat → Prop} (hD : ∀ M, va_D A (mo_wl X M)) (M : cz_M) (a1 : Int32) {r2 : Int32} {M2 : cz_M} (h : f_MO_ofHead M a1 = some (r2, M2)) : mo_Ct l X A y_MO_ofHead (Cond.code y_MO_ofHead b_MO_ofHead 4 (some .int) :: cz_T) rm_MO_ofHead [.ref (X.2.1 0), .int a1] M (some (.int r2)) M2 := by
  refine cz_Met (by decide) rfl (Nat.le_of_ble_eq_true rfl) hD ?_
  intro p e s m args below meth c hargs S hr hlocks hP ls hl
  have S : cz_Cx p m c b_MO_ofHead 4 s args cz_T "ChainPeersModel" X.1 mo_cl (mo_tys X) cz_N A (mo_wl X) := S
  have hx := S.1.1
  have hb := S.1.2.1
  have hS : va_S A s.heap s.heap [] := va_S.rf
  have hl : lv_has ls 4 [(0, .ref (X.2.1 0)), (1, .int a1)] := hl
  have hb8 : ∀ (n : Nat) (M : cz_M) (v2 : Int32) (v3 : Int32), cz_lp3 (l_MO_ofHead_8 a1) n M v2 v3 = some (r2, M2) → ∀ (H : Heap) (locs : List Loc) (ls : Array Slot), va_P X.1 mo_cl (mo_wl X M) H → va_S A s.heap H locs → lv_has ls 4 [(0, .ref (X.2.1 0)), (1, .int a1), (2, .int v2), (3, .int v3)] → W p l e rm_MO_ofHead s m args below meth c H locs 0 0 (MQ below (cz_Qw X.1 mo_cl (some (.int r2)) (mo_wl X M2) A) args s 0 0 A) (F0 m 8 ls []) := by
    refine cz_ind3 (fun rec8 ih8 M v2 v3 h H locs ls hP hS hl => ?_)
    refine lv_iload_n hx hb d_MO_ofHead_8 rfl (lv_at hl 3 rfl) ?_
    refine lv_bipush (v := 20) hx hb d_MO_ofHead_9 (by decide) ?_
    refine lv_icmp_ge (tgt := 46) hx hb d_MO_ofHead_11 rfl (fun hc => ?_) (fun hc => ?_)
    · have h := cz_t hc h
      refine lv_iconst (v := -1) hx hb d_MO_ofHead_46 (by decide) ?_
      exact cz_ireth S hr hlocks hP hS h d_MO_ofHead_47
    have h := cz_f hc h
    refine lv_iload_n hx hb d_MO_ofHead_14 rfl (lv_at hl 2 rfl) ?_
    refine lv_if_lt (tgt := 46) hx hb d_MO_ofHead_15 rfl (fun hc => ?_) (fun hc => ?_)
    · have h := cz_t hc h
      refine lv_iconst (v := -1) hx hb d_MO_ofHead_46 (by decide) ?_
      exact cz_ireth S hr hlocks hP hS h d_MO_ofHead_47
    have h := cz_f hc h
    refine lv_aload_n hx hb d_MO_ofHead_18 rfl (lv_at hl 0 rfl) ?_
    refine gf_MO_7 S hP d_MO_ofHead_19 ?_
    refine lv_iconst (v := 5) hx hb d_MO_ofHead_22 (by decide) ?_
    refine lv_iload_n hx hb d_MO_ofHead_23 rfl (lv_at hl 2 rfl) ?_
    refine lv_imul hx hb d_MO_ofHead_24 ?_
    refine lv_iconst (v := 1) hx hb d_MO_ofHead_25 (by decide) ?_
    refine lv_iadd hx hb d_MO_ofHead_26 ?_
    obtain ⟨hin27, h⟩ := cz_ck h
    refine mo_ia S hP mo_k1 hin27 d_MO_ofHead_27 ?_
    refine lv_iload_n hx hb d_MO_ofHead_28 rfl (lv_at hl 1 rfl) ?_
    refine lv_icmp_ne (tgt := 34) hx hb d_MO_ofHead_29 rfl (fun hc => ?_) (fun hc => ?_)
    · have h := cz_f hc h
      refine lv_aload_n hx hb d_MO_ofHead_34 rfl (lv_at hl 0 rfl) ?_
      refine lv_iload_n hx hb d_MO_ofHead_35 rfl (lv_at hl 2 rfl) ?_
      obtain ⟨r36, M36, hq36, h⟩ := cz_ubi h
      refine iv_MO_88 (rest := []) S hl.1 hP hS (c_MO_parent l hD M v2 hq36) ⟨Nat.le_of_ble_eq_true rfl, Nat.le_of_ble_eq_true rfl⟩ (Nat.le_of_ble_eq_true rfl) rfl d_MO_ofHead_36 (fun H locs hP hS => ?_)
      refine lv_istore_n (lv' := [(2, .int r36), (0, .ref (X.2.1 0)), (1, .int a1), (3, .int v3)]) hx hb d_MO_ofHead_39 rfl hl (by decide) rfl (fun ls hl => ?_)
      refine lv_iinc (lv' := [(3, .int (v3 + 1)), (2, .int r36), (0, .ref (X.2.1 0)), (1, .int a1)]) (v := v3 + 1) (k := 3) hx hb d_MO_ofHead_40 hl rfl (cz_inc1 _) (by decide) rfl (fun ls hl => ?_)
      refine lv_goto (tgt := 8) hx hb d_MO_ofHead_43 rfl ?_
      exact ih8 M36 r36 (v3 + 1) h _ _ _ hP hS (lv_sub hl [2, 3, 1, 0] rfl)
    have h := cz_t hc h
    refine lv_iload_n hx hb d_MO_ofHead_32 rfl (lv_at hl 2 rfl) ?_
    exact cz_ireth S hr hlocks hP hS h d_MO_ofHead_33
  refine lv_aload_n hx hb d_MO_ofHead_0 rfl (lv_at hl 0 rfl) ?_
  refine lv_iconst (v := 1) hx hb d_MO_ofHead_1 (by decide) ?_
  obtain ⟨r2, M2, hq2, h⟩ := cz_ubi h
  refine iv_MO_98 (rest := []) S hl.1 hP hS (c_MO_greatest l hD M (1 : Int32) hq2) ⟨Nat.le_of_ble_eq_true rfl, Nat.le_of_ble_eq_true rfl⟩ (Nat.le_of_ble_eq_true rfl) rfl d_MO_ofHead_2 (fun H locs hP hS => ?_)
  refine lv_istore_n (lv' := [(2, .int r2), (0, .ref (X.2.1 0)), (1, .int a1)]) hx hb d_MO_ofHead_5 rfl hl (by decide) rfl (fun ls hl => ?_)
  refine lv_iconst (v := 0) hx hb d_MO_ofHead_6 (by decide) ?_
  refine lv_istore_n (lv' := [(3, .int (0 : Int32)), (2, .int r2), (0, .ref (X.2.1 0)), (1, .int a1)]) hx hb d_MO_ofHead_7 rfl hl (by decide) rfl (fun ls hl => ?_)
  exact hb8 _ M2 r2 (0 : Int32) h _ _ _ hP hS (lv_sub hl [2, 3, 1, 0] rfl)
set_option maxHeartbeats 4000000 in
set_option maxRecDepth 100000 in
theorem c_MO_good (l : Launch) {X : cz_X} {A : Nat → Prop} (hD : ∀ M, va_D A (mo_wl X M)) (M : cz_M) (a1 : Int32) {r2 : Int32} {M2 : cz_M} (h : f_MO_good M a1 = some (r2, M2)) : mo_Ct l X A y_MO_good (Cond.code y_MO_good b_MO_good 6 (some .boolean) :: cz_T) rm_MO_good [.ref (X.2.1 0), .int a1] M (some (.int r2)) M2 := by
  refine cz_Met (by decide) rfl (Nat.le_of_ble_eq_true rfl) hD ?_
  intro p e s m args below meth c hargs S hr hlocks hP ls hl
  have S : cz_Cx p m c b_MO_good 6 s args cz_T "ChainPeersModel" X.1 mo_cl (mo_tys X) cz_N A (mo_wl X) := S
  have hx := S.1.1
  have hb := S.1.2.1
  have hS : va_S A s.heap s.heap [] := va_S.rf
  have hl : lv_has ls 6 [(0, .ref (X.2.1 0)), (1, .int a1)] := hl
  have hb105 : ∀ (M : cz_M) (v2 : Int32) (s0 : Int32), b_MO_good_105 a1 M v2 s0 = some (r2, M2) → ∀ (H : Heap) (locs : List Loc) (ls : Array Slot), va_P X.1 mo_cl (mo_wl X M) H → va_S A s.heap H locs → lv_has ls 6 [(0, .ref (X.2.1 0)), (1, .int a1), (2, .int v2)] → W p l e rm_MO_good s m args below meth c H locs 0 0 (MQ below (cz_Qw X.1 mo_cl (some (.int r2)) (mo_wl X M2) A) args s 0 0 A) (F0 m 105 ls [.int s0]) := by
    intro M v2 s0 h H locs ls hP hS hl
    refine lv_istore (lv' := [(5, .int s0), (0, .ref (X.2.1 0)), (1, .int a1), (2, .int v2)]) hx hb d_MO_good_105 hl (by decide) rfl (fun ls hl => ?_)
    refine lv_iload hx hb d_MO_good_107 (lv_at hl 0 rfl) ?_
    refine lv_if_eq (tgt := 160) hx hb d_MO_good_109 rfl (fun hc => ?_) (fun hc => ?_)
    · have h := cz_t hc h
      refine lv_iconst (v := 0) hx hb d_MO_good_160 (by decide) ?_
      exact cz_zreth S hr hlocks hP hS h rfl d_MO_good_161
    have h := cz_f hc h
    refine lv_aload_n hx hb d_MO_good_112 rfl (lv_at hl 1 rfl) ?_
    refine gf_MO_58 S hP d_MO_good_113 ?_
    refine lv_iload_n hx hb d_MO_good_116 rfl (lv_at hl 2 rfl) ?_
    refine lv_iconst (v := 1) hx hb d_MO_good_117 (by decide) ?_
    refine lv_iadd hx hb d_MO_good_118 ?_
    obtain ⟨hin119, h⟩ := cz_ck h
    refine mo_ia S hP mo_k17 hin119 d_MO_good_119 ?_
    refine lv_aload_n hx hb d_MO_good_120 rfl (lv_at hl 1 rfl) ?_
    refine gf_MO_7 S hP d_MO_good_121 ?_
    refine lv_iconst (v := 5) hx hb d_MO_good_124 (by decide) ?_
    refine lv_iload_n hx hb d_MO_good_125 rfl (lv_at hl 3 rfl) ?_
    refine lv_imul hx hb d_MO_good_126 ?_
    refine lv_iconst (v := 1) hx hb d_MO_good_127 (by decide) ?_
    refine lv_iadd hx hb d_MO_good_128 ?_
    obtain ⟨hin129, h⟩ := cz_ck h
    refine mo_ia S hP mo_k1 hin129 d_MO_good_129 ?_
    refine lv_iconst (v := 1) hx hb d_MO_good_130 (by decide) ?_
    refine lv_iadd hx hb d_MO_good_131 ?_
    refine lv_icmp_ne (tgt := 160) hx hb d_MO_good_132 rfl (fun hc => ?_) (fun hc => ?_)
    · have h := cz_f hc h
      refine lv_iconst (v := 0) hx hb d_MO_good_160 (by decide) ?_
      exact cz_zreth S hr hlocks hP hS h rfl d_MO_good_161
    have h := cz_t hc h
    refine lv_aload_n hx hb d_MO_good_135 rfl (lv_at hl 1 rfl) ?_
    refine gf_MO_58 S hP d_MO_good_136 ?_
    refine lv_iload_n hx hb d_MO_good_139 rfl (lv_at hl 2 rfl) ?_
    refine lv_iconst (v := 2) hx hb d_MO_good_140 (by decide) ?_
    refine lv_iadd hx hb d_MO_good_141 ?_
    obtain ⟨hin142, h⟩ := cz_ck h
    refine mo_ia S hP mo_k17 hin142 d_MO_good_142 ?_
    refine lv_aload_n hx hb d_MO_good_143 rfl (lv_at hl 1 rfl) ?_
    refine gf_MO_7 S hP d_MO_good_144 ?_
    refine lv_iconst (v := 5) hx hb d_MO_good_147 (by decide) ?_
    refine lv_iload_n hx hb d_MO_good_148 rfl (lv_at hl 3 rfl) ?_
    refine lv_imul hx hb d_MO_good_149 ?_
    refine lv_iconst (v := 2) hx hb d_MO_good_150 (by decide) ?_
    refine lv_iadd hx hb d_MO_good_151 ?_
    obtain ⟨hin152, h⟩ := cz_ck h
    refine mo_ia S hP mo_k1 hin152 d_MO_good_152 ?_
    refine lv_icmp_le (tgt := 160) hx hb d_MO_good_153 rfl (fun hc => ?_) (fun hc => ?_)
    · have h := cz_t hc h
      refine lv_iconst (v := 0) hx hb d_MO_good_160 (by decide) ?_
      exact cz_zreth S hr hlocks hP hS h rfl d_MO_good_161
    have h := cz_f hc h
    refine lv_iconst (v := 1) hx hb d_MO_good_156 (by decide) ?_
    refine lv_goto (tgt := 161) hx hb d_MO_good_157 rfl ?_
    exact cz_zreth S hr hlocks hP hS h rfl d_MO_good_161
  have hb104 : ∀ (M : cz_M) (v2 : Int32), b_MO_good_104 a1 M v2 = some (r2, M2) → ∀ (H : Heap) (locs : List Loc) (ls : Array Slot), va_P X.1 mo_cl (mo_wl X M) H → va_S A s.heap H locs → lv_has ls 6 [(0, .ref (X.2.1 0)), (1, .int a1), (2, .int v2)] → W p l e rm_MO_good s m args below meth c H locs 0 0 (MQ below (cz_Qw X.1 mo_cl (some (.int r2)) (mo_wl X M2) A) args s 0 0 A) (F0 m 104 ls []) := by
    intro M v2 h H locs ls hP hS hl
    refine lv_iconst (v := 0) hx hb d_MO_good_104 (by decide) ?_
    exact hb105 M v2 (0 : Int32) h _ _ _ hP hS (lv_sub hl [0, 1, 2] rfl)
  have hb63 : ∀ (M : cz_M) (v2 : Int32) (v3 : Int32) (s0 : Int32), b_MO_good_63 a1 M v2 v3 s0 = some (r2, M2) → ∀ (H : Heap) (locs : List Loc) (ls : Array Slot), va_P X.1 mo_cl (mo_wl X M) H → va_S A s.heap H locs → lv_has ls 6 [(0, .ref (X.2.1 0)), (1, .int a1), (2, .int v2), (3, .int v3)] → W p l e rm_MO_good s m args below meth c H locs 0 0 (MQ below (cz_Qw X.1 mo_cl (some (.int r2)) (mo_wl X M2) A) args s 0 0 A) (F0 m 63 ls [.int s0]) := by
    intro M v2 v3 s0 h H locs ls hP hS hl
    refine lv_istore (lv' := [(4, .int s0), (0, .ref (X.2.1 0)), (1, .int a1), (2, .int v2), (3, .int v3)]) hx hb d_MO_good_63 hl (by decide) rfl (fun ls hl => ?_)
    refine lv_aload_n hx hb d_MO_good_65 rfl (lv_at hl 1 rfl) ?_
    refine gf_MO_58 S hP d_MO_good_66 ?_
    refine lv_iload_n hx hb d_MO_good_69 rfl (lv_at hl 2 rfl) ?_
    refine lv_iconst (v := 3) hx hb d_MO_good_70 (by decide) ?_
    refine lv_iadd hx hb d_MO_good_71 ?_
    obtain ⟨hin72, h⟩ := cz_ck h
    refine mo_ia S hP mo_k17 hin72 d_MO_good_72 ?_
    refine lv_iconst (v := 1) hx hb d_MO_good_73 (by decide) ?_
    refine lv_icmp_lt (tgt := 104) hx hb d_MO_good_74 rfl (fun hc => ?_) (fun hc => ?_)
    · have h := cz_t hc h
      exact hb104 M v2 h _ _ _ hP hS (lv_sub hl [1, 2, 3] rfl)
    have h := cz_f hc h
    refine lv_aload_n hx hb d_MO_good_77 rfl (lv_at hl 1 rfl) ?_
    refine gf_MO_58 S hP d_MO_good_78 ?_
    refine lv_iload_n hx hb d_MO_good_81 rfl (lv_at hl 2 rfl) ?_
    refine lv_iconst (v := 3) hx hb d_MO_good_82 (by decide) ?_
    refine lv_iadd hx hb d_MO_good_83 ?_
    obtain ⟨hin84, h⟩ := cz_ck h
    refine mo_ia S hP mo_k17 hin84 d_MO_good_84 ?_
    refine lv_bipush (v := 99) hx hb d_MO_good_85 (by decide) ?_
    refine lv_icmp_gt (tgt := 104) hx hb d_MO_good_87 rfl (fun hc => ?_) (fun hc => ?_)
    · have h := cz_t hc h
      exact hb104 M v2 h _ _ _ hP hS (lv_sub hl [1, 2, 3] rfl)
    have h := cz_f hc h
    refine lv_iload hx hb d_MO_good_90 (lv_at hl 0 rfl) ?_
    refine lv_iload_n hx hb d_MO_good_92 rfl (lv_at hl 4 rfl) ?_
    refine lv_iconst (v := 4) hx hb d_MO_good_93 (by decide) ?_
    refine lv_idiv hx hb d_MO_good_94 (by decide) ?_
    refine lv_iconst (v := 1) hx hb d_MO_good_95 (by decide) ?_
    refine lv_iadd hx hb d_MO_good_96 ?_
    refine lv_icmp_gt (tgt := 104) hx hb d_MO_good_97 rfl (fun hc => ?_) (fun hc => ?_)
    · have h := cz_t hc h
      exact hb104 M v2 h _ _ _ hP hS (lv_sub hl [1, 2, 3] rfl)
    have h := cz_f hc h
    refine lv_iconst (v := 1) hx hb d_MO_good_100 (by decide) ?_
    refine lv_goto (tgt := 105) hx hb d_MO_good_101 rfl ?_
    exact hb105 M v2 (1 : Int32) h _ _ _ hP hS (lv_sub hl [1, 2, 3] rfl)
  refine lv_aload_n hx hb d_MO_good_0 rfl (lv_at hl 0 rfl) ?_
  refine lv_aload_n hx hb d_MO_good_1 rfl (lv_at hl 0 rfl) ?_
  refine gf_MO_58 S hP d_MO_good_2 ?_
  refine lv_iload_n hx hb d_MO_good_5 rfl (lv_at hl 1 rfl) ?_
  obtain ⟨hin6, h⟩ := cz_ck h
  refine mo_ia S hP mo_k17 hin6 d_MO_good_6 ?_
  obtain ⟨r7, M7, hq7, h⟩ := cz_ubi h
  refine iv_MO_84 (rest := []) S hl.1 hP hS (c_MO_blockOf l hD M (M.1 17 a1.toNatClampNeg) hq7) ⟨Nat.le_of_ble_eq_true rfl, Nat.le_of_ble_eq_true rfl⟩ (Nat.le_of_ble_eq_true rfl) rfl d_MO_good_7 (fun H locs hP hS => ?_)
  refine lv_istore_n (lv' := [(2, .int r7), (0, .ref (X.2.1 0)), (1, .int a1)]) hx hb d_MO_good_10 rfl hl (by decide) rfl (fun ls hl => ?_)
  refine lv_iload_n hx hb d_MO_good_11 rfl (lv_at hl 0 rfl) ?_
  refine lv_if_ge (tgt := 17) hx hb d_MO_good_12 rfl (fun hc => ?_) (fun hc => ?_)
  · have h := cz_t hc h
    refine lv_aload_n hx hb d_MO_good_17 rfl (lv_at hl 1 rfl) ?_
    refine gf_MO_7 S hP d_MO_good_18 ?_
    refine lv_iconst (v := 5) hx hb d_MO_good_21 (by decide) ?_
    refine lv_iload_n hx hb d_MO_good_22 rfl (lv_at hl 0 rfl) ?_
    refine lv_imul hx hb d_MO_good_23 ?_
    refine lv_iconst (v := 3) hx hb d_MO_good_24 (by decide) ?_
    refine lv_iadd hx hb d_MO_good_25 ?_
    obtain ⟨hin26, h⟩ := cz_ck h
    refine mo_ia S hP mo_k1 hin26 d_MO_good_26 ?_
    refine lv_istore_n (lv' := [(3, .int (M7.1 1 (((5 : Int32) * r7) + (3 : Int32)).toNatClampNeg)), (2, .int r7), (0, .ref (X.2.1 0)), (1, .int a1)]) hx hb d_MO_good_27 rfl hl (by decide) rfl (fun ls hl => ?_)
    refine lv_aload_n hx hb d_MO_good_28 rfl (lv_at hl 2 rfl) ?_
    refine gf_MO_58 S hP d_MO_good_29 ?_
    refine lv_iload_n hx hb d_MO_good_32 rfl (lv_at hl 3 rfl) ?_
    refine lv_iconst (v := 3) hx hb d_MO_good_33 (by decide) ?_
    refine lv_iadd hx hb d_MO_good_34 ?_
    obtain ⟨hin35, h⟩ := cz_ck h
    refine mo_ia S hP mo_k17 hin35 d_MO_good_35 ?_
    refine lv_iload_n hx hb d_MO_good_36 rfl (lv_at hl 0 rfl) ?_
    refine lv_icmp_ge (tgt := 53) hx hb d_MO_good_37 rfl (fun hc => ?_) (fun hc => ?_)
    · have h := cz_t hc h
      refine lv_aload_n hx hb d_MO_good_53 rfl (lv_at hl 2 rfl) ?_
      refine gf_MO_58 S hP d_MO_good_54 ?_
      refine lv_iload_n hx hb d_MO_good_57 rfl (lv_at hl 3 rfl) ?_
      refine lv_iconst (v := 3) hx hb d_MO_good_58 (by decide) ?_
      refine lv_iadd hx hb d_MO_good_59 ?_
      obtain ⟨hin60, h⟩ := cz_ck h
      refine mo_ia S hP mo_k17 hin60 d_MO_good_60 ?_
      refine lv_iload_n hx hb d_MO_good_61 rfl (lv_at hl 0 rfl) ?_
      refine lv_isub hx hb d_MO_good_62 ?_
      exact hb63 M7 r7 (M7.1 1 (((5 : Int32) * r7) + (3 : Int32)).toNatClampNeg) ((M7.1 17 (a1 + (3 : Int32)).toNatClampNeg) - (M7.1 1 (((5 : Int32) * r7) + (3 : Int32)).toNatClampNeg)) h _ _ _ hP hS (lv_sub hl [2, 3, 1, 0] rfl)
    have h := cz_f hc h
    refine lv_iload_n hx hb d_MO_good_40 rfl (lv_at hl 0 rfl) ?_
    refine lv_aload_n hx hb d_MO_good_41 rfl (lv_at hl 2 rfl) ?_
    refine gf_MO_58 S hP d_MO_good_42 ?_
    refine lv_iload_n hx hb d_MO_good_45 rfl (lv_at hl 3 rfl) ?_
    refine lv_iconst (v := 3) hx hb d_MO_good_46 (by decide) ?_
    refine lv_iadd hx hb d_MO_good_47 ?_
    obtain ⟨hin48, h⟩ := cz_ck h
    refine mo_ia S hP mo_k17 hin48 d_MO_good_48 ?_
    refine lv_isub hx hb d_MO_good_49 ?_
    refine lv_goto (tgt := 63) hx hb d_MO_good_50 rfl ?_
    exact hb63 M7 r7 (M7.1 1 (((5 : Int32) * r7) + (3 : Int32)).toNatClampNeg) ((M7.1 1 (((5 : Int32) * r7) + (3 : Int32)).toNatClampNeg) - (M7.1 17 (a1 + (3 : Int32)).toNatClampNeg)) h _ _ _ hP hS (lv_sub hl [2, 3, 1, 0] rfl)
  have h := cz_f hc h
  refine lv_iconst (v := 0) hx hb d_MO_good_15 (by decide) ?_
  exact cz_zreth S hr hlocks hP hS h rfl d_MO_good_16
set_option maxHeartbeats 4000000 in
set_option maxRecDepth 100000 in
theorem c_MO_add (l : Launch) {X : cz_X} {A : Nat → Prop} (hD : ∀ M, va_D A (mo_wl X M)) (M : cz_M) (a1 : Int32) {M2 : cz_M} (h : f_MO_add M a1 = some M2) : mo_Ct l X A y_MO_add (Cond.code y_MO_add b_MO_add 3 none :: cz_T) rm_MO_add [.ref (X.2.1 0), .int a1] M none M2 := by
  refine cz_Met (by decide) rfl (Nat.le_of_ble_eq_true rfl) hD ?_
  intro p e s m args below meth c hargs S hr hlocks hP ls hl
  have S : cz_Cx p m c b_MO_add 3 s args cz_T "ChainPeersModel" X.1 mo_cl (mo_tys X) cz_N A (mo_wl X) := S
  have hx := S.1.1
  have hb := S.1.2.1
  have hS : va_S A s.heap s.heap [] := va_S.rf
  have hl : lv_has ls 3 [(0, .ref (X.2.1 0)), (1, .int a1)] := hl
  have hb34 : ∀ (M : cz_M), b_MO_add_34 a1 M = some M2 → ∀ (H : Heap) (locs : List Loc) (ls : Array Slot), va_P X.1 mo_cl (mo_wl X M) H → va_S A s.heap H locs → lv_has ls 3 [(0, .ref (X.2.1 0))] → W p l e rm_MO_add s m args below meth c H locs 0 0 (MQ below (cz_Qw X.1 mo_cl none (mo_wl X M2) A) args s 0 0 A) (F0 m 34 ls []) := by
    intro M h H locs ls hP hS hl
    refine lv_aload_n hx hb d_MO_add_34 rfl (lv_at hl 0 rfl) ?_
    refine gf_MO_16 S hP d_MO_add_35 ?_
    refine lv_aload_n hx hb d_MO_add_38 rfl (lv_at hl 0 rfl) ?_
    refine gf_MO_71 S hP d_MO_add_39 ?_
    refine lv_iconst (v := -1) hx hb d_MO_add_42 (by decide) ?_
    obtain ⟨hin43, h⟩ := cz_ck h
    refine mo_is S hP hS mo_k3 hin43 d_MO_add_43 (fun H locs hP hS => ?_)
    refine lv_aload_n hx hb d_MO_add_44 rfl (lv_at hl 0 rfl) ?_
    refine lv_dup hx hb d_MO_add_45 rfl ?_
    refine gf_MO_71 S hP d_MO_add_46 ?_
    refine lv_iconst (v := 1) hx hb d_MO_add_49 (by decide) ?_
    refine lv_iadd hx hb d_MO_add_50 ?_
    refine pf_MO_71 S hP hS d_MO_add_51 (fun H locs hP hS => ?_)
    exact cz_vreth S hr hlocks hP hS h d_MO_add_54
  have hb2 : ∀ (n : Nat) (M : cz_M) (v2 : Int32), cz_lp2 (l_MO_add_2 a1) n M v2 = some M2 → ∀ (H : Heap) (locs : List Loc) (ls : Array Slot), va_P X.1 mo_cl (mo_wl X M) H → va_S A s.heap H locs → lv_has ls 3 [(0, .ref (X.2.1 0)), (1, .int a1), (2, .int v2)] → W p l e rm_MO_add s m args below meth c H locs 0 0 (MQ below (cz_Qw X.1 mo_cl none (mo_wl X M2) A) args s 0 0 A) (F0 m 2 ls []) := by
    refine cz_ind2 (fun rec2 ih2 M v2 h H locs ls hP hS hl => ?_)
    refine lv_iload_n hx hb d_MO_add_2 rfl (lv_at hl 2 rfl) ?_
    refine lv_iconst (v := 5) hx hb d_MO_add_3 (by decide) ?_
    refine lv_icmp_ge (tgt := 34) hx hb d_MO_add_4 rfl (fun hc => ?_) (fun hc => ?_)
    · have h := cz_t hc h
      exact hb34 M h _ _ _ hP hS (lv_sub hl [0] rfl)
    have h := cz_f hc h
    refine lv_aload_n hx hb d_MO_add_7 rfl (lv_at hl 0 rfl) ?_
    refine gf_MO_7 S hP d_MO_add_8 ?_
    refine lv_iconst (v := 5) hx hb d_MO_add_11 (by decide) ?_
    refine lv_aload_n hx hb d_MO_add_12 rfl (lv_at hl 0 rfl) ?_
    refine gf_MO_71 S hP d_MO_add_13 ?_
    refine lv_imul hx hb d_MO_add_16 ?_
    refine lv_iload_n hx hb d_MO_add_17 rfl (lv_at hl 2 rfl) ?_
    refine lv_iadd hx hb d_MO_add_18 ?_
    refine lv_aload_n hx hb d_MO_add_19 rfl (lv_at hl 0 rfl) ?_
    refine gf_MO_58 S hP d_MO_add_20 ?_
    refine lv_iload_n hx hb d_MO_add_23 rfl (lv_at hl 1 rfl) ?_
    refine lv_iload_n hx hb d_MO_add_24 rfl (lv_at hl 2 rfl) ?_
    refine lv_iadd hx hb d_MO_add_25 ?_
    obtain ⟨hin26, h⟩ := cz_ck h
    refine mo_ia S hP mo_k17 hin26 d_MO_add_26 ?_
    obtain ⟨hin27, h⟩ := cz_ck h
    refine mo_is S hP hS mo_k1 hin27 d_MO_add_27 (fun H locs hP hS => ?_)
    refine lv_iinc (lv' := [(2, .int (v2 + 1)), (0, .ref (X.2.1 0)), (1, .int a1)]) (v := v2 + 1) (k := 2) hx hb d_MO_add_28 hl rfl (cz_inc1 _) (by decide) rfl (fun ls hl => ?_)
    refine lv_goto (tgt := 2) hx hb d_MO_add_31 rfl ?_
    exact ih2 (cz_i M 1 (((5 : Int32) * (M.1 0 4)) + v2).toNatClampNeg (M.1 17 (a1 + v2).toNatClampNeg)) (v2 + 1) h _ _ _ hP hS (lv_sub hl [1, 2, 0] rfl)
  refine lv_iconst (v := 0) hx hb d_MO_add_0 (by decide) ?_
  refine lv_istore_n (lv' := [(2, .int (0 : Int32)), (0, .ref (X.2.1 0)), (1, .int a1)]) hx hb d_MO_add_1 rfl hl (by decide) rfl (fun ls hl => ?_)
  exact hb2 _ M (0 : Int32) h _ _ _ hP hS (lv_sub hl [1, 2, 0] rfl)
set_option maxHeartbeats 4000000 in
set_option maxRecDepth 100000 in
theorem c_MO_write (l : Launch) {X : cz_X} {A : Nat → Prop} (hD : ∀ M, va_D A (mo_wl X M)) (M : cz_M) (a1 : Int32) {M2 : cz_M} (h : f_MO_write M a1 = some M2) : mo_Ct l X A y_MO_write (Cond.code y_MO_write b_MO_write 4 none :: cz_T) rm_MO_write [.ref (X.2.1 0), .int a1] M none M2 := by
  refine cz_Met (by decide) rfl (Nat.le_of_ble_eq_true rfl) hD ?_
  intro p e s m args below meth c hargs S hr hlocks hP ls hl
  have S : cz_Cx p m c b_MO_write 4 s args cz_T "ChainPeersModel" X.1 mo_cl (mo_tys X) cz_N A (mo_wl X) := S
  have hx := S.1.1
  have hb := S.1.2.1
  have hS : va_S A s.heap s.heap [] := va_S.rf
  have hl : lv_has ls 4 [(0, .ref (X.2.1 0)), (1, .int a1)] := hl
  have hb123 : ∀ (M : cz_M) (v2 : Int32), b_MO_write_123 a1 M v2 = some M2 → ∀ (H : Heap) (locs : List Loc) (ls : Array Slot), va_P X.1 mo_cl (mo_wl X M) H → va_S A s.heap H locs → lv_has ls 4 [(0, .ref (X.2.1 0)), (2, .int v2)] → W p l e rm_MO_write s m args below meth c H locs 0 0 (MQ below (cz_Qw X.1 mo_cl none (mo_wl X M2) A) args s 0 0 A) (F0 m 123 ls []) := by
    intro M v2 h H locs ls hP hS hl
    refine lv_aload_n hx hb d_MO_write_123 rfl (lv_at hl 0 rfl) ?_
    refine lv_dup hx hb d_MO_write_124 rfl ?_
    refine gf_MO_102 S hP d_MO_write_125 ?_
    refine lv_iconst (v := 1) hx hb d_MO_write_128 (by decide) ?_
    refine lv_iload_n hx hb d_MO_write_129 rfl (lv_at hl 1 rfl) ?_
    refine lv_iadd hx hb d_MO_write_130 ?_
    refine lv_iadd hx hb d_MO_write_131 ?_
    refine pf_MO_102 S hP hS d_MO_write_132 (fun H locs hP hS => ?_)
    exact cz_vreth S hr hlocks hP hS h d_MO_write_135
  have hb89 : ∀ (n : Nat) (M : cz_M) (v2 : Int32) (v3 : Int32), cz_lp3 (l_MO_write_89 a1) n M v2 v3 = some M2 → ∀ (H : Heap) (locs : List Loc) (ls : Array Slot), va_P X.1 mo_cl (mo_wl X M) H → va_S A s.heap H locs → lv_has ls 4 [(0, .ref (X.2.1 0)), (1, .int a1), (2, .int v2), (3, .int v3)] → W p l e rm_MO_write s m args below meth c H locs 0 0 (MQ below (cz_Qw X.1 mo_cl none (mo_wl X M2) A) args s 0 0 A) (F0 m 89 ls []) := by
    refine cz_ind3 (fun rec89 ih89 M v2 v3 h H locs ls hP hS hl => ?_)
    refine lv_iload_n hx hb d_MO_write_89 rfl (lv_at hl 3 rfl) ?_
    refine lv_iload_n hx hb d_MO_write_90 rfl (lv_at hl 2 rfl) ?_
    refine lv_icmp_gt (tgt := 123) hx hb d_MO_write_91 rfl (fun hc => ?_) (fun hc => ?_)
    · have h := cz_t hc h
      exact hb123 M v2 h _ _ _ hP hS (lv_sub hl [0, 2] rfl)
    have h := cz_f hc h
    refine lv_aload_n hx hb d_MO_write_94 rfl (lv_at hl 0 rfl) ?_
    refine gf_MO_61 S hP d_MO_write_95 ?_
    refine lv_aload_n hx hb d_MO_write_98 rfl (lv_at hl 0 rfl) ?_
    refine gf_MO_102 S hP d_MO_write_99 ?_
    refine lv_iload_n hx hb d_MO_write_102 rfl (lv_at hl 3 rfl) ?_
    refine lv_iadd hx hb d_MO_write_103 ?_
    refine lv_iload_n hx hb d_MO_write_104 rfl (lv_at hl 1 rfl) ?_
    refine lv_bipush (v := 8) hx hb d_MO_write_105 (by decide) ?_
    refine lv_iload_n hx hb d_MO_write_107 rfl (lv_at hl 2 rfl) ?_
    refine lv_iload_n hx hb d_MO_write_108 rfl (lv_at hl 3 rfl) ?_
    refine lv_isub hx hb d_MO_write_109 ?_
    refine lv_imul hx hb d_MO_write_110 ?_
    refine lv_ishr hx hb d_MO_write_111 ?_
    refine lv_sipush (v := 255) hx hb d_MO_write_112 (by decide) ?_
    refine lv_iand hx hb d_MO_write_115 ?_
    obtain ⟨hin116, h⟩ := cz_ck h
    refine mo_is S hP hS mo_k18 hin116 d_MO_write_116 (fun H locs hP hS => ?_)
    refine lv_iinc (lv' := [(3, .int (v3 + 1)), (0, .ref (X.2.1 0)), (1, .int a1), (2, .int v2)]) (v := v3 + 1) (k := 3) hx hb d_MO_write_117 hl rfl (cz_inc1 _) (by decide) rfl (fun ls hl => ?_)
    refine lv_goto (tgt := 89) hx hb d_MO_write_120 rfl ?_
    exact ih89 (cz_i M 18 ((M.1 0 26) + v3).toNatClampNeg ((a1 >>> (((8 : Int32) * (v2 - v3)) &&& 31)) &&& (255 : Int32))) v2 (v3 + 1) h _ _ _ hP hS (lv_sub hl [1, 2, 3, 0] rfl)
  have hb72 : ∀ (M : cz_M) (s0 : Int32), b_MO_write_72 a1 M s0 = some M2 → ∀ (H : Heap) (locs : List Loc) (ls : Array Slot), va_P X.1 mo_cl (mo_wl X M) H → va_S A s.heap H locs → lv_has ls 4 [(0, .ref (X.2.1 0)), (1, .int a1)] → W p l e rm_MO_write s m args below meth c H locs 0 0 (MQ below (cz_Qw X.1 mo_cl none (mo_wl X M2) A) args s 0 0 A) (F0 m 72 ls [.int s0]) := by
    intro M s0 h H locs ls hP hS hl
    refine lv_istore_n (lv' := [(2, .int s0), (0, .ref (X.2.1 0)), (1, .int a1)]) hx hb d_MO_write_72 rfl hl (by decide) rfl (fun ls hl => ?_)
    refine lv_aload_n hx hb d_MO_write_73 rfl (lv_at hl 1 rfl) ?_
    refine gf_MO_61 S hP d_MO_write_74 ?_
    refine lv_aload_n hx hb d_MO_write_77 rfl (lv_at hl 1 rfl) ?_
    refine gf_MO_102 S hP d_MO_write_78 ?_
    refine lv_sipush (v := 128) hx hb d_MO_write_81 (by decide) ?_
    refine lv_iload_n hx hb d_MO_write_84 rfl (lv_at hl 0 rfl) ?_
    refine lv_iadd hx hb d_MO_write_85 ?_
    obtain ⟨hin86, h⟩ := cz_ck h
    refine mo_is S hP hS mo_k18 hin86 d_MO_write_86 (fun H locs hP hS => ?_)
    refine lv_iconst (v := 1) hx hb d_MO_write_87 (by decide) ?_
    refine lv_istore_n (lv' := [(3, .int (1 : Int32)), (2, .int s0), (0, .ref (X.2.1 0)), (1, .int a1)]) hx hb d_MO_write_88 rfl hl (by decide) rfl (fun ls hl => ?_)
    exact hb89 _ (cz_i M 18 (M.1 0 26).toNatClampNeg ((128 : Int32) + s0)) s0 (1 : Int32) h _ _ _ hP hS (lv_sub hl [2, 3, 1, 0] rfl)
  have hb32 : ∀ (M : cz_M), b_MO_write_32 a1 M = some M2 → ∀ (H : Heap) (locs : List Loc) (ls : Array Slot), va_P X.1 mo_cl (mo_wl X M) H → va_S A s.heap H locs → lv_has ls 4 [(0, .ref (X.2.1 0)), (1, .int a1)] → W p l e rm_MO_write s m args below meth c H locs 0 0 (MQ below (cz_Qw X.1 mo_cl none (mo_wl X M2) A) args s 0 0 A) (F0 m 32 ls []) := by
    intro M h H locs ls hP hS hl
    refine lv_iload_n hx hb d_MO_write_32 rfl (lv_at hl 1 rfl) ?_
    refine lv_if_ne (tgt := 40) hx hb d_MO_write_33 rfl (fun hc => ?_) (fun hc => ?_)
    · have h := cz_f hc h
      refine lv_iload_n hx hb d_MO_write_40 rfl (lv_at hl 1 rfl) ?_
      refine lv_sipush (v := 256) hx hb d_MO_write_41 (by decide) ?_
      refine lv_icmp_ge (tgt := 51) hx hb d_MO_write_44 rfl (fun hc => ?_) (fun hc => ?_)
      · have h := cz_t hc h
        refine lv_iload_n hx hb d_MO_write_51 rfl (lv_at hl 1 rfl) ?_
        refine lv_ldc (v := 65536) hx hb S.1.2.2.2.1 (S.1.2.2.2.2 _ mw_704) d_MO_write_52 ?_
        refine lv_icmp_ge (tgt := 61) hx hb d_MO_write_54 rfl (fun hc => ?_) (fun hc => ?_)
        · have h := cz_t hc h
          refine lv_iload_n hx hb d_MO_write_61 rfl (lv_at hl 1 rfl) ?_
          refine lv_ldc (v := 16777216) hx hb S.1.2.2.2.1 (S.1.2.2.2.2 _ mw_705) d_MO_write_62 ?_
          refine lv_icmp_ge (tgt := 71) hx hb d_MO_write_64 rfl (fun hc => ?_) (fun hc => ?_)
          · have h := cz_t hc h
            refine lv_iconst (v := 4) hx hb d_MO_write_71 (by decide) ?_
            exact hb72 M (4 : Int32) h _ _ _ hP hS (lv_sub hl [0, 1] rfl)
          have h := cz_f hc h
          refine lv_iconst (v := 3) hx hb d_MO_write_67 (by decide) ?_
          refine lv_goto (tgt := 72) hx hb d_MO_write_68 rfl ?_
          exact hb72 M (3 : Int32) h _ _ _ hP hS (lv_sub hl [0, 1] rfl)
        have h := cz_f hc h
        refine lv_iconst (v := 2) hx hb d_MO_write_57 (by decide) ?_
        refine lv_goto (tgt := 72) hx hb d_MO_write_58 rfl ?_
        exact hb72 M (2 : Int32) h _ _ _ hP hS (lv_sub hl [0, 1] rfl)
      have h := cz_f hc h
      refine lv_iconst (v := 1) hx hb d_MO_write_47 (by decide) ?_
      refine lv_goto (tgt := 72) hx hb d_MO_write_48 rfl ?_
      exact hb72 M (1 : Int32) h _ _ _ hP hS (lv_sub hl [0, 1] rfl)
    have h := cz_t hc h
    refine lv_iconst (v := 0) hx hb d_MO_write_36 (by decide) ?_
    refine lv_goto (tgt := 72) hx hb d_MO_write_37 rfl ?_
    exact hb72 M (0 : Int32) h _ _ _ hP hS (lv_sub hl [0, 1] rfl)
  refine lv_iload_n hx hb d_MO_write_0 rfl (lv_at hl 1 rfl) ?_
  refine lv_if_le (tgt := 32) hx hb d_MO_write_1 rfl (fun hc => ?_) (fun hc => ?_)
  · have h := cz_t hc h
    exact hb32 M h _ _ _ hP hS (lv_sub hl [0, 1] rfl)
  have h := cz_f hc h
  refine lv_iload_n hx hb d_MO_write_4 rfl (lv_at hl 1 rfl) ?_
  refine lv_sipush (v := 128) hx hb d_MO_write_5 (by decide) ?_
  refine lv_icmp_ge (tgt := 32) hx hb d_MO_write_8 rfl (fun hc => ?_) (fun hc => ?_)
  · have h := cz_t hc h
    exact hb32 M h _ _ _ hP hS (lv_sub hl [0, 1] rfl)
  have h := cz_f hc h
  refine lv_aload_n hx hb d_MO_write_11 rfl (lv_at hl 0 rfl) ?_
  refine gf_MO_61 S hP d_MO_write_12 ?_
  refine lv_aload_n hx hb d_MO_write_15 rfl (lv_at hl 0 rfl) ?_
  refine gf_MO_102 S hP d_MO_write_16 ?_
  refine lv_iload_n hx hb d_MO_write_19 rfl (lv_at hl 1 rfl) ?_
  obtain ⟨hin20, h⟩ := cz_ck h
  refine mo_is S hP hS mo_k18 hin20 d_MO_write_20 (fun H locs hP hS => ?_)
  refine lv_aload_n hx hb d_MO_write_21 rfl (lv_at hl 0 rfl) ?_
  refine lv_dup hx hb d_MO_write_22 rfl ?_
  refine gf_MO_102 S hP d_MO_write_23 ?_
  refine lv_iconst (v := 1) hx hb d_MO_write_26 (by decide) ?_
  refine lv_iadd hx hb d_MO_write_27 ?_
  refine pf_MO_102 S hP hS d_MO_write_28 (fun H locs hP hS => ?_)
  exact cz_vreth S hr hlocks hP hS h d_MO_write_31
set_option maxHeartbeats 4000000 in
set_option maxRecDepth 100000 in
theorem c_MO_start (l : Launch) {X : cz_X} {A : Nat → Prop} (hD : ∀ M, va_D A (mo_wl X M)) (M : cz_M) (a1 : Int32) (a2 : Int32) {M2 : cz_M} (h : f_MO_start M a1 a2 = some M2) : mo_Ct l X A y_MO_start (Cond.code y_MO_start b_MO_start 3 none :: cz_T) rm_MO_start [.ref (X.2.1 0), .int a1, .int a2] M none M2 := by
  refine cz_Met (by decide) rfl (Nat.le_of_ble_eq_true rfl) hD ?_
  intro p e s m args below meth c hargs S hr hlocks hP ls hl
  have S : cz_Cx p m c b_MO_start 3 s args cz_T "ChainPeersModel" X.1 mo_cl (mo_tys X) cz_N A (mo_wl X) := S
  have hx := S.1.1
  have hb := S.1.2.1
  have hS : va_S A s.heap s.heap [] := va_S.rf
  have hl : lv_has ls 3 [(0, .ref (X.2.1 0)), (1, .int a1), (2, .int a2)] := hl
  refine lv_aload_n hx hb d_MO_start_0 rfl (lv_at hl 0 rfl) ?_
  refine lv_iconst (v := 0) hx hb d_MO_start_1 (by decide) ?_
  refine pf_MO_102 S hP hS d_MO_start_2 (fun H locs hP hS => ?_)
  refine lv_aload_n hx hb d_MO_start_5 rfl (lv_at hl 0 rfl) ?_
  refine lv_iload_n hx hb d_MO_start_6 rfl (lv_at hl 1 rfl) ?_
  obtain ⟨M7, hq7, h⟩ := cz_ubv h
  refine iv_MO_107 (rest := []) S hl.1 hP hS (c_MO_write l hD (cz_i M 0 26 (0 : Int32)) a1 hq7) ⟨Nat.le_of_ble_eq_true rfl, Nat.le_of_ble_eq_true rfl⟩ (Nat.le_of_ble_eq_true rfl) rfl d_MO_start_7 (fun H locs hP hS => ?_)
  refine lv_aload_n hx hb d_MO_start_10 rfl (lv_at hl 0 rfl) ?_
  refine lv_iload_n hx hb d_MO_start_11 rfl (lv_at hl 2 rfl) ?_
  obtain ⟨M12, hq12, h⟩ := cz_ubv h
  refine iv_MO_107 (rest := []) S hl.1 hP hS (c_MO_write l hD M7 a2 hq12) ⟨Nat.le_of_ble_eq_true rfl, Nat.le_of_ble_eq_true rfl⟩ (Nat.le_of_ble_eq_true rfl) rfl d_MO_start_12 (fun H locs hP hS => ?_)
  exact cz_vreth S hr hlocks hP hS h d_MO_start_15
set_option maxHeartbeats 4000000 in
set_option maxRecDepth 100000 in
theorem c_MO_wrap (l : Launch) {X : cz_X} {A : Nat → Prop} (hD : ∀ M, va_D A (mo_wl X M)) (M : cz_M) (a1 : Int32) {M2 : cz_M} (h : f_MO_wrap M a1 = some M2) : mo_Ct l X A y_MO_wrap (Cond.code y_MO_wrap b_MO_wrap 3 none :: cz_T) rm_MO_wrap [.ref (X.2.1 0), .int a1] M none M2 := by
  refine cz_Met (by decide) rfl (Nat.le_of_ble_eq_true rfl) hD ?_
  intro p e s m args below meth c hargs S hr hlocks hP ls hl
  have S : cz_Cx p m c b_MO_wrap 3 s args cz_T "ChainPeersModel" X.1 mo_cl (mo_tys X) cz_N A (mo_wl X) := S
  have hx := S.1.1
  have hb := S.1.2.1
  have hS : va_S A s.heap s.heap [] := va_S.rf
  have hl : lv_has ls 3 [(0, .ref (X.2.1 0)), (1, .int a1)] := hl
  have hb30 : ∀ (M : cz_M), b_MO_wrap_30 a1 M = some M2 → ∀ (H : Heap) (locs : List Loc) (ls : Array Slot), va_P X.1 mo_cl (mo_wl X M) H → va_S A s.heap H locs → lv_has ls 3 [(0, .ref (X.2.1 0)), (1, .int a1)] → W p l e rm_MO_wrap s m args below meth c H locs 0 0 (MQ below (cz_Qw X.1 mo_cl none (mo_wl X M2) A) args s 0 0 A) (F0 m 30 ls []) := by
    intro M h H locs ls hP hS hl
    refine lv_aload_n hx hb d_MO_wrap_30 rfl (lv_at hl 0 rfl) ?_
    refine gf_MO_61 S hP d_MO_wrap_31 ?_
    refine lv_iload_n hx hb d_MO_wrap_34 rfl (lv_at hl 1 rfl) ?_
    refine lv_sipush (v := 192) hx hb d_MO_wrap_35 (by decide) ?_
    refine lv_aload_n hx hb d_MO_wrap_38 rfl (lv_at hl 0 rfl) ?_
    refine gf_MO_102 S hP d_MO_wrap_39 ?_
    refine lv_iadd hx hb d_MO_wrap_42 ?_
    refine lv_iload_n hx hb d_MO_wrap_43 rfl (lv_at hl 1 rfl) ?_
    refine lv_isub hx hb d_MO_wrap_44 ?_
    obtain ⟨hin45, h⟩ := cz_ck h
    refine mo_is S hP hS mo_k18 hin45 d_MO_wrap_45 (fun H locs hP hS => ?_)
    refine lv_aload_n hx hb d_MO_wrap_46 rfl (lv_at hl 0 rfl) ?_
    refine lv_dup hx hb d_MO_wrap_47 rfl ?_
    refine gf_MO_102 S hP d_MO_wrap_48 ?_
    refine lv_iconst (v := 1) hx hb d_MO_wrap_51 (by decide) ?_
    refine lv_iadd hx hb d_MO_wrap_52 ?_
    refine pf_MO_102 S hP hS d_MO_wrap_53 (fun H locs hP hS => ?_)
    exact cz_vreth S hr hlocks hP hS h d_MO_wrap_56
  have hb5 : ∀ (n : Nat) (M : cz_M) (v2 : Int32), cz_lp2 (l_MO_wrap_5 a1) n M v2 = some M2 → ∀ (H : Heap) (locs : List Loc) (ls : Array Slot), va_P X.1 mo_cl (mo_wl X M) H → va_S A s.heap H locs → lv_has ls 3 [(0, .ref (X.2.1 0)), (1, .int a1), (2, .int v2)] → W p l e rm_MO_wrap s m args below meth c H locs 0 0 (MQ below (cz_Qw X.1 mo_cl none (mo_wl X M2) A) args s 0 0 A) (F0 m 5 ls []) := by
    refine cz_ind2 (fun rec5 ih5 M v2 h H locs ls hP hS hl => ?_)
    refine lv_iload_n hx hb d_MO_wrap_5 rfl (lv_at hl 2 rfl) ?_
    refine lv_iload_n hx hb d_MO_wrap_6 rfl (lv_at hl 1 rfl) ?_
    refine lv_icmp_le (tgt := 30) hx hb d_MO_wrap_7 rfl (fun hc => ?_) (fun hc => ?_)
    · have h := cz_t hc h
      exact hb30 M h _ _ _ hP hS (lv_sub hl [0, 1] rfl)
    have h := cz_f hc h
    refine lv_aload_n hx hb d_MO_wrap_10 rfl (lv_at hl 0 rfl) ?_
    refine gf_MO_61 S hP d_MO_wrap_11 ?_
    refine lv_iload_n hx hb d_MO_wrap_14 rfl (lv_at hl 2 rfl) ?_
    refine lv_aload_n hx hb d_MO_wrap_15 rfl (lv_at hl 0 rfl) ?_
    refine gf_MO_61 S hP d_MO_wrap_16 ?_
    refine lv_iload_n hx hb d_MO_wrap_19 rfl (lv_at hl 2 rfl) ?_
    refine lv_iconst (v := 1) hx hb d_MO_wrap_20 (by decide) ?_
    refine lv_isub hx hb d_MO_wrap_21 ?_
    obtain ⟨hin22, h⟩ := cz_ck h
    refine mo_ia S hP mo_k18 hin22 d_MO_wrap_22 ?_
    obtain ⟨hin23, h⟩ := cz_ck h
    refine mo_is S hP hS mo_k18 hin23 d_MO_wrap_23 (fun H locs hP hS => ?_)
    refine lv_iinc (lv' := [(2, .int (v2 - 1)), (0, .ref (X.2.1 0)), (1, .int a1)]) (v := v2 - 1) (k := 2) hx hb d_MO_wrap_24 hl rfl (cz_incm1 _) (by decide) rfl (fun ls hl => ?_)
    refine lv_goto (tgt := 5) hx hb d_MO_wrap_27 rfl ?_
    exact ih5 (cz_i M 18 v2.toNatClampNeg (M.1 18 (v2 - (1 : Int32)).toNatClampNeg)) (v2 - 1) h _ _ _ hP hS (lv_sub hl [1, 2, 0] rfl)
  refine lv_aload_n hx hb d_MO_wrap_0 rfl (lv_at hl 0 rfl) ?_
  refine gf_MO_102 S hP d_MO_wrap_1 ?_
  refine lv_istore_n (lv' := [(2, .int (M.1 0 26)), (0, .ref (X.2.1 0)), (1, .int a1)]) hx hb d_MO_wrap_4 rfl hl (by decide) rfl (fun ls hl => ?_)
  exact hb5 _ M (M.1 0 26) h _ _ _ hP hS (lv_sub hl [1, 2, 0] rfl)
set_option maxHeartbeats 4000000 in
set_option maxRecDepth 100000 in
theorem c_MO_post (l : Launch) {X : cz_X} {A : Nat → Prop} (hD : ∀ M, va_D A (mo_wl X M)) (M : cz_M) (a1 : Int32) {M2 : cz_M} (h : f_MO_post M a1 = some M2) : mo_Ct l X A y_MO_post (Cond.code y_MO_post b_MO_post 4 none :: cz_T) rm_MO_post [.ref (X.2.1 0), .int a1] M none M2 := by
  refine cz_Met (by decide) rfl (Nat.le_of_ble_eq_true rfl) hD ?_
  intro p e s m args below meth c hargs S hr hlocks hP ls hl
  have S : cz_Cx p m c b_MO_post 4 s args cz_T "ChainPeersModel" X.1 mo_cl (mo_tys X) cz_N A (mo_wl X) := S
  have hx := S.1.1
  have hb := S.1.2.1
  have hS : va_S A s.heap s.heap [] := va_S.rf
  have hl : lv_has ls 4 [(0, .ref (X.2.1 0)), (1, .int a1)] := hl
  have hb59 : ∀ (M : cz_M) (v2 : Int32), b_MO_post_59 a1 M v2 = some M2 → ∀ (H : Heap) (locs : List Loc) (ls : Array Slot), va_P X.1 mo_cl (mo_wl X M) H → va_S A s.heap H locs → lv_has ls 4 [(0, .ref (X.2.1 0)), (1, .int a1), (2, .int v2)] → W p l e rm_MO_post s m args below meth c H locs 0 0 (MQ below (cz_Qw X.1 mo_cl none (mo_wl X M2) A) args s 0 0 A) (F0 m 59 ls []) := by
    intro M v2 h H locs ls hP hS hl
    refine lv_aload_n hx hb d_MO_post_59 rfl (lv_at hl 0 rfl) ?_
    refine gf_MO_46 S hP d_MO_post_60 ?_
    refine lv_iload_n hx hb d_MO_post_63 rfl (lv_at hl 2 rfl) ?_
    refine lv_aload_n hx hb d_MO_post_64 rfl (lv_at hl 0 rfl) ?_
    refine gf_MO_102 S hP d_MO_post_65 ?_
    obtain ⟨hin68, h⟩ := cz_ck h
    refine mo_is S hP hS mo_k13 hin68 d_MO_post_68 (fun H locs hP hS => ?_)
    refine lv_aload_n hx hb d_MO_post_69 rfl (lv_at hl 0 rfl) ?_
    refine gf_MO_43 S hP d_MO_post_70 ?_
    refine lv_iload_n hx hb d_MO_post_73 rfl (lv_at hl 1 rfl) ?_
    refine lv_dup2_11 hx hb d_MO_post_74 rfl rfl ?_
    obtain ⟨hin75, h⟩ := cz_ck h
    refine mo_ia S hP mo_k12 hin75 d_MO_post_75 ?_
    refine lv_iconst (v := 1) hx hb d_MO_post_76 (by decide) ?_
    refine lv_iadd hx hb d_MO_post_77 ?_
    obtain ⟨hin78, h⟩ := cz_ck h
    refine mo_is S hP hS mo_k12 hin78 d_MO_post_78 (fun H locs hP hS => ?_)
    exact cz_vreth S hr hlocks hP hS h d_MO_post_79
  have hb28 : ∀ (n : Nat) (M : cz_M) (v2 : Int32) (v3 : Int32), cz_lp3 (l_MO_post_28 a1) n M v2 v3 = some M2 → ∀ (H : Heap) (locs : List Loc) (ls : Array Slot), va_P X.1 mo_cl (mo_wl X M) H → va_S A s.heap H locs → lv_has ls 4 [(0, .ref (X.2.1 0)), (1, .int a1), (2, .int v2), (3, .int v3)] → W p l e rm_MO_post s m args below meth c H locs 0 0 (MQ below (cz_Qw X.1 mo_cl none (mo_wl X M2) A) args s 0 0 A) (F0 m 28 ls []) := by
    refine cz_ind3 (fun rec28 ih28 M v2 v3 h H locs ls hP hS hl => ?_)
    refine lv_iload_n hx hb d_MO_post_28 rfl (lv_at hl 3 rfl) ?_
    refine lv_aload_n hx hb d_MO_post_29 rfl (lv_at hl 0 rfl) ?_
    refine gf_MO_102 S hP d_MO_post_30 ?_
    refine lv_icmp_ge (tgt := 59) hx hb d_MO_post_33 rfl (fun hc => ?_) (fun hc => ?_)
    · have h := cz_t hc h
      exact hb59 M v2 h _ _ _ hP hS (lv_sub hl [0, 1, 2] rfl)
    have h := cz_f hc h
    refine lv_aload_n hx hb d_MO_post_36 rfl (lv_at hl 0 rfl) ?_
    refine gf_MO_49 S hP d_MO_post_37 ?_
    refine lv_bipush (v := 56) hx hb d_MO_post_40 (by decide) ?_
    refine lv_iload_n hx hb d_MO_post_42 rfl (lv_at hl 2 rfl) ?_
    refine lv_imul hx hb d_MO_post_43 ?_
    refine lv_iload_n hx hb d_MO_post_44 rfl (lv_at hl 3 rfl) ?_
    refine lv_iadd hx hb d_MO_post_45 ?_
    refine lv_aload_n hx hb d_MO_post_46 rfl (lv_at hl 0 rfl) ?_
    refine gf_MO_61 S hP d_MO_post_47 ?_
    refine lv_iload_n hx hb d_MO_post_50 rfl (lv_at hl 3 rfl) ?_
    obtain ⟨hin51, h⟩ := cz_ck h
    refine mo_ia S hP mo_k18 hin51 d_MO_post_51 ?_
    obtain ⟨hin52, h⟩ := cz_ck h
    refine mo_is S hP hS mo_k14 hin52 d_MO_post_52 (fun H locs hP hS => ?_)
    refine lv_iinc (lv' := [(3, .int (v3 + 1)), (0, .ref (X.2.1 0)), (1, .int a1), (2, .int v2)]) (v := v3 + 1) (k := 3) hx hb d_MO_post_53 hl rfl (cz_inc1 _) (by decide) rfl (fun ls hl => ?_)
    refine lv_goto (tgt := 28) hx hb d_MO_post_56 rfl ?_
    exact ih28 (cz_i M 14 (((56 : Int32) * v2) + v3).toNatClampNeg (M.1 18 v3.toNatClampNeg)) v2 (v3 + 1) h _ _ _ hP hS (lv_sub hl [1, 2, 3, 0] rfl)
  refine lv_aload_n hx hb d_MO_post_0 rfl (lv_at hl 0 rfl) ?_
  refine lv_iconst (v := 0) hx hb d_MO_post_1 (by decide) ?_
  obtain ⟨M2, hq2, h⟩ := cz_ubv h
  refine iv_MO_111 (rest := []) S hl.1 hP hS (c_MO_wrap l hD M (0 : Int32) hq2) ⟨Nat.le_of_ble_eq_true rfl, Nat.le_of_ble_eq_true rfl⟩ (Nat.le_of_ble_eq_true rfl) rfl d_MO_post_2 (fun H locs hP hS => ?_)
  refine lv_aload_n hx hb d_MO_post_5 rfl (lv_at hl 0 rfl) ?_
  refine gf_MO_43 S hP d_MO_post_6 ?_
  refine lv_iload_n hx hb d_MO_post_9 rfl (lv_at hl 1 rfl) ?_
  obtain ⟨hin10, h⟩ := cz_ck h
  refine mo_ia S hP mo_k12 hin10 d_MO_post_10 ?_
  refine lv_iconst (v := 4) hx hb d_MO_post_11 (by decide) ?_
  refine lv_icmp_ge (tgt := 79) hx hb d_MO_post_12 rfl (fun hc => ?_) (fun hc => ?_)
  · have h := cz_t hc h
    exact cz_vreth S hr hlocks hP hS h d_MO_post_79
  have h := cz_f hc h
  refine lv_iconst (v := 4) hx hb d_MO_post_15 (by decide) ?_
  refine lv_iload_n hx hb d_MO_post_16 rfl (lv_at hl 1 rfl) ?_
  refine lv_imul hx hb d_MO_post_17 ?_
  refine lv_aload_n hx hb d_MO_post_18 rfl (lv_at hl 0 rfl) ?_
  refine gf_MO_43 S hP d_MO_post_19 ?_
  refine lv_iload_n hx hb d_MO_post_22 rfl (lv_at hl 1 rfl) ?_
  obtain ⟨hin23, h⟩ := cz_ck h
  refine mo_ia S hP mo_k12 hin23 d_MO_post_23 ?_
  refine lv_iadd hx hb d_MO_post_24 ?_
  refine lv_istore_n (lv' := [(2, .int (((4 : Int32) * a1) + (M2.1 12 a1.toNatClampNeg))), (0, .ref (X.2.1 0)), (1, .int a1)]) hx hb d_MO_post_25 rfl hl (by decide) rfl (fun ls hl => ?_)
  refine lv_iconst (v := 0) hx hb d_MO_post_26 (by decide) ?_
  refine lv_istore_n (lv' := [(3, .int (0 : Int32)), (2, .int (((4 : Int32) * a1) + (M2.1 12 a1.toNatClampNeg))), (0, .ref (X.2.1 0)), (1, .int a1)]) hx hb d_MO_post_27 rfl hl (by decide) rfl (fun ls hl => ?_)
  exact hb28 _ M2 (((4 : Int32) * a1) + (M2.1 12 a1.toNatClampNeg)) (0 : Int32) h _ _ _ hP hS (lv_sub hl [2, 3, 1, 0] rfl)
