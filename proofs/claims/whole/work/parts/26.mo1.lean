set_option maxHeartbeats 4000000 in
set_option maxRecDepth 100000 in
theorem c_MO_isPeer (l : Launch) {X : cz_X} {A : Nat → Prop} (hD : ∀ M, va_D A (mo_wl X M)) (M : cz_M) (a0 : Int32) {r2 : Int32} {M2 : cz_M} (h : f_MO_isPeer M a0 = some (r2, M2)) : mo_Ct l X A y_MO_isPeer (Cond.code y_MO_isPeer b_MO_isPeer 1 (some .boolean) :: cz_T) rm_MO_isPeer [.int a0] M (some (.int r2)) M2 := by
  refine cz_Met (by decide) rfl (Nat.le_of_ble_eq_true rfl) hD ?_
  intro p e s m args below meth c hargs S hr hlocks hP ls hl
  have S : cz_Cx p m c b_MO_isPeer 1 s args cz_T "ChainPeersModel" X.1 mo_cl (mo_tys X) cz_N A (mo_wl X) := S
  have hx := S.1.1
  have hb := S.1.2.1
  have hS : va_S A s.heap s.heap [] := va_S.rf
  have hl : lv_has ls 1 [(0, .int a0)] := hl
  refine lv_iload_n hx hb d_MO_isPeer_0 rfl (lv_at hl 0 rfl) ?_
  refine lv_if_lt (tgt := 13) hx hb d_MO_isPeer_1 rfl (fun hc => ?_) (fun hc => ?_)
  · have h := cz_t hc h
    refine lv_iconst (v := 0) hx hb d_MO_isPeer_13 (by decide) ?_
    exact cz_zreth S hr hlocks hP hS h rfl d_MO_isPeer_14
  have h := cz_f hc h
  refine lv_iload_n hx hb d_MO_isPeer_4 rfl (lv_at hl 0 rfl) ?_
  refine lv_iconst (v := 4) hx hb d_MO_isPeer_5 (by decide) ?_
  refine lv_icmp_ge (tgt := 13) hx hb d_MO_isPeer_6 rfl (fun hc => ?_) (fun hc => ?_)
  · have h := cz_t hc h
    refine lv_iconst (v := 0) hx hb d_MO_isPeer_13 (by decide) ?_
    exact cz_zreth S hr hlocks hP hS h rfl d_MO_isPeer_14
  have h := cz_f hc h
  refine lv_iconst (v := 1) hx hb d_MO_isPeer_9 (by decide) ?_
  refine lv_goto (tgt := 14) hx hb d_MO_isPeer_10 rfl ?_
  exact cz_zreth S hr hlocks hP hS h rfl d_MO_isPeer_14
set_option maxHeartbeats 4000000 in
set_option maxRecDepth 100000 in
theorem c_MO_send (l : Launch) {X : cz_X} {A : Nat → Prop} (hD : ∀ M, va_D A (mo_wl X M)) (M : cz_M) (a1 : Int32) {r2 : Int32} {M2 : cz_M} (h : f_MO_send M a1 = some (r2, M2)) : mo_Ct l X A y_MO_send (Cond.code y_MO_send b_MO_send 4 (some .int) :: cz_T) rm_MO_send [.ref (X.2.1 0), .int a1] M (some (.int r2)) M2 := by
  refine cz_Met (by decide) rfl (Nat.le_of_ble_eq_true rfl) hD ?_
  intro p e s m args below meth c hargs S hr hlocks hP ls hl
  have S : cz_Cx p m c b_MO_send 4 s args cz_T "ChainPeersModel" X.1 mo_cl (mo_tys X) cz_N A (mo_wl X) := S
  have hx := S.1.1
  have hb := S.1.2.1
  have hS : va_S A s.heap s.heap [] := va_S.rf
  have hl : lv_has ls 4 [(0, .ref (X.2.1 0)), (1, .int a1)] := hl
  have hb78 : ∀ (n : Nat) (M : cz_M) (v2 : Int32), cz_lp2 (l_MO_send_78 a1) n M v2 = some (r2, M2) → ∀ (H : Heap) (locs : List Loc) (ls : Array Slot), va_P X.1 mo_cl (mo_wl X M) H → va_S A s.heap H locs → lv_has ls 4 [(0, .ref (X.2.1 0)), (1, .int a1), (2, .int v2)] → W p l e rm_MO_send s m args below meth c H locs 0 0 (MQ below (cz_Qw X.1 mo_cl (some (.int r2)) (mo_wl X M2) A) args s 0 0 A) (F0 m 78 ls []) := by
    refine cz_ind2 (fun rec78 ih78 M v2 h H locs ls hP hS hl => ?_)
    have hb145 : ∀ (M : cz_M) (v2 : Int32), b_MO_send_145 a1 rec78 M v2 = some (r2, M2) → ∀ (H : Heap) (locs : List Loc) (ls : Array Slot), va_P X.1 mo_cl (mo_wl X M) H → va_S A s.heap H locs → lv_has ls 4 [(0, .ref (X.2.1 0)), (1, .int a1), (2, .int v2)] → W p l e rm_MO_send s m args below meth c H locs 0 0 (MQ below (cz_Qw X.1 mo_cl (some (.int r2)) (mo_wl X M2) A) args s 0 0 A) (F0 m 145 ls []) := by
      intro M v2 h H locs ls hP hS hl
      refine lv_iinc (lv' := [(2, .int (v2 + 1)), (0, .ref (X.2.1 0)), (1, .int a1)]) (v := v2 + 1) (k := 2) hx hb d_MO_send_145 hl rfl (cz_inc1 _) (by decide) rfl (fun ls hl => ?_)
      refine lv_goto (tgt := 78) hx hb d_MO_send_148 rfl ?_
      exact ih78 M (v2 + 1) h _ _ _ hP hS (lv_sub hl [1, 2, 0] rfl)
    have hb108 : ∀ (n : Nat) (M : cz_M) (v2 : Int32) (v3 : Int32), cz_lp3 (l_MO_send_108 a1 rec78) n M v2 v3 = some (r2, M2) → ∀ (H : Heap) (locs : List Loc) (ls : Array Slot), va_P X.1 mo_cl (mo_wl X M) H → va_S A s.heap H locs → lv_has ls 4 [(0, .ref (X.2.1 0)), (1, .int a1), (2, .int v2), (3, .int v3)] → W p l e rm_MO_send s m args below meth c H locs 0 0 (MQ below (cz_Qw X.1 mo_cl (some (.int r2)) (mo_wl X M2) A) args s 0 0 A) (F0 m 108 ls []) := by
      refine cz_ind3 (fun rec108 ih108 M v2 v3 h H locs ls hP hS hl => ?_)
      refine lv_iload_n hx hb d_MO_send_108 rfl (lv_at hl 3 rfl) ?_
      refine lv_bipush (v := 56) hx hb d_MO_send_109 (by decide) ?_
      refine lv_icmp_ge (tgt := 145) hx hb d_MO_send_111 rfl (fun hc => ?_) (fun hc => ?_)
      · have h := cz_t hc h
        exact hb145 M v2 h _ _ _ hP hS (lv_sub hl [0, 1, 2] rfl)
      have h := cz_f hc h
      refine lv_aload_n hx hb d_MO_send_114 rfl (lv_at hl 0 rfl) ?_
      refine gf_MO_49 S hP d_MO_send_115 ?_
      refine lv_bipush (v := 56) hx hb d_MO_send_118 (by decide) ?_
      refine lv_iload_n hx hb d_MO_send_120 rfl (lv_at hl 2 rfl) ?_
      refine lv_imul hx hb d_MO_send_121 ?_
      refine lv_iload_n hx hb d_MO_send_122 rfl (lv_at hl 3 rfl) ?_
      refine lv_iadd hx hb d_MO_send_123 ?_
      refine lv_aload_n hx hb d_MO_send_124 rfl (lv_at hl 0 rfl) ?_
      refine gf_MO_49 S hP d_MO_send_125 ?_
      refine lv_bipush (v := 56) hx hb d_MO_send_128 (by decide) ?_
      refine lv_iload_n hx hb d_MO_send_130 rfl (lv_at hl 2 rfl) ?_
      refine lv_imul hx hb d_MO_send_131 ?_
      refine lv_bipush (v := 56) hx hb d_MO_send_132 (by decide) ?_
      refine lv_iadd hx hb d_MO_send_134 ?_
      refine lv_iload_n hx hb d_MO_send_135 rfl (lv_at hl 3 rfl) ?_
      refine lv_iadd hx hb d_MO_send_136 ?_
      obtain ⟨hin137, h⟩ := cz_ck h
      refine mo_ia S hP mo_k14 hin137 d_MO_send_137 ?_
      obtain ⟨hin138, h⟩ := cz_ck h
      refine mo_is S hP hS mo_k14 hin138 d_MO_send_138 (fun H locs hP hS => ?_)
      refine lv_iinc (lv' := [(3, .int (v3 + 1)), (0, .ref (X.2.1 0)), (1, .int a1), (2, .int v2)]) (v := v3 + 1) (k := 3) hx hb d_MO_send_139 hl rfl (cz_inc1 _) (by decide) rfl (fun ls hl => ?_)
      refine lv_goto (tgt := 108) hx hb d_MO_send_142 rfl ?_
      exact ih108 (cz_i M 14 (((56 : Int32) * v2) + v3).toNatClampNeg (M.1 14 ((((56 : Int32) * v2) + (56 : Int32)) + v3).toNatClampNeg)) v2 (v3 + 1) h _ _ _ hP hS (lv_sub hl [1, 2, 3, 0] rfl)
    refine lv_iload_n hx hb d_MO_send_78 rfl (lv_at hl 2 rfl) ?_
    refine lv_iconst (v := 4) hx hb d_MO_send_79 (by decide) ?_
    refine lv_iload_n hx hb d_MO_send_80 rfl (lv_at hl 1 rfl) ?_
    refine lv_imul hx hb d_MO_send_81 ?_
    refine lv_aload_n hx hb d_MO_send_82 rfl (lv_at hl 0 rfl) ?_
    refine gf_MO_43 S hP d_MO_send_83 ?_
    refine lv_iload_n hx hb d_MO_send_86 rfl (lv_at hl 1 rfl) ?_
    obtain ⟨hin87, h⟩ := cz_ck h
    refine mo_ia S hP mo_k12 hin87 d_MO_send_87 ?_
    refine lv_iadd hx hb d_MO_send_88 ?_
    refine lv_icmp_ge (tgt := 151) hx hb d_MO_send_89 rfl (fun hc => ?_) (fun hc => ?_)
    · have h := cz_t hc h
      refine lv_aload_n hx hb d_MO_send_151 rfl (lv_at hl 0 rfl) ?_
      refine gf_MO_117 S hP d_MO_send_152 ?_
      exact cz_ireth S hr hlocks hP hS h d_MO_send_155
    have h := cz_f hc h
    refine lv_aload_n hx hb d_MO_send_92 rfl (lv_at hl 0 rfl) ?_
    refine gf_MO_46 S hP d_MO_send_93 ?_
    refine lv_iload_n hx hb d_MO_send_96 rfl (lv_at hl 2 rfl) ?_
    refine lv_aload_n hx hb d_MO_send_97 rfl (lv_at hl 0 rfl) ?_
    refine gf_MO_46 S hP d_MO_send_98 ?_
    refine lv_iload_n hx hb d_MO_send_101 rfl (lv_at hl 2 rfl) ?_
    refine lv_iconst (v := 1) hx hb d_MO_send_102 (by decide) ?_
    refine lv_iadd hx hb d_MO_send_103 ?_
    obtain ⟨hin104, h⟩ := cz_ck h
    refine mo_ia S hP mo_k13 hin104 d_MO_send_104 ?_
    obtain ⟨hin105, h⟩ := cz_ck h
    refine mo_is S hP hS mo_k13 hin105 d_MO_send_105 (fun H locs hP hS => ?_)
    refine lv_iconst (v := 0) hx hb d_MO_send_106 (by decide) ?_
    refine lv_istore_n (lv' := [(3, .int (0 : Int32)), (0, .ref (X.2.1 0)), (1, .int a1), (2, .int v2)]) hx hb d_MO_send_107 rfl hl (by decide) rfl (fun ls hl => ?_)
    exact hb108 _ (cz_i M 13 v2.toNatClampNeg (M.1 13 (v2 + (1 : Int32)).toNatClampNeg)) v2 (0 : Int32) h _ _ _ hP hS (lv_sub hl [1, 2, 3, 0] rfl)
  have hb64 : ∀ (M : cz_M), b_MO_send_64 a1 M = some (r2, M2) → ∀ (H : Heap) (locs : List Loc) (ls : Array Slot), va_P X.1 mo_cl (mo_wl X M) H → va_S A s.heap H locs → lv_has ls 4 [(0, .ref (X.2.1 0)), (1, .int a1)] → W p l e rm_MO_send s m args below meth c H locs 0 0 (MQ below (cz_Qw X.1 mo_cl (some (.int r2)) (mo_wl X M2) A) args s 0 0 A) (F0 m 64 ls []) := by
    intro M h H locs ls hP hS hl
    refine lv_aload_n hx hb d_MO_send_64 rfl (lv_at hl 0 rfl) ?_
    refine gf_MO_43 S hP d_MO_send_65 ?_
    refine lv_iload_n hx hb d_MO_send_68 rfl (lv_at hl 1 rfl) ?_
    refine lv_dup2_11 hx hb d_MO_send_69 rfl rfl ?_
    obtain ⟨hin70, h⟩ := cz_ck h
    refine mo_ia S hP mo_k12 hin70 d_MO_send_70 ?_
    refine lv_iconst (v := 1) hx hb d_MO_send_71 (by decide) ?_
    refine lv_isub hx hb d_MO_send_72 ?_
    obtain ⟨hin73, h⟩ := cz_ck h
    refine mo_is S hP hS mo_k12 hin73 d_MO_send_73 (fun H locs hP hS => ?_)
    refine lv_iconst (v := 4) hx hb d_MO_send_74 (by decide) ?_
    refine lv_iload_n hx hb d_MO_send_75 rfl (lv_at hl 1 rfl) ?_
    refine lv_imul hx hb d_MO_send_76 ?_
    refine lv_istore_n (lv' := [(2, .int ((4 : Int32) * a1)), (0, .ref (X.2.1 0)), (1, .int a1)]) hx hb d_MO_send_77 rfl hl (by decide) rfl (fun ls hl => ?_)
    exact hb78 _ (cz_i M 12 a1.toNatClampNeg ((M.1 12 a1.toNatClampNeg) - (1 : Int32))) ((4 : Int32) * a1) h _ _ _ hP hS (lv_sub hl [1, 2, 0] rfl)
  have hb32 : ∀ (n : Nat) (M : cz_M) (v2 : Int32), cz_lp2 (l_MO_send_32 a1) n M v2 = some (r2, M2) → ∀ (H : Heap) (locs : List Loc) (ls : Array Slot), va_P X.1 mo_cl (mo_wl X M) H → va_S A s.heap H locs → lv_has ls 4 [(0, .ref (X.2.1 0)), (1, .int a1), (2, .int v2)] → W p l e rm_MO_send s m args below meth c H locs 0 0 (MQ below (cz_Qw X.1 mo_cl (some (.int r2)) (mo_wl X M2) A) args s 0 0 A) (F0 m 32 ls []) := by
    refine cz_ind2 (fun rec32 ih32 M v2 h H locs ls hP hS hl => ?_)
    refine lv_iload_n hx hb d_MO_send_32 rfl (lv_at hl 2 rfl) ?_
    refine lv_aload_n hx hb d_MO_send_33 rfl (lv_at hl 0 rfl) ?_
    refine gf_MO_117 S hP d_MO_send_34 ?_
    refine lv_icmp_ge (tgt := 64) hx hb d_MO_send_37 rfl (fun hc => ?_) (fun hc => ?_)
    · have h := cz_t hc h
      exact hb64 M h _ _ _ hP hS (lv_sub hl [0, 1] rfl)
    have h := cz_f hc h
    refine lv_aload_n hx hb d_MO_send_40 rfl (lv_at hl 0 rfl) ?_
    refine gf_MO_52 S hP d_MO_send_41 ?_
    refine lv_iload_n hx hb d_MO_send_44 rfl (lv_at hl 2 rfl) ?_
    refine lv_aload_n hx hb d_MO_send_45 rfl (lv_at hl 0 rfl) ?_
    refine gf_MO_49 S hP d_MO_send_46 ?_
    refine lv_sipush (v := 224) hx hb d_MO_send_49 (by decide) ?_
    refine lv_iload_n hx hb d_MO_send_52 rfl (lv_at hl 1 rfl) ?_
    refine lv_imul hx hb d_MO_send_53 ?_
    refine lv_iload_n hx hb d_MO_send_54 rfl (lv_at hl 2 rfl) ?_
    refine lv_iadd hx hb d_MO_send_55 ?_
    obtain ⟨hin56, h⟩ := cz_ck h
    refine mo_ia S hP mo_k14 hin56 d_MO_send_56 ?_
    obtain ⟨hin57, h⟩ := cz_ck h
    refine mo_is S hP hS mo_k15 hin57 d_MO_send_57 (fun H locs hP hS => ?_)
    refine lv_iinc (lv' := [(2, .int (v2 + 1)), (0, .ref (X.2.1 0)), (1, .int a1)]) (v := v2 + 1) (k := 2) hx hb d_MO_send_58 hl rfl (cz_inc1 _) (by decide) rfl (fun ls hl => ?_)
    refine lv_goto (tgt := 32) hx hb d_MO_send_61 rfl ?_
    exact ih32 (cz_i M 15 v2.toNatClampNeg (M.1 14 (((224 : Int32) * a1) + v2).toNatClampNeg)) (v2 + 1) h _ _ _ hP hS (lv_sub hl [1, 2, 0] rfl)
  refine lv_iload_n hx hb d_MO_send_0 rfl (lv_at hl 1 rfl) ?_
  obtain ⟨r1, M1, hq1, h⟩ := cz_ubi h
  refine iv_MO_114 (rest := []) S hl.1 hP hS (c_MO_isPeer l hD M a1 hq1) ⟨Nat.le_of_ble_eq_true rfl, Nat.le_of_ble_eq_true rfl⟩ (Nat.le_of_ble_eq_true rfl) rfl d_MO_send_1 (fun H locs hP hS => ?_)
  refine lv_if_eq (tgt := 16) hx hb d_MO_send_4 rfl (fun hc => ?_) (fun hc => ?_)
  · have h := cz_t hc h
    refine lv_iconst (v := -1) hx hb d_MO_send_16 (by decide) ?_
    exact cz_ireth S hr hlocks hP hS h d_MO_send_17
  have h := cz_f hc h
  refine lv_aload_n hx hb d_MO_send_7 rfl (lv_at hl 0 rfl) ?_
  refine gf_MO_43 S hP d_MO_send_8 ?_
  refine lv_iload_n hx hb d_MO_send_11 rfl (lv_at hl 1 rfl) ?_
  obtain ⟨hin12, h⟩ := cz_ck h
  refine mo_ia S hP mo_k12 hin12 d_MO_send_12 ?_
  refine lv_if_ne (tgt := 18) hx hb d_MO_send_13 rfl (fun hc => ?_) (fun hc => ?_)
  · have h := cz_f hc h
    refine lv_aload_n hx hb d_MO_send_18 rfl (lv_at hl 0 rfl) ?_
    refine lv_aload_n hx hb d_MO_send_19 rfl (lv_at hl 0 rfl) ?_
    refine gf_MO_46 S hP d_MO_send_20 ?_
    refine lv_iconst (v := 4) hx hb d_MO_send_23 (by decide) ?_
    refine lv_iload_n hx hb d_MO_send_24 rfl (lv_at hl 1 rfl) ?_
    refine lv_imul hx hb d_MO_send_25 ?_
    obtain ⟨hin26, h⟩ := cz_ck h
    refine mo_ia S hP mo_k13 hin26 d_MO_send_26 ?_
    refine pf_MO_117 S hP hS d_MO_send_27 (fun H locs hP hS => ?_)
    refine lv_iconst (v := 0) hx hb d_MO_send_30 (by decide) ?_
    refine lv_istore_n (lv' := [(2, .int (0 : Int32)), (0, .ref (X.2.1 0)), (1, .int a1)]) hx hb d_MO_send_31 rfl hl (by decide) rfl (fun ls hl => ?_)
    exact hb32 _ (cz_i M1 0 19 (M1.1 13 ((4 : Int32) * a1).toNatClampNeg)) (0 : Int32) h _ _ _ hP hS (lv_sub hl [1, 2, 0] rfl)
  have h := cz_t hc h
  refine lv_iconst (v := -1) hx hb d_MO_send_16 (by decide) ?_
  exact cz_ireth S hr hlocks hP hS h d_MO_send_17
set_option maxHeartbeats 4000000 in
set_option maxRecDepth 100000 in
theorem c_MO_put (l : Launch) {X : cz_X} {A : Nat → Prop} (hD : ∀ M, va_D A (mo_wl X M)) (M : cz_M) (a1 : Int32) (a2 : Int64) {r2 : Int32} {M2 : cz_M} (h : f_MO_put M a1 a2 = some (r2, M2)) : mo_Ct l X A y_MO_put (Cond.code y_MO_put b_MO_put 5 (some .boolean) :: cz_T) rm_MO_put [.ref (X.2.1 0), .int a1, .long a2] M (some (.int r2)) M2 := by
  refine cz_Met (by decide) rfl (Nat.le_of_ble_eq_true rfl) hD ?_
  intro p e s m args below meth c hargs S hr hlocks hP ls hl
  have S : cz_Cx p m c b_MO_put 5 s args cz_T "ChainPeersModel" X.1 mo_cl (mo_tys X) cz_N A (mo_wl X) := S
  have hx := S.1.1
  have hb := S.1.2.1
  have hS : va_S A s.heap s.heap [] := va_S.rf
  have hl : lv_has ls 5 [(0, .ref (X.2.1 0)), (1, .int a1), (2, .long a2)] := hl
  have hb29 : ∀ (n : Nat) (M : cz_M) (v4 : Int32), cz_lp2 (l_MO_put_29 a1 a2) n M v4 = some (r2, M2) → ∀ (H : Heap) (locs : List Loc) (ls : Array Slot), va_P X.1 mo_cl (mo_wl X M) H → va_S A s.heap H locs → lv_has ls 5 [(0, .ref (X.2.1 0)), (2, .long a2), (4, .int v4)] → W p l e rm_MO_put s m args below meth c H locs 0 0 (MQ below (cz_Qw X.1 mo_cl (some (.int r2)) (mo_wl X M2) A) args s 0 0 A) (F0 m 29 ls []) := by
    refine cz_ind2 (fun rec29 ih29 M v4 h H locs ls hP hS hl => ?_)
    refine lv_iload hx hb d_MO_put_29 (lv_at hl 2 rfl) ?_
    refine lv_if_lt (tgt := 71) hx hb d_MO_put_31 rfl (fun hc => ?_) (fun hc => ?_)
    · have h := cz_t hc h
      refine lv_iconst (v := 1) hx hb d_MO_put_71 (by decide) ?_
      exact cz_zreth S hr hlocks hP hS h rfl d_MO_put_72
    have h := cz_f hc h
    refine lv_aload_n hx hb d_MO_put_34 rfl (lv_at hl 0 rfl) ?_
    refine gf_MO_52 S hP d_MO_put_35 ?_
    refine lv_aload_n hx hb d_MO_put_38 rfl (lv_at hl 0 rfl) ?_
    refine gf_MO_117 S hP d_MO_put_39 ?_
    refine lv_lload_n hx hb d_MO_put_42 rfl (lv_at hl 1 rfl) ?_
    refine lv_bipush (v := 8) hx hb d_MO_put_43 (by decide) ?_
    refine lv_iload hx hb d_MO_put_45 (lv_at hl 2 rfl) ?_
    refine lv_imul hx hb d_MO_put_47 ?_
    refine lv_lshr (v := cz_lshr a2 ((8 : Int32) * v4)) hx hb d_MO_put_48 rfl ?_
    refine lv_l2i (v := (cz_lshr a2 ((8 : Int32) * v4)).toInt32) hx hb d_MO_put_49 rfl ?_
    refine lv_sipush (v := 255) hx hb d_MO_put_50 (by decide) ?_
    refine lv_iand hx hb d_MO_put_53 ?_
    obtain ⟨hin54, h⟩ := cz_ck h
    refine mo_is S hP hS mo_k15 hin54 d_MO_put_54 (fun H locs hP hS => ?_)
    refine lv_aload_n hx hb d_MO_put_55 rfl (lv_at hl 0 rfl) ?_
    refine lv_dup hx hb d_MO_put_56 rfl ?_
    refine gf_MO_117 S hP d_MO_put_57 ?_
    refine lv_iconst (v := 1) hx hb d_MO_put_60 (by decide) ?_
    refine lv_iadd hx hb d_MO_put_61 ?_
    refine pf_MO_117 S hP hS d_MO_put_62 (fun H locs hP hS => ?_)
    refine lv_iinc (lv' := [(4, .int (v4 - 1)), (0, .ref (X.2.1 0)), (2, .long a2)]) (v := v4 - 1) (k := 2) hx hb d_MO_put_65 hl rfl (cz_incm1 _) (by decide) rfl (fun ls hl => ?_)
    refine lv_goto (tgt := 29) hx hb d_MO_put_68 rfl ?_
    exact ih29 (cz_i (cz_i M 15 (M.1 0 19).toNatClampNeg (((cz_lshr a2 ((8 : Int32) * v4)).toInt32) &&& (255 : Int32))) 0 19 (((cz_i M 15 (M.1 0 19).toNatClampNeg (((cz_lshr a2 ((8 : Int32) * v4)).toInt32) &&& (255 : Int32))).1 0 19) + (1 : Int32))) (v4 - 1) h _ _ _ hP hS (lv_sub hl [1, 2, 0] rfl)
  refine lv_iload_n hx hb d_MO_put_0 rfl (lv_at hl 1 rfl) ?_
  refine lv_iconst (v := 1) hx hb d_MO_put_1 (by decide) ?_
  refine lv_icmp_lt (tgt := 22) hx hb d_MO_put_2 rfl (fun hc => ?_) (fun hc => ?_)
  · have h := cz_t hc h
    refine lv_iconst (v := 0) hx hb d_MO_put_22 (by decide) ?_
    exact cz_zreth S hr hlocks hP hS h rfl d_MO_put_23
  have h := cz_f hc h
  refine lv_iload_n hx hb d_MO_put_5 rfl (lv_at hl 1 rfl) ?_
  refine lv_bipush (v := 8) hx hb d_MO_put_6 (by decide) ?_
  refine lv_icmp_gt (tgt := 22) hx hb d_MO_put_8 rfl (fun hc => ?_) (fun hc => ?_)
  · have h := cz_t hc h
    refine lv_iconst (v := 0) hx hb d_MO_put_22 (by decide) ?_
    exact cz_zreth S hr hlocks hP hS h rfl d_MO_put_23
  have h := cz_f hc h
  refine lv_aload_n hx hb d_MO_put_11 rfl (lv_at hl 0 rfl) ?_
  refine gf_MO_117 S hP d_MO_put_12 ?_
  refine lv_iload_n hx hb d_MO_put_15 rfl (lv_at hl 1 rfl) ?_
  refine lv_iadd hx hb d_MO_put_16 ?_
  refine lv_bipush (v := 56) hx hb d_MO_put_17 (by decide) ?_
  refine lv_icmp_le (tgt := 24) hx hb d_MO_put_19 rfl (fun hc => ?_) (fun hc => ?_)
  · have h := cz_t hc h
    refine lv_iload_n hx hb d_MO_put_24 rfl (lv_at hl 1 rfl) ?_
    refine lv_iconst (v := 1) hx hb d_MO_put_25 (by decide) ?_
    refine lv_isub hx hb d_MO_put_26 ?_
    refine lv_istore (lv' := [(4, .int (a1 - (1 : Int32))), (0, .ref (X.2.1 0)), (1, .int a1), (2, .long a2)]) hx hb d_MO_put_27 hl (by decide) rfl (fun ls hl => ?_)
    exact hb29 _ M (a1 - (1 : Int32)) h _ _ _ hP hS (lv_sub hl [1, 3, 0] rfl)
  have h := cz_f hc h
  refine lv_iconst (v := 0) hx hb d_MO_put_22 (by decide) ?_
  exact cz_zreth S hr hlocks hP hS h rfl d_MO_put_23
set_option maxHeartbeats 4000000 in
set_option maxRecDepth 100000 in
theorem c_MO_clear (l : Launch) {X : cz_X} {A : Nat → Prop} (hD : ∀ M, va_D A (mo_wl X M)) (M : cz_M) {M2 : cz_M} (h : f_MO_clear M = some M2) : mo_Ct l X A y_MO_clear (Cond.code y_MO_clear b_MO_clear 1 none :: cz_T) rm_MO_clear [.ref (X.2.1 0)] M none M2 := by
  refine cz_Met (by decide) rfl (Nat.le_of_ble_eq_true rfl) hD ?_
  intro p e s m args below meth c hargs S hr hlocks hP ls hl
  have S : cz_Cx p m c b_MO_clear 1 s args cz_T "ChainPeersModel" X.1 mo_cl (mo_tys X) cz_N A (mo_wl X) := S
  have hx := S.1.1
  have hb := S.1.2.1
  have hS : va_S A s.heap s.heap [] := va_S.rf
  have hl : lv_has ls 1 [(0, .ref (X.2.1 0))] := hl
  refine lv_aload_n hx hb d_MO_clear_0 rfl (lv_at hl 0 rfl) ?_
  refine lv_iconst (v := 0) hx hb d_MO_clear_1 (by decide) ?_
  refine pf_MO_117 S hP hS d_MO_clear_2 (fun H locs hP hS => ?_)
  exact cz_vreth S hr hlocks hP hS h d_MO_clear_5
set_option maxHeartbeats 4000000 in
set_option maxRecDepth 100000 in
theorem c_MO_wire (l : Launch) {X : cz_X} {A : Nat → Prop} (hD : ∀ M, va_D A (mo_wl X M)) (M : cz_M) (a1 : Int32) {r2 : Int32} {M2 : cz_M} (h : f_MO_wire M a1 = some (r2, M2)) : mo_Ct l X A y_MO_wire (Cond.code y_MO_wire b_MO_wire 2 (some .int) :: cz_T) rm_MO_wire [.ref (X.2.1 0), .int a1] M (some (.int r2)) M2 := by
  refine cz_Met (by decide) rfl (Nat.le_of_ble_eq_true rfl) hD ?_
  intro p e s m args below meth c hargs S hr hlocks hP ls hl
  have S : cz_Cx p m c b_MO_wire 2 s args cz_T "ChainPeersModel" X.1 mo_cl (mo_tys X) cz_N A (mo_wl X) := S
  have hx := S.1.1
  have hb := S.1.2.1
  have hS : va_S A s.heap s.heap [] := va_S.rf
  have hl : lv_has ls 2 [(0, .ref (X.2.1 0)), (1, .int a1)] := hl
  have hb24 : ∀ (M : cz_M), b_MO_wire_24 a1 M = some (r2, M2) → ∀ (H : Heap) (locs : List Loc) (ls : Array Slot), va_P X.1 mo_cl (mo_wl X M) H → va_S A s.heap H locs → lv_has ls 2 [] → W p l e rm_MO_wire s m args below meth c H locs 0 0 (MQ below (cz_Qw X.1 mo_cl (some (.int r2)) (mo_wl X M2) A) args s 0 0 A) (F0 m 24 ls []) := by
    intro M h H locs ls hP hS hl
    refine lv_iconst (v := -1) hx hb d_MO_wire_24 (by decide) ?_
    refine lv_goto (tgt := 34) hx hb d_MO_wire_25 rfl ?_
    exact cz_ireth S hr hlocks hP hS h d_MO_wire_34
  refine lv_iload_n hx hb d_MO_wire_0 rfl (lv_at hl 1 rfl) ?_
  refine lv_iconst (v := -1) hx hb d_MO_wire_1 (by decide) ?_
  refine lv_icmp_ne (tgt := 12) hx hb d_MO_wire_2 rfl (fun hc => ?_) (fun hc => ?_)
  · have h := cz_f hc h
    refine lv_iload_n hx hb d_MO_wire_12 rfl (lv_at hl 1 rfl) ?_
    refine lv_if_lt (tgt := 24) hx hb d_MO_wire_13 rfl (fun hc => ?_) (fun hc => ?_)
    · have h := cz_t hc h
      exact hb24 M h _ _ _ hP hS (lv_sub hl [] rfl)
    have h := cz_f hc h
    refine lv_iload_n hx hb d_MO_wire_16 rfl (lv_at hl 1 rfl) ?_
    refine lv_aload_n hx hb d_MO_wire_17 rfl (lv_at hl 0 rfl) ?_
    refine gf_MO_117 S hP d_MO_wire_18 ?_
    refine lv_icmp_lt (tgt := 28) hx hb d_MO_wire_21 rfl (fun hc => ?_) (fun hc => ?_)
    · have h := cz_t hc h
      refine lv_aload_n hx hb d_MO_wire_28 rfl (lv_at hl 0 rfl) ?_
      refine gf_MO_52 S hP d_MO_wire_29 ?_
      refine lv_iload_n hx hb d_MO_wire_32 rfl (lv_at hl 1 rfl) ?_
      obtain ⟨hin33, h⟩ := cz_ck h
      refine mo_ia S hP mo_k15 hin33 d_MO_wire_33 ?_
      exact cz_ireth S hr hlocks hP hS h d_MO_wire_34
    have h := cz_f hc h
    exact hb24 M h _ _ _ hP hS (lv_sub hl [] rfl)
  have h := cz_t hc h
  refine lv_aload_n hx hb d_MO_wire_5 rfl (lv_at hl 0 rfl) ?_
  refine gf_MO_117 S hP d_MO_wire_6 ?_
  refine lv_goto (tgt := 34) hx hb d_MO_wire_9 rfl ?_
  exact cz_ireth S hr hlocks hP hS h d_MO_wire_34
set_option maxHeartbeats 4000000 in
set_option maxRecDepth 100000 in
theorem c_MO_number (l : Launch) {X : cz_X} {A : Nat → Prop} (hD : ∀ M, va_D A (mo_wl X M)) (M : cz_M) (a1 : Int32) {r2 : Int32} {M2 : cz_M} (h : f_MO_number M a1 = some (r2, M2)) : mo_Ct l X A y_MO_number (Cond.code y_MO_number b_MO_number 7 (some .boolean) :: cz_T) rm_MO_number [.ref (X.2.1 0), .int a1] M (some (.int r2)) M2 := by
  refine cz_Met (by decide) rfl (Nat.le_of_ble_eq_true rfl) hD ?_
  intro p e s m args below meth c hargs S hr hlocks hP ls hl
  have S : cz_Cx p m c b_MO_number 7 s args cz_T "ChainPeersModel" X.1 mo_cl (mo_tys X) cz_N A (mo_wl X) := S
  have hx := S.1.1
  have hb := S.1.2.1
  have hS : va_S A s.heap s.heap [] := va_S.rf
  have hl : lv_has ls 7 [(0, .ref (X.2.1 0)), (1, .int a1)] := hl
  have hb151 : ∀ (M : cz_M) (v3 : Int32) (w4 : Int64) (s0 : Int32), b_MO_number_151 a1 M v3 w4 s0 = some (r2, M2) → ∀ (H : Heap) (locs : List Loc) (ls : Array Slot), va_P X.1 mo_cl (mo_wl X M) H → va_S A s.heap H locs → lv_has ls 7 [(0, .ref (X.2.1 0)), (3, .int v3), (4, .long w4)] → W p l e rm_MO_number s m args below meth c H locs 0 0 (MQ below (cz_Qw X.1 mo_cl (some (.int r2)) (mo_wl X M2) A) args s 0 0 A) (F0 m 151 ls [.int s0]) := by
    intro M v3 w4 s0 h H locs ls hP hS hl
    refine lv_istore (lv' := [(6, .int s0), (0, .ref (X.2.1 0)), (3, .int v3), (4, .long w4)]) hx hb d_MO_number_151 hl (by decide) rfl (fun ls hl => ?_)
    refine lv_aload_n hx hb d_MO_number_153 rfl (lv_at hl 1 rfl) ?_
    refine lv_dup hx hb d_MO_number_154 rfl ?_
    refine gf_MO_120 S hP d_MO_number_155 ?_
    refine lv_iload_n hx hb d_MO_number_158 rfl (lv_at hl 2 rfl) ?_
    refine lv_iadd hx hb d_MO_number_159 ?_
    refine pf_MO_120 S hP hS d_MO_number_160 (fun H locs hP hS => ?_)
    refine lv_aload_n hx hb d_MO_number_163 rfl (lv_at hl 1 rfl) ?_
    refine lv_lload hx hb d_MO_number_164 (lv_at hl 3 rfl) ?_
    refine lv_l2i (v := w4.toInt32) hx hb d_MO_number_166 rfl ?_
    refine pf_MO_123 S hP hS d_MO_number_167 (fun H locs hP hS => ?_)
    refine lv_iload hx hb d_MO_number_170 (lv_at hl 0 rfl) ?_
    refine lv_if_ne (tgt := 188) hx hb d_MO_number_172 rfl (fun hc => ?_) (fun hc => ?_)
    · have h := cz_f hc h
      refine lv_iconst (v := 0) hx hb d_MO_number_188 (by decide) ?_
      exact cz_zreth S hr hlocks hP hS h rfl d_MO_number_189
    have h := cz_t hc h
    refine lv_lload hx hb d_MO_number_175 (lv_at hl 3 rfl) ?_
    refine lv_ldc2 (v := 2147483647) hx hb S.1.2.2.2.1 (S.1.2.2.2.2 _ mw_740) d_MO_number_177 ?_
    refine W.lcmp hx hb d_MO_number_180 ?_
    refine lv_if_gt (tgt := 188) hx hb d_MO_number_181 rfl (fun hc => ?_) (fun hc => ?_)
    · have h := cz_t hc h
      refine lv_iconst (v := 0) hx hb d_MO_number_188 (by decide) ?_
      exact cz_zreth S hr hlocks hP hS h rfl d_MO_number_189
    have h := cz_f hc h
    refine lv_iconst (v := 1) hx hb d_MO_number_184 (by decide) ?_
    refine lv_goto (tgt := 189) hx hb d_MO_number_185 rfl ?_
    exact cz_zreth S hr hlocks hP hS h rfl d_MO_number_189
  have hb150 : ∀ (M : cz_M) (v3 : Int32) (w4 : Int64), b_MO_number_150 a1 M v3 w4 = some (r2, M2) → ∀ (H : Heap) (locs : List Loc) (ls : Array Slot), va_P X.1 mo_cl (mo_wl X M) H → va_S A s.heap H locs → lv_has ls 7 [(0, .ref (X.2.1 0)), (3, .int v3), (4, .long w4)] → W p l e rm_MO_number s m args below meth c H locs 0 0 (MQ below (cz_Qw X.1 mo_cl (some (.int r2)) (mo_wl X M2) A) args s 0 0 A) (F0 m 150 ls []) := by
    intro M v3 w4 h H locs ls hP hS hl
    refine lv_iconst (v := 0) hx hb d_MO_number_150 (by decide) ?_
    exact hb151 M v3 w4 (0 : Int32) h _ _ _ hP hS (lv_sub hl [0, 1, 2] rfl)
  have hb146 : ∀ (M : cz_M) (v3 : Int32) (w4 : Int64), b_MO_number_146 a1 M v3 w4 = some (r2, M2) → ∀ (H : Heap) (locs : List Loc) (ls : Array Slot), va_P X.1 mo_cl (mo_wl X M) H → va_S A s.heap H locs → lv_has ls 7 [(0, .ref (X.2.1 0)), (3, .int v3), (4, .long w4)] → W p l e rm_MO_number s m args below meth c H locs 0 0 (MQ below (cz_Qw X.1 mo_cl (some (.int r2)) (mo_wl X M2) A) args s 0 0 A) (F0 m 146 ls []) := by
    intro M v3 w4 h H locs ls hP hS hl
    refine lv_iconst (v := 1) hx hb d_MO_number_146 (by decide) ?_
    refine lv_goto (tgt := 151) hx hb d_MO_number_147 rfl ?_
    exact hb151 M v3 w4 (1 : Int32) h _ _ _ hP hS (lv_sub hl [0, 1, 2] rfl)
  have hb129 : ∀ (M : cz_M) (v3 : Int32) (w4 : Int64), b_MO_number_129 a1 M v3 w4 = some (r2, M2) → ∀ (H : Heap) (locs : List Loc) (ls : Array Slot), va_P X.1 mo_cl (mo_wl X M) H → va_S A s.heap H locs → lv_has ls 7 [(0, .ref (X.2.1 0)), (3, .int v3), (4, .long w4)] → W p l e rm_MO_number s m args below meth c H locs 0 0 (MQ below (cz_Qw X.1 mo_cl (some (.int r2)) (mo_wl X M2) A) args s 0 0 A) (F0 m 129 ls []) := by
    intro M v3 w4 h H locs ls hP hS hl
    refine lv_iload_n hx hb d_MO_number_129 rfl (lv_at hl 1 rfl) ?_
    refine lv_iconst (v := 1) hx hb d_MO_number_130 (by decide) ?_
    refine lv_icmp_le (tgt := 150) hx hb d_MO_number_131 rfl (fun hc => ?_) (fun hc => ?_)
    · have h := cz_t hc h
      exact hb150 M v3 w4 h _ _ _ hP hS (lv_sub hl [0, 1, 2] rfl)
    have h := cz_f hc h
    refine lv_aload_n hx hb d_MO_number_134 rfl (lv_at hl 0 rfl) ?_
    refine gf_MO_52 S hP d_MO_number_135 ?_
    refine lv_aload_n hx hb d_MO_number_138 rfl (lv_at hl 0 rfl) ?_
    refine gf_MO_120 S hP d_MO_number_139 ?_
    obtain ⟨hin142, h⟩ := cz_ck h
    refine mo_ia S hP mo_k15 hin142 d_MO_number_142 ?_
    refine lv_if_ne (tgt := 150) hx hb d_MO_number_143 rfl (fun hc => ?_) (fun hc => ?_)
    · have h := cz_f hc h
      exact hb150 M v3 w4 h _ _ _ hP hS (lv_sub hl [0, 1, 2] rfl)
    have h := cz_t hc h
    exact hb146 M v3 w4 h _ _ _ hP hS (lv_sub hl [0, 1, 2] rfl)
  have hb115 : ∀ (M : cz_M) (v3 : Int32) (w4 : Int64), b_MO_number_115 a1 M v3 w4 = some (r2, M2) → ∀ (H : Heap) (locs : List Loc) (ls : Array Slot), va_P X.1 mo_cl (mo_wl X M) H → va_S A s.heap H locs → lv_has ls 7 [(0, .ref (X.2.1 0)), (3, .int v3), (4, .long w4)] → W p l e rm_MO_number s m args below meth c H locs 0 0 (MQ below (cz_Qw X.1 mo_cl (some (.int r2)) (mo_wl X M2) A) args s 0 0 A) (F0 m 115 ls []) := by
    intro M v3 w4 h H locs ls hP hS hl
    refine lv_iload_n hx hb d_MO_number_115 rfl (lv_at hl 1 rfl) ?_
    refine lv_iconst (v := 1) hx hb d_MO_number_116 (by decide) ?_
    refine lv_icmp_ne (tgt := 129) hx hb d_MO_number_117 rfl (fun hc => ?_) (fun hc => ?_)
    · have h := cz_f hc h
      exact hb129 M v3 w4 h _ _ _ hP hS (lv_sub hl [0, 1, 2] rfl)
    have h := cz_t hc h
    refine lv_lload hx hb d_MO_number_120 (lv_at hl 2 rfl) ?_
    refine lv_ldc2 (v := 128) hx hb S.1.2.2.2.1 (S.1.2.2.2.2 _ mw_739) d_MO_number_122 ?_
    refine W.lcmp hx hb d_MO_number_125 ?_
    refine lv_if_lt (tgt := 146) hx hb d_MO_number_126 rfl (fun hc => ?_) (fun hc => ?_)
    · have h := cz_t hc h
      exact hb146 M v3 w4 h _ _ _ hP hS (lv_sub hl [0, 1, 2] rfl)
    have h := cz_f hc h
    exact hb129 M v3 w4 h _ _ _ hP hS (lv_sub hl [0, 1, 2] rfl)
  have hb81 : ∀ (n : Nat) (M : cz_M) (v3 : Int32) (w4 : Int64) (v6 : Int32), cz_lp4 (l_MO_number_81 a1) n M v3 w4 v6 = some (r2, M2) → ∀ (H : Heap) (locs : List Loc) (ls : Array Slot), va_P X.1 mo_cl (mo_wl X M) H → va_S A s.heap H locs → lv_has ls 7 [(0, .ref (X.2.1 0)), (3, .int v3), (4, .long w4), (6, .int v6)] → W p l e rm_MO_number s m args below meth c H locs 0 0 (MQ below (cz_Qw X.1 mo_cl (some (.int r2)) (mo_wl X M2) A) args s 0 0 A) (F0 m 81 ls []) := by
    refine cz_ind4 (fun rec81 ih81 M v3 w4 v6 h H locs ls hP hS hl => ?_)
    refine lv_iload hx hb d_MO_number_81 (lv_at hl 3 rfl) ?_
    refine lv_iload_n hx hb d_MO_number_83 rfl (lv_at hl 1 rfl) ?_
    refine lv_icmp_ge (tgt := 115) hx hb d_MO_number_84 rfl (fun hc => ?_) (fun hc => ?_)
    · have h := cz_t hc h
      exact hb115 M v3 w4 h _ _ _ hP hS (lv_sub hl [0, 1, 2] rfl)
    have h := cz_f hc h
    refine lv_lload hx hb d_MO_number_87 (lv_at hl 2 rfl) ?_
    refine lv_ldc2 (v := 256) hx hb S.1.2.2.2.1 (S.1.2.2.2.2 _ mw_738) d_MO_number_89 ?_
    refine lv_lmul hx hb d_MO_number_92 ?_
    refine lv_aload_n hx hb d_MO_number_93 rfl (lv_at hl 0 rfl) ?_
    refine gf_MO_52 S hP d_MO_number_94 ?_
    refine lv_aload_n hx hb d_MO_number_97 rfl (lv_at hl 0 rfl) ?_
    refine gf_MO_120 S hP d_MO_number_98 ?_
    refine lv_iload hx hb d_MO_number_101 (lv_at hl 3 rfl) ?_
    refine lv_iadd hx hb d_MO_number_103 ?_
    obtain ⟨hin104, h⟩ := cz_ck h
    refine mo_ia S hP mo_k15 hin104 d_MO_number_104 ?_
    refine lv_i2l (v := (M.1 15 ((M.1 0 21) + v6).toNatClampNeg).toInt64) hx hb d_MO_number_105 rfl ?_
    refine lv_ladd hx hb d_MO_number_106 ?_
    refine lv_lstore (lv' := [(4, .long ((w4 * (256 : Int64)) + ((M.1 15 ((M.1 0 21) + v6).toNatClampNeg).toInt64))), (0, .ref (X.2.1 0)), (3, .int v3), (6, .int v6)]) hx hb d_MO_number_107 hl (by decide) rfl (fun ls hl => ?_)
    refine lv_iinc (lv' := [(6, .int (v6 + 1)), (4, .long ((w4 * (256 : Int64)) + ((M.1 15 ((M.1 0 21) + v6).toNatClampNeg).toInt64))), (0, .ref (X.2.1 0)), (3, .int v3)]) (v := v6 + 1) (k := 3) hx hb d_MO_number_109 hl rfl (cz_inc1 _) (by decide) rfl (fun ls hl => ?_)
    refine lv_goto (tgt := 81) hx hb d_MO_number_112 rfl ?_
    exact ih81 M v3 ((w4 * (256 : Int64)) + ((M.1 15 ((M.1 0 21) + v6).toNatClampNeg).toInt64)) (v6 + 1) h _ _ _ hP hS (lv_sub hl [2, 3, 1, 0] rfl)
  have hb48 : ∀ (M : cz_M) (v2 : Int32), b_MO_number_48 a1 M v2 = some (r2, M2) → ∀ (H : Heap) (locs : List Loc) (ls : Array Slot), va_P X.1 mo_cl (mo_wl X M) H → va_S A s.heap H locs → lv_has ls 7 [(0, .ref (X.2.1 0)), (1, .int a1), (2, .int v2)] → W p l e rm_MO_number s m args below meth c H locs 0 0 (MQ below (cz_Qw X.1 mo_cl (some (.int r2)) (mo_wl X M2) A) args s 0 0 A) (F0 m 48 ls []) := by
    intro M v2 h H locs ls hP hS hl
    refine lv_iload_n hx hb d_MO_number_48 rfl (lv_at hl 2 rfl) ?_
    refine lv_sipush (v := 128) hx hb d_MO_number_49 (by decide) ?_
    refine lv_isub hx hb d_MO_number_52 ?_
    refine lv_istore_n (lv' := [(3, .int (v2 - (128 : Int32))), (0, .ref (X.2.1 0)), (1, .int a1), (2, .int v2)]) hx hb d_MO_number_53 rfl hl (by decide) rfl (fun ls hl => ?_)
    refine lv_iload_n hx hb d_MO_number_54 rfl (lv_at hl 0 rfl) ?_
    refine lv_if_lt (tgt := 73) hx hb d_MO_number_55 rfl (fun hc => ?_) (fun hc => ?_)
    · have h := cz_t hc h
      refine lv_iconst (v := 0) hx hb d_MO_number_73 (by decide) ?_
      exact cz_zreth S hr hlocks hP hS h rfl d_MO_number_74
    have h := cz_f hc h
    refine lv_iload_n hx hb d_MO_number_58 rfl (lv_at hl 0 rfl) ?_
    refine lv_iconst (v := 4) hx hb d_MO_number_59 (by decide) ?_
    refine lv_icmp_gt (tgt := 73) hx hb d_MO_number_60 rfl (fun hc => ?_) (fun hc => ?_)
    · have h := cz_t hc h
      refine lv_iconst (v := 0) hx hb d_MO_number_73 (by decide) ?_
      exact cz_zreth S hr hlocks hP hS h rfl d_MO_number_74
    have h := cz_f hc h
    refine lv_aload_n hx hb d_MO_number_63 rfl (lv_at hl 1 rfl) ?_
    refine gf_MO_120 S hP d_MO_number_64 ?_
    refine lv_iload_n hx hb d_MO_number_67 rfl (lv_at hl 0 rfl) ?_
    refine lv_iadd hx hb d_MO_number_68 ?_
    refine lv_iload_n hx hb d_MO_number_69 rfl (lv_at hl 2 rfl) ?_
    refine lv_icmp_le (tgt := 75) hx hb d_MO_number_70 rfl (fun hc => ?_) (fun hc => ?_)
    · have h := cz_t hc h
      refine lv_lconst (v := 0) hx hb d_MO_number_75 (by decide) ?_
      refine lv_lstore (lv' := [(4, .long (0 : Int64)), (3, .int (v2 - (128 : Int32))), (0, .ref (X.2.1 0)), (1, .int a1), (2, .int v2)]) hx hb d_MO_number_76 hl (by decide) rfl (fun ls hl => ?_)
      refine lv_iconst (v := 0) hx hb d_MO_number_78 (by decide) ?_
      refine lv_istore (lv' := [(6, .int (0 : Int32)), (4, .long (0 : Int64)), (3, .int (v2 - (128 : Int32))), (0, .ref (X.2.1 0)), (1, .int a1), (2, .int v2)]) hx hb d_MO_number_79 hl (by decide) rfl (fun ls hl => ?_)
      exact hb81 _ M (v2 - (128 : Int32)) (0 : Int64) (0 : Int32) h _ _ _ hP hS (lv_sub hl [3, 2, 1, 0] rfl)
    have h := cz_f hc h
    refine lv_iconst (v := 0) hx hb d_MO_number_73 (by decide) ?_
    exact cz_zreth S hr hlocks hP hS h rfl d_MO_number_74
  refine lv_aload_n hx hb d_MO_number_0 rfl (lv_at hl 0 rfl) ?_
  refine gf_MO_120 S hP d_MO_number_1 ?_
  refine lv_iload_n hx hb d_MO_number_4 rfl (lv_at hl 1 rfl) ?_
  refine lv_icmp_lt (tgt := 10) hx hb d_MO_number_5 rfl (fun hc => ?_) (fun hc => ?_)
  · have h := cz_t hc h
    refine lv_aload_n hx hb d_MO_number_10 rfl (lv_at hl 0 rfl) ?_
    refine gf_MO_52 S hP d_MO_number_11 ?_
    refine lv_aload_n hx hb d_MO_number_14 rfl (lv_at hl 0 rfl) ?_
    refine gf_MO_120 S hP d_MO_number_15 ?_
    obtain ⟨hin18, h⟩ := cz_ck h
    refine mo_ia S hP mo_k15 hin18 d_MO_number_18 ?_
    refine lv_istore_n (lv' := [(2, .int (M.1 15 (M.1 0 21).toNatClampNeg)), (0, .ref (X.2.1 0)), (1, .int a1)]) hx hb d_MO_number_19 rfl hl (by decide) rfl (fun ls hl => ?_)
    refine lv_aload_n hx hb d_MO_number_20 rfl (lv_at hl 1 rfl) ?_
    refine lv_dup hx hb d_MO_number_21 rfl ?_
    refine gf_MO_120 S hP d_MO_number_22 ?_
    refine lv_iconst (v := 1) hx hb d_MO_number_25 (by decide) ?_
    refine lv_iadd hx hb d_MO_number_26 ?_
    refine pf_MO_120 S hP hS d_MO_number_27 (fun H locs hP hS => ?_)
    refine lv_iload_n hx hb d_MO_number_30 rfl (lv_at hl 0 rfl) ?_
    refine lv_if_le (tgt := 48) hx hb d_MO_number_31 rfl (fun hc => ?_) (fun hc => ?_)
    · have h := cz_t hc h
      exact hb48 (cz_i M 0 21 ((M.1 0 21) + (1 : Int32))) (M.1 15 (M.1 0 21).toNatClampNeg) h _ _ _ hP hS (lv_sub hl [1, 2, 0] rfl)
    have h := cz_f hc h
    refine lv_iload_n hx hb d_MO_number_34 rfl (lv_at hl 0 rfl) ?_
    refine lv_sipush (v := 128) hx hb d_MO_number_35 (by decide) ?_
    refine lv_icmp_ge (tgt := 48) hx hb d_MO_number_38 rfl (fun hc => ?_) (fun hc => ?_)
    · have h := cz_t hc h
      exact hb48 (cz_i M 0 21 ((M.1 0 21) + (1 : Int32))) (M.1 15 (M.1 0 21).toNatClampNeg) h _ _ _ hP hS (lv_sub hl [1, 2, 0] rfl)
    have h := cz_f hc h
    refine lv_aload_n hx hb d_MO_number_41 rfl (lv_at hl 1 rfl) ?_
    refine lv_iload_n hx hb d_MO_number_42 rfl (lv_at hl 0 rfl) ?_
    refine pf_MO_123 S hP hS d_MO_number_43 (fun H locs hP hS => ?_)
    refine lv_iconst (v := 1) hx hb d_MO_number_46 (by decide) ?_
    exact cz_zreth S hr hlocks hP hS h rfl d_MO_number_47
  have h := cz_f hc h
  refine lv_iconst (v := 0) hx hb d_MO_number_8 (by decide) ?_
  exact cz_zreth S hr hlocks hP hS h rfl d_MO_number_9
set_option maxHeartbeats 4000000 in
set_option maxRecDepth 100000 in
theorem c_MO_opening (l : Launch) {X : cz_X} {A : Nat → Prop} (hD : ∀ M, va_D A (mo_wl X M)) (M : cz_M) (a1 : Int32) {r2 : Int32} {M2 : cz_M} (h : f_MO_opening M a1 = some (r2, M2)) : mo_Ct l X A y_MO_opening (Cond.code y_MO_opening b_MO_opening 3 (some .int) :: cz_T) rm_MO_opening [.ref (X.2.1 0), .int a1] M (some (.int r2)) M2 := by
  refine cz_Met (by decide) rfl (Nat.le_of_ble_eq_true rfl) hD ?_
  intro p e s m args below meth c hargs S hr hlocks hP ls hl
  have S : cz_Cx p m c b_MO_opening 3 s args cz_T "ChainPeersModel" X.1 mo_cl (mo_tys X) cz_N A (mo_wl X) := S
  have hx := S.1.1
  have hb := S.1.2.1
  have hS : va_S A s.heap s.heap [] := va_S.rf
  have hl : lv_has ls 3 [(0, .ref (X.2.1 0)), (1, .int a1)] := hl
  refine lv_aload_n hx hb d_MO_opening_0 rfl (lv_at hl 0 rfl) ?_
  refine gf_MO_120 S hP d_MO_opening_1 ?_
  refine lv_iload_n hx hb d_MO_opening_4 rfl (lv_at hl 1 rfl) ?_
  refine lv_icmp_ge (tgt := 23) hx hb d_MO_opening_5 rfl (fun hc => ?_) (fun hc => ?_)
  · have h := cz_t hc h
    refine lv_iconst (v := -1) hx hb d_MO_opening_23 (by decide) ?_
    exact cz_ireth S hr hlocks hP hS h d_MO_opening_24
  have h := cz_f hc h
  refine lv_aload_n hx hb d_MO_opening_8 rfl (lv_at hl 0 rfl) ?_
  refine gf_MO_52 S hP d_MO_opening_9 ?_
  refine lv_aload_n hx hb d_MO_opening_12 rfl (lv_at hl 0 rfl) ?_
  refine gf_MO_120 S hP d_MO_opening_13 ?_
  obtain ⟨hin16, h⟩ := cz_ck h
  refine mo_ia S hP mo_k15 hin16 d_MO_opening_16 ?_
  refine lv_sipush (v := 192) hx hb d_MO_opening_17 (by decide) ?_
  refine lv_icmp_ge (tgt := 25) hx hb d_MO_opening_20 rfl (fun hc => ?_) (fun hc => ?_)
  · have h := cz_t hc h
    refine lv_aload_n hx hb d_MO_opening_25 rfl (lv_at hl 0 rfl) ?_
    refine gf_MO_52 S hP d_MO_opening_26 ?_
    refine lv_aload_n hx hb d_MO_opening_29 rfl (lv_at hl 0 rfl) ?_
    refine gf_MO_120 S hP d_MO_opening_30 ?_
    obtain ⟨hin33, h⟩ := cz_ck h
    refine mo_ia S hP mo_k15 hin33 d_MO_opening_33 ?_
    refine lv_sipush (v := 192) hx hb d_MO_opening_34 (by decide) ?_
    refine lv_isub hx hb d_MO_opening_37 ?_
    refine lv_istore_n (lv' := [(2, .int ((M.1 15 (M.1 0 21).toNatClampNeg) - (192 : Int32))), (0, .ref (X.2.1 0)), (1, .int a1)]) hx hb d_MO_opening_38 rfl hl (by decide) rfl (fun ls hl => ?_)
    refine lv_aload_n hx hb d_MO_opening_39 rfl (lv_at hl 1 rfl) ?_
    refine lv_dup hx hb d_MO_opening_40 rfl ?_
    refine gf_MO_120 S hP d_MO_opening_41 ?_
    refine lv_iconst (v := 1) hx hb d_MO_opening_44 (by decide) ?_
    refine lv_iadd hx hb d_MO_opening_45 ?_
    refine pf_MO_120 S hP hS d_MO_opening_46 (fun H locs hP hS => ?_)
    refine lv_iload_n hx hb d_MO_opening_49 rfl (lv_at hl 0 rfl) ?_
    refine lv_bipush (v := 55) hx hb d_MO_opening_50 (by decide) ?_
    refine lv_icmp_gt (tgt := 74) hx hb d_MO_opening_52 rfl (fun hc => ?_) (fun hc => ?_)
    · have h := cz_t hc h
      refine lv_iconst (v := -1) hx hb d_MO_opening_74 (by decide) ?_
      exact cz_ireth S hr hlocks hP hS h d_MO_opening_75
    have h := cz_f hc h
    refine lv_aload_n hx hb d_MO_opening_55 rfl (lv_at hl 1 rfl) ?_
    refine gf_MO_120 S hP d_MO_opening_56 ?_
    refine lv_iload_n hx hb d_MO_opening_59 rfl (lv_at hl 0 rfl) ?_
    refine lv_iadd hx hb d_MO_opening_60 ?_
    refine lv_iload_n hx hb d_MO_opening_61 rfl (lv_at hl 2 rfl) ?_
    refine lv_icmp_gt (tgt := 74) hx hb d_MO_opening_62 rfl (fun hc => ?_) (fun hc => ?_)
    · have h := cz_t hc h
      refine lv_iconst (v := -1) hx hb d_MO_opening_74 (by decide) ?_
      exact cz_ireth S hr hlocks hP hS h d_MO_opening_75
    have h := cz_f hc h
    refine lv_aload_n hx hb d_MO_opening_65 rfl (lv_at hl 1 rfl) ?_
    refine gf_MO_120 S hP d_MO_opening_66 ?_
    refine lv_iload_n hx hb d_MO_opening_69 rfl (lv_at hl 0 rfl) ?_
    refine lv_iadd hx hb d_MO_opening_70 ?_
    refine lv_goto (tgt := 75) hx hb d_MO_opening_71 rfl ?_
    exact cz_ireth S hr hlocks hP hS h d_MO_opening_75
  have h := cz_f hc h
  refine lv_iconst (v := -1) hx hb d_MO_opening_23 (by decide) ?_
  exact cz_ireth S hr hlocks hP hS h d_MO_opening_24
set_option maxHeartbeats 4000000 in
set_option maxRecDepth 100000 in
theorem c_MO_items (l : Launch) {X : cz_X} {A : Nat → Prop} (hD : ∀ M, va_D A (mo_wl X M)) (M : cz_M) (a1 : Int32) {r2 : Int32} {M2 : cz_M} (h : f_MO_items M a1 = some (r2, M2)) : mo_Ct l X A y_MO_items (Cond.code y_MO_items b_MO_items 4 (some .boolean) :: cz_T) rm_MO_items [.ref (X.2.1 0), .int a1] M (some (.int r2)) M2 := by
  refine cz_Met (by decide) rfl (Nat.le_of_ble_eq_true rfl) hD ?_
  intro p e s m args below meth c hargs S hr hlocks hP ls hl
  have S : cz_Cx p m c b_MO_items 4 s args cz_T "ChainPeersModel" X.1 mo_cl (mo_tys X) cz_N A (mo_wl X) := S
  have hx := S.1.1
  have hb := S.1.2.1
  have hS : va_S A s.heap s.heap [] := va_S.rf
  have hl : lv_has ls 4 [(0, .ref (X.2.1 0)), (1, .int a1)] := hl
  have hb139 : ∀ (M : cz_M), b_MO_items_139 a1 M = some (r2, M2) → ∀ (H : Heap) (locs : List Loc) (ls : Array Slot), va_P X.1 mo_cl (mo_wl X M) H → va_S A s.heap H locs → lv_has ls 4 [] → W p l e rm_MO_items s m args below meth c H locs 0 0 (MQ below (cz_Qw X.1 mo_cl (some (.int r2)) (mo_wl X M2) A) args s 0 0 A) (F0 m 139 ls []) := by
    intro M h H locs ls hP hS hl
    refine lv_iconst (v := 1) hx hb d_MO_items_139 (by decide) ?_
    refine lv_goto (tgt := 144) hx hb d_MO_items_140 rfl ?_
    exact cz_zreth S hr hlocks hP hS h rfl d_MO_items_144
  have hb126 : ∀ (M : cz_M), b_MO_items_126 a1 M = some (r2, M2) → ∀ (H : Heap) (locs : List Loc) (ls : Array Slot), va_P X.1 mo_cl (mo_wl X M) H → va_S A s.heap H locs → lv_has ls 4 [(0, .ref (X.2.1 0)), (1, .int a1)] → W p l e rm_MO_items s m args below meth c H locs 0 0 (MQ below (cz_Qw X.1 mo_cl (some (.int r2)) (mo_wl X M2) A) args s 0 0 A) (F0 m 126 ls []) := by
    intro M h H locs ls hP hS hl
    refine lv_iload_n hx hb d_MO_items_126 rfl (lv_at hl 1 rfl) ?_
    refine lv_if_eq (tgt := 139) hx hb d_MO_items_127 rfl (fun hc => ?_) (fun hc => ?_)
    · have h := cz_t hc h
      exact hb139 M h _ _ _ hP hS (lv_sub hl [] rfl)
    have h := cz_f hc h
    refine lv_aload_n hx hb d_MO_items_130 rfl (lv_at hl 0 rfl) ?_
    refine gf_MO_132 S hP d_MO_items_131 ?_
    refine lv_iconst (v := 5) hx hb d_MO_items_134 (by decide) ?_
    refine lv_irem hx hb d_MO_items_135 (by decide) ?_
    refine lv_if_ne (tgt := 143) hx hb d_MO_items_136 rfl (fun hc => ?_) (fun hc => ?_)
    · have h := cz_f hc h
      refine lv_iconst (v := 0) hx hb d_MO_items_143 (by decide) ?_
      exact cz_zreth S hr hlocks hP hS h rfl d_MO_items_144
    have h := cz_t hc h
    exact hb139 M h _ _ _ hP hS (lv_sub hl [] rfl)
  have hb26 : ∀ (n : Nat) (M : cz_M) (v2 : Int32) (v3 : Int32), cz_lp3 (l_MO_items_26 a1) n M v2 v3 = some (r2, M2) → ∀ (H : Heap) (locs : List Loc) (ls : Array Slot), va_P X.1 mo_cl (mo_wl X M) H → va_S A s.heap H locs → lv_has ls 4 [(0, .ref (X.2.1 0)), (1, .int a1), (2, .int v2), (3, .int v3)] → W p l e rm_MO_items s m args below meth c H locs 0 0 (MQ below (cz_Qw X.1 mo_cl (some (.int r2)) (mo_wl X M2) A) args s 0 0 A) (F0 m 26 ls []) := by
    refine cz_ind3 (fun rec26 ih26 M v2 v3 h H locs ls hP hS hl => ?_)
    have hb70 : ∀ (M : cz_M) (v2 : Int32) (v3 : Int32), b_MO_items_70 a1 rec26 M v2 v3 = some (r2, M2) → ∀ (H : Heap) (locs : List Loc) (ls : Array Slot), va_P X.1 mo_cl (mo_wl X M) H → va_S A s.heap H locs → lv_has ls 4 [(0, .ref (X.2.1 0)), (1, .int a1), (2, .int v2), (3, .int v3)] → W p l e rm_MO_items s m args below meth c H locs 0 0 (MQ below (cz_Qw X.1 mo_cl (some (.int r2)) (mo_wl X M2) A) args s 0 0 A) (F0 m 70 ls []) := by
      intro M v2 v3 h H locs ls hP hS hl
      refine lv_aload_n hx hb d_MO_items_70 rfl (lv_at hl 0 rfl) ?_
      refine lv_iload_n hx hb d_MO_items_71 rfl (lv_at hl 3 rfl) ?_
      obtain ⟨r72, M72, hq72, h⟩ := cz_ubi h
      refine iv_MO_138 (rest := []) S hl.1 hP hS (c_MO_number l hD M v3 hq72) ⟨Nat.le_of_ble_eq_true rfl, Nat.le_of_ble_eq_true rfl⟩ (Nat.le_of_ble_eq_true rfl) rfl d_MO_items_72 (fun H locs hP hS => ?_)
      refine lv_if_ne (tgt := 80) hx hb d_MO_items_75 rfl (fun hc => ?_) (fun hc => ?_)
      · have h := cz_f hc h
        refine lv_aload_n hx hb d_MO_items_80 rfl (lv_at hl 0 rfl) ?_
        refine gf_MO_58 S hP d_MO_items_81 ?_
        refine lv_aload_n hx hb d_MO_items_84 rfl (lv_at hl 0 rfl) ?_
        refine gf_MO_132 S hP d_MO_items_85 ?_
        refine lv_aload_n hx hb d_MO_items_88 rfl (lv_at hl 0 rfl) ?_
        refine gf_MO_123 S hP d_MO_items_89 ?_
        obtain ⟨hin92, h⟩ := cz_ck h
        refine mo_is S hP hS mo_k17 hin92 d_MO_items_92 (fun H locs hP hS => ?_)
        refine lv_aload_n hx hb d_MO_items_93 rfl (lv_at hl 0 rfl) ?_
        refine lv_dup hx hb d_MO_items_94 rfl ?_
        refine gf_MO_132 S hP d_MO_items_95 ?_
        refine lv_iconst (v := 1) hx hb d_MO_items_98 (by decide) ?_
        refine lv_iadd hx hb d_MO_items_99 ?_
        refine pf_MO_132 S hP hS d_MO_items_100 (fun H locs hP hS => ?_)
        refine lv_iload_n hx hb d_MO_items_103 rfl (lv_at hl 1 rfl) ?_
        refine lv_if_eq (tgt := 26) hx hb d_MO_items_104 rfl (fun hc => ?_) (fun hc => ?_)
        · have h := cz_t hc h
          exact ih26 (cz_i (cz_i M72 17 (M72.1 0 24).toNatClampNeg (M72.1 0 22)) 0 24 (((cz_i M72 17 (M72.1 0 24).toNatClampNeg (M72.1 0 22)).1 0 24) + (1 : Int32))) v2 v3 h _ _ _ hP hS (lv_sub hl [0, 1, 2, 3] rfl)
        have h := cz_f hc h
        refine lv_aload_n hx hb d_MO_items_107 rfl (lv_at hl 0 rfl) ?_
        refine gf_MO_132 S hP d_MO_items_108 ?_
        refine lv_iconst (v := 5) hx hb d_MO_items_111 (by decide) ?_
        refine lv_irem hx hb d_MO_items_112 (by decide) ?_
        refine lv_if_ne (tgt := 26) hx hb d_MO_items_113 rfl (fun hc => ?_) (fun hc => ?_)
        · have h := cz_f hc h
          exact ih26 (cz_i (cz_i M72 17 (M72.1 0 24).toNatClampNeg (M72.1 0 22)) 0 24 (((cz_i M72 17 (M72.1 0 24).toNatClampNeg (M72.1 0 22)).1 0 24) + (1 : Int32))) v2 v3 h _ _ _ hP hS (lv_sub hl [0, 1, 2, 3] rfl)
        have h := cz_t hc h
        refine lv_aload_n hx hb d_MO_items_116 rfl (lv_at hl 0 rfl) ?_
        refine gf_MO_120 S hP d_MO_items_117 ?_
        refine lv_iload_n hx hb d_MO_items_120 rfl (lv_at hl 3 rfl) ?_
        refine lv_icmp_eq (tgt := 26) hx hb d_MO_items_121 rfl (fun hc => ?_) (fun hc => ?_)
        · have h := cz_t hc h
          exact ih26 (cz_i (cz_i M72 17 (M72.1 0 24).toNatClampNeg (M72.1 0 22)) 0 24 (((cz_i M72 17 (M72.1 0 24).toNatClampNeg (M72.1 0 22)).1 0 24) + (1 : Int32))) v2 v3 h _ _ _ hP hS (lv_sub hl [0, 1, 2, 3] rfl)
        have h := cz_f hc h
        refine lv_iconst (v := 0) hx hb d_MO_items_124 (by decide) ?_
        exact cz_zreth S hr hlocks hP hS h rfl d_MO_items_125
      have h := cz_t hc h
      refine lv_iconst (v := 0) hx hb d_MO_items_78 (by decide) ?_
      exact cz_zreth S hr hlocks hP hS h rfl d_MO_items_79
    have hb53 : ∀ (M : cz_M) (v2 : Int32) (v3 : Int32), b_MO_items_53 a1 rec26 M v2 v3 = some (r2, M2) → ∀ (H : Heap) (locs : List Loc) (ls : Array Slot), va_P X.1 mo_cl (mo_wl X M) H → va_S A s.heap H locs → lv_has ls 4 [(0, .ref (X.2.1 0)), (1, .int a1), (2, .int v2), (3, .int v3)] → W p l e rm_MO_items s m args below meth c H locs 0 0 (MQ below (cz_Qw X.1 mo_cl (some (.int r2)) (mo_wl X M2) A) args s 0 0 A) (F0 m 53 ls []) := by
      intro M v2 v3 h H locs ls hP hS hl
      refine lv_iload_n hx hb d_MO_items_53 rfl (lv_at hl 3 rfl) ?_
      refine lv_if_lt (tgt := 78) hx hb d_MO_items_54 rfl (fun hc => ?_) (fun hc => ?_)
      · have h := cz_t hc h
        refine lv_iconst (v := 0) hx hb d_MO_items_78 (by decide) ?_
        exact cz_zreth S hr hlocks hP hS h rfl d_MO_items_79
      have h := cz_f hc h
      refine lv_iload_n hx hb d_MO_items_57 rfl (lv_at hl 1 rfl) ?_
      refine lv_if_ne (tgt := 70) hx hb d_MO_items_58 rfl (fun hc => ?_) (fun hc => ?_)
      · have h := cz_f hc h
        exact hb70 M v2 v3 h _ _ _ hP hS (lv_sub hl [0, 1, 2, 3] rfl)
      have h := cz_t hc h
      refine lv_aload_n hx hb d_MO_items_61 rfl (lv_at hl 0 rfl) ?_
      refine gf_MO_132 S hP d_MO_items_62 ?_
      refine lv_bipush (v := 8) hx hb d_MO_items_65 (by decide) ?_
      refine lv_icmp_eq (tgt := 78) hx hb d_MO_items_67 rfl (fun hc => ?_) (fun hc => ?_)
      · have h := cz_t hc h
        refine lv_iconst (v := 0) hx hb d_MO_items_78 (by decide) ?_
        exact cz_zreth S hr hlocks hP hS h rfl d_MO_items_79
      have h := cz_f hc h
      exact hb70 M v2 v3 h _ _ _ hP hS (lv_sub hl [0, 1, 2, 3] rfl)
    refine lv_aload_n hx hb d_MO_items_26 rfl (lv_at hl 0 rfl) ?_
    refine gf_MO_120 S hP d_MO_items_27 ?_
    refine lv_iload_n hx hb d_MO_items_30 rfl (lv_at hl 2 rfl) ?_
    refine lv_icmp_ge (tgt := 126) hx hb d_MO_items_31 rfl (fun hc => ?_) (fun hc => ?_)
    · have h := cz_t hc h
      exact hb126 M h _ _ _ hP hS (lv_sub hl [0, 1] rfl)
    have h := cz_f hc h
    refine lv_iload_n hx hb d_MO_items_34 rfl (lv_at hl 1 rfl) ?_
    refine lv_if_eq (tgt := 53) hx hb d_MO_items_35 rfl (fun hc => ?_) (fun hc => ?_)
    · have h := cz_t hc h
      exact hb53 M v2 v3 h _ _ _ hP hS (lv_sub hl [0, 1, 2, 3] rfl)
    have h := cz_f hc h
    refine lv_aload_n hx hb d_MO_items_38 rfl (lv_at hl 0 rfl) ?_
    refine gf_MO_132 S hP d_MO_items_39 ?_
    refine lv_iconst (v := 5) hx hb d_MO_items_42 (by decide) ?_
    refine lv_irem hx hb d_MO_items_43 (by decide) ?_
    refine lv_if_ne (tgt := 53) hx hb d_MO_items_44 rfl (fun hc => ?_) (fun hc => ?_)
    · have h := cz_f hc h
      exact hb53 M v2 v3 h _ _ _ hP hS (lv_sub hl [0, 1, 2, 3] rfl)
    have h := cz_t hc h
    refine lv_aload_n hx hb d_MO_items_47 rfl (lv_at hl 0 rfl) ?_
    refine lv_iload_n hx hb d_MO_items_48 rfl (lv_at hl 2 rfl) ?_
    obtain ⟨r49, M49, hq49, h⟩ := cz_ubi h
    refine iv_MO_135 (rest := []) S hl.1 hP hS (c_MO_opening l hD M v2 hq49) ⟨Nat.le_of_ble_eq_true rfl, Nat.le_of_ble_eq_true rfl⟩ (Nat.le_of_ble_eq_true rfl) rfl d_MO_items_49 (fun H locs hP hS => ?_)
    refine lv_istore_n (lv' := [(3, .int r49), (0, .ref (X.2.1 0)), (1, .int a1), (2, .int v2)]) hx hb d_MO_items_52 rfl hl (by decide) rfl (fun ls hl => ?_)
    exact hb53 M49 v2 r49 h _ _ _ hP hS (lv_sub hl [1, 2, 3, 0] rfl)
  refine lv_aload_n hx hb d_MO_items_0 rfl (lv_at hl 0 rfl) ?_
  refine lv_iconst (v := 0) hx hb d_MO_items_1 (by decide) ?_
  refine pf_MO_132 S hP hS d_MO_items_2 (fun H locs hP hS => ?_)
  refine lv_aload_n hx hb d_MO_items_5 rfl (lv_at hl 0 rfl) ?_
  refine lv_aload_n hx hb d_MO_items_6 rfl (lv_at hl 0 rfl) ?_
  refine gf_MO_117 S hP d_MO_items_7 ?_
  obtain ⟨r10, M10, hq10, h⟩ := cz_ubi h
  refine iv_MO_135 (rest := []) S hl.1 hP hS (c_MO_opening l hD (cz_i M 0 24 (0 : Int32)) ((cz_i M 0 24 (0 : Int32)).1 0 19) hq10) ⟨Nat.le_of_ble_eq_true rfl, Nat.le_of_ble_eq_true rfl⟩ (Nat.le_of_ble_eq_true rfl) rfl d_MO_items_10 (fun H locs hP hS => ?_)
  refine lv_istore_n (lv' := [(2, .int r10), (0, .ref (X.2.1 0)), (1, .int a1)]) hx hb d_MO_items_13 rfl hl (by decide) rfl (fun ls hl => ?_)
  refine lv_iload_n hx hb d_MO_items_14 rfl (lv_at hl 0 rfl) ?_
  refine lv_aload_n hx hb d_MO_items_15 rfl (lv_at hl 1 rfl) ?_
  refine gf_MO_117 S hP d_MO_items_16 ?_
  refine lv_icmp_eq (tgt := 24) hx hb d_MO_items_19 rfl (fun hc => ?_) (fun hc => ?_)
  · have h := cz_t hc h
    refine lv_iload_n hx hb d_MO_items_24 rfl (lv_at hl 0 rfl) ?_
    refine lv_istore_n (lv' := [(3, .int r10), (2, .int r10), (0, .ref (X.2.1 0)), (1, .int a1)]) hx hb d_MO_items_25 rfl hl (by decide) rfl (fun ls hl => ?_)
    exact hb26 _ M10 r10 r10 h _ _ _ hP hS (lv_sub hl [2, 3, 1, 0] rfl)
  have h := cz_f hc h
  refine lv_iconst (v := 0) hx hb d_MO_items_22 (by decide) ?_
  exact cz_zreth S hr hlocks hP hS h rfl d_MO_items_23
set_option maxHeartbeats 4000000 in
set_option maxRecDepth 100000 in
theorem c_MO_decode (l : Launch) {X : cz_X} {A : Nat → Prop} (hD : ∀ M, va_D A (mo_wl X M)) (M : cz_M) {r2 : Int32} {M2 : cz_M} (h : f_MO_decode M = some (r2, M2)) : mo_Ct l X A y_MO_decode (Cond.code y_MO_decode b_MO_decode 4 (some .int) :: cz_T) rm_MO_decode [.ref (X.2.1 0)] M (some (.int r2)) M2 := by
  refine cz_Met (by decide) rfl (Nat.le_of_ble_eq_true rfl) hD ?_
  intro p e s m args below meth c hargs S hr hlocks hP ls hl
  have S : cz_Cx p m c b_MO_decode 4 s args cz_T "ChainPeersModel" X.1 mo_cl (mo_tys X) cz_N A (mo_wl X) := S
  have hx := S.1.1
  have hb := S.1.2.1
  have hS : va_S A s.heap s.heap [] := va_S.rf
  have hl : lv_has ls 4 [(0, .ref (X.2.1 0))] := hl
  have hb143 : ∀ (M : cz_M) (v1 : Int32), b_MO_decode_143 M v1 = some (r2, M2) → ∀ (H : Heap) (locs : List Loc) (ls : Array Slot), va_P X.1 mo_cl (mo_wl X M) H → va_S A s.heap H locs → lv_has ls 4 [(0, .ref (X.2.1 0)), (1, .int v1)] → W p l e rm_MO_decode s m args below meth c H locs 0 0 (MQ below (cz_Qw X.1 mo_cl (some (.int r2)) (mo_wl X M2) A) args s 0 0 A) (F0 m 143 ls []) := by
    intro M v1 h H locs ls hP hS hl
    refine lv_aload_n hx hb d_MO_decode_143 rfl (lv_at hl 0 rfl) ?_
    refine gf_MO_120 S hP d_MO_decode_144 ?_
    refine lv_aload_n hx hb d_MO_decode_147 rfl (lv_at hl 0 rfl) ?_
    refine gf_MO_117 S hP d_MO_decode_148 ?_
    refine lv_icmp_ne (tgt := 158) hx hb d_MO_decode_151 rfl (fun hc => ?_) (fun hc => ?_)
    · have h := cz_f hc h
      refine lv_iconst (v := -1) hx hb d_MO_decode_158 (by decide) ?_
      exact cz_ireth S hr hlocks hP hS h d_MO_decode_159
    have h := cz_t hc h
    refine lv_iload_n hx hb d_MO_decode_154 rfl (lv_at hl 1 rfl) ?_
    refine lv_goto (tgt := 159) hx hb d_MO_decode_155 rfl ?_
    exact cz_ireth S hr hlocks hP hS h d_MO_decode_159
  have hb135 : ∀ (M : cz_M) (v1 : Int32) (s0 : Int32), b_MO_decode_135 M v1 s0 = some (r2, M2) → ∀ (H : Heap) (locs : List Loc) (ls : Array Slot), va_P X.1 mo_cl (mo_wl X M) H → va_S A s.heap H locs → lv_has ls 4 [(0, .ref (X.2.1 0)), (1, .int v1)] → W p l e rm_MO_decode s m args below meth c H locs 0 0 (MQ below (cz_Qw X.1 mo_cl (some (.int r2)) (mo_wl X M2) A) args s 0 0 A) (F0 m 135 ls [.int s0, .ref (X.2.1 0)]) := by
    intro M v1 s0 h H locs ls hP hS hl
    obtain ⟨r135, M135, hq135, h⟩ := cz_ubi h
    refine iv_MO_141 (rest := []) S hl.1 hP hS (c_MO_items l hD M s0 hq135) ⟨Nat.le_of_ble_eq_true rfl, Nat.le_of_ble_eq_true rfl⟩ (Nat.le_of_ble_eq_true rfl) rfl d_MO_decode_135 (fun H locs hP hS => ?_)
    refine lv_if_ne (tgt := 143) hx hb d_MO_decode_138 rfl (fun hc => ?_) (fun hc => ?_)
    · have h := cz_f hc h
      exact hb143 M135 v1 h _ _ _ hP hS (lv_sub hl [0, 1] rfl)
    have h := cz_t hc h
    refine lv_iconst (v := -1) hx hb d_MO_decode_141 (by decide) ?_
    exact cz_ireth S hr hlocks hP hS h d_MO_decode_142
  have hb124 : ∀ (M : cz_M) (v1 : Int32), b_MO_decode_124 M v1 = some (r2, M2) → ∀ (H : Heap) (locs : List Loc) (ls : Array Slot), va_P X.1 mo_cl (mo_wl X M) H → va_S A s.heap H locs → lv_has ls 4 [(0, .ref (X.2.1 0)), (1, .int v1)] → W p l e rm_MO_decode s m args below meth c H locs 0 0 (MQ below (cz_Qw X.1 mo_cl (some (.int r2)) (mo_wl X M2) A) args s 0 0 A) (F0 m 124 ls []) := by
    intro M v1 h H locs ls hP hS hl
    refine lv_aload_n hx hb d_MO_decode_124 rfl (lv_at hl 0 rfl) ?_
    refine lv_iload_n hx hb d_MO_decode_125 rfl (lv_at hl 1 rfl) ?_
    refine lv_iconst (v := 2) hx hb d_MO_decode_126 (by decide) ?_
    refine lv_icmp_ne (tgt := 134) hx hb d_MO_decode_127 rfl (fun hc => ?_) (fun hc => ?_)
    · have h := cz_f hc h
      refine lv_iconst (v := 0) hx hb d_MO_decode_134 (by decide) ?_
      exact hb135 M v1 (0 : Int32) h _ _ _ hP hS (lv_sub hl [0, 1] rfl)
    have h := cz_t hc h
    refine lv_iconst (v := 1) hx hb d_MO_decode_130 (by decide) ?_
    refine lv_goto (tgt := 135) hx hb d_MO_decode_131 rfl ?_
    exact hb135 M v1 (1 : Int32) h _ _ _ hP hS (lv_sub hl [0, 1] rfl)
  have hb114 : ∀ (M : cz_M) (v1 : Int32), b_MO_decode_114 M v1 = some (r2, M2) → ∀ (H : Heap) (locs : List Loc) (ls : Array Slot), va_P X.1 mo_cl (mo_wl X M) H → va_S A s.heap H locs → lv_has ls 4 [(0, .ref (X.2.1 0)), (1, .int v1)] → W p l e rm_MO_decode s m args below meth c H locs 0 0 (MQ below (cz_Qw X.1 mo_cl (some (.int r2)) (mo_wl X M2) A) args s 0 0 A) (F0 m 114 ls []) := by
    intro M v1 h H locs ls hP hS hl
    refine lv_iload_n hx hb d_MO_decode_114 rfl (lv_at hl 1 rfl) ?_
    refine lv_iconst (v := 2) hx hb d_MO_decode_115 (by decide) ?_
    refine lv_icmp_eq (tgt := 124) hx hb d_MO_decode_116 rfl (fun hc => ?_) (fun hc => ?_)
    · have h := cz_t hc h
      exact hb124 M v1 h _ _ _ hP hS (lv_sub hl [0, 1] rfl)
    have h := cz_f hc h
    refine lv_iload_n hx hb d_MO_decode_119 rfl (lv_at hl 1 rfl) ?_
    refine lv_iconst (v := 4) hx hb d_MO_decode_120 (by decide) ?_
    refine lv_icmp_ne (tgt := 143) hx hb d_MO_decode_121 rfl (fun hc => ?_) (fun hc => ?_)
    · have h := cz_f hc h
      exact hb143 M v1 h _ _ _ hP hS (lv_sub hl [0, 1] rfl)
    have h := cz_t hc h
    exact hb124 M v1 h _ _ _ hP hS (lv_sub hl [0, 1] rfl)
  have hb80 : ∀ (n : Nat) (M : cz_M) (v1 : Int32) (v2 : Int32) (v3 : Int32), cz_lp4 (l_MO_decode_80) n M v1 v2 v3 = some (r2, M2) → ∀ (H : Heap) (locs : List Loc) (ls : Array Slot), va_P X.1 mo_cl (mo_wl X M) H → va_S A s.heap H locs → lv_has ls 4 [(0, .ref (X.2.1 0)), (1, .int v1), (2, .int v2), (3, .int v3)] → W p l e rm_MO_decode s m args below meth c H locs 0 0 (MQ below (cz_Qw X.1 mo_cl (some (.int r2)) (mo_wl X M2) A) args s 0 0 A) (F0 m 80 ls []) := by
    refine cz_ind4 (fun rec80 ih80 M v1 v2 v3 h H locs ls hP hS hl => ?_)
    refine lv_iload_n hx hb d_MO_decode_80 rfl (lv_at hl 3 rfl) ?_
    refine lv_iload_n hx hb d_MO_decode_81 rfl (lv_at hl 2 rfl) ?_
    refine lv_icmp_ge (tgt := 114) hx hb d_MO_decode_82 rfl (fun hc => ?_) (fun hc => ?_)
    · have h := cz_t hc h
      exact hb114 M v1 h _ _ _ hP hS (lv_sub hl [0, 1] rfl)
    have h := cz_f hc h
    refine lv_aload_n hx hb d_MO_decode_85 rfl (lv_at hl 0 rfl) ?_
    refine lv_aload_n hx hb d_MO_decode_86 rfl (lv_at hl 0 rfl) ?_
    refine gf_MO_117 S hP d_MO_decode_87 ?_
    obtain ⟨r90, M90, hq90, h⟩ := cz_ubi h
    refine iv_MO_138 (rest := []) S hl.1 hP hS (c_MO_number l hD M (M.1 0 19) hq90) ⟨Nat.le_of_ble_eq_true rfl, Nat.le_of_ble_eq_true rfl⟩ (Nat.le_of_ble_eq_true rfl) rfl d_MO_decode_90 (fun H locs hP hS => ?_)
    refine lv_if_ne (tgt := 98) hx hb d_MO_decode_93 rfl (fun hc => ?_) (fun hc => ?_)
    · have h := cz_f hc h
      refine lv_aload_n hx hb d_MO_decode_98 rfl (lv_at hl 0 rfl) ?_
      refine gf_MO_55 S hP d_MO_decode_99 ?_
      refine lv_iload_n hx hb d_MO_decode_102 rfl (lv_at hl 3 rfl) ?_
      refine lv_aload_n hx hb d_MO_decode_103 rfl (lv_at hl 0 rfl) ?_
      refine gf_MO_123 S hP d_MO_decode_104 ?_
      obtain ⟨hin107, h⟩ := cz_ck h
      refine mo_is S hP hS mo_k16 hin107 d_MO_decode_107 (fun H locs hP hS => ?_)
      refine lv_iinc (lv' := [(3, .int (v3 + 1)), (0, .ref (X.2.1 0)), (1, .int v1), (2, .int v2)]) (v := v3 + 1) (k := 3) hx hb d_MO_decode_108 hl rfl (cz_inc1 _) (by decide) rfl (fun ls hl => ?_)
      refine lv_goto (tgt := 80) hx hb d_MO_decode_111 rfl ?_
      exact ih80 (cz_i M90 16 v3.toNatClampNeg (M90.1 0 22)) v1 v2 (v3 + 1) h _ _ _ hP hS (lv_sub hl [1, 2, 3, 0] rfl)
    have h := cz_t hc h
    refine lv_iconst (v := -1) hx hb d_MO_decode_96 (by decide) ?_
    exact cz_ireth S hr hlocks hP hS h d_MO_decode_97
  have hb77 : ∀ (M : cz_M) (v1 : Int32) (s0 : Int32), b_MO_decode_77 M v1 s0 = some (r2, M2) → ∀ (H : Heap) (locs : List Loc) (ls : Array Slot), va_P X.1 mo_cl (mo_wl X M) H → va_S A s.heap H locs → lv_has ls 4 [(0, .ref (X.2.1 0)), (1, .int v1)] → W p l e rm_MO_decode s m args below meth c H locs 0 0 (MQ below (cz_Qw X.1 mo_cl (some (.int r2)) (mo_wl X M2) A) args s 0 0 A) (F0 m 77 ls [.int s0]) := by
    intro M v1 s0 h H locs ls hP hS hl
    refine lv_istore_n (lv' := [(2, .int s0), (0, .ref (X.2.1 0)), (1, .int v1)]) hx hb d_MO_decode_77 rfl hl (by decide) rfl (fun ls hl => ?_)
    refine lv_iconst (v := 0) hx hb d_MO_decode_78 (by decide) ?_
    refine lv_istore_n (lv' := [(3, .int (0 : Int32)), (2, .int s0), (0, .ref (X.2.1 0)), (1, .int v1)]) hx hb d_MO_decode_79 rfl hl (by decide) rfl (fun ls hl => ?_)
    exact hb80 _ M v1 s0 (0 : Int32) h _ _ _ hP hS (lv_sub hl [2, 3, 1, 0] rfl)
  have hb72 : ∀ (M : cz_M) (v1 : Int32), b_MO_decode_72 M v1 = some (r2, M2) → ∀ (H : Heap) (locs : List Loc) (ls : Array Slot), va_P X.1 mo_cl (mo_wl X M) H → va_S A s.heap H locs → lv_has ls 4 [(0, .ref (X.2.1 0)), (1, .int v1)] → W p l e rm_MO_decode s m args below meth c H locs 0 0 (MQ below (cz_Qw X.1 mo_cl (some (.int r2)) (mo_wl X M2) A) args s 0 0 A) (F0 m 72 ls []) := by
    intro M v1 h H locs ls hP hS hl
    refine lv_iconst (v := 2) hx hb d_MO_decode_72 (by decide) ?_
    refine lv_goto (tgt := 77) hx hb d_MO_decode_73 rfl ?_
    exact hb77 M v1 (2 : Int32) h _ _ _ hP hS (lv_sub hl [0, 1] rfl)
  refine lv_aload_n hx hb d_MO_decode_0 rfl (lv_at hl 0 rfl) ?_
  refine lv_iconst (v := 0) hx hb d_MO_decode_1 (by decide) ?_
  refine pf_MO_120 S hP hS d_MO_decode_2 (fun H locs hP hS => ?_)
  refine lv_aload_n hx hb d_MO_decode_5 rfl (lv_at hl 0 rfl) ?_
  refine lv_aload_n hx hb d_MO_decode_6 rfl (lv_at hl 0 rfl) ?_
  refine gf_MO_117 S hP d_MO_decode_7 ?_
  obtain ⟨r10, M10, hq10, h⟩ := cz_ubi h
  refine iv_MO_135 (rest := []) S hl.1 hP hS (c_MO_opening l hD (cz_i M 0 21 (0 : Int32)) ((cz_i M 0 21 (0 : Int32)).1 0 19) hq10) ⟨Nat.le_of_ble_eq_true rfl, Nat.le_of_ble_eq_true rfl⟩ (Nat.le_of_ble_eq_true rfl) rfl d_MO_decode_10 (fun H locs hP hS => ?_)
  refine lv_aload_n hx hb d_MO_decode_13 rfl (lv_at hl 0 rfl) ?_
  refine gf_MO_117 S hP d_MO_decode_14 ?_
  refine lv_icmp_ne (tgt := 31) hx hb d_MO_decode_17 rfl (fun hc => ?_) (fun hc => ?_)
  · have h := cz_f hc h
    refine lv_iconst (v := -1) hx hb d_MO_decode_31 (by decide) ?_
    exact cz_ireth S hr hlocks hP hS h d_MO_decode_32
  have h := cz_t hc h
  refine lv_aload_n hx hb d_MO_decode_20 rfl (lv_at hl 0 rfl) ?_
  refine lv_aload_n hx hb d_MO_decode_21 rfl (lv_at hl 0 rfl) ?_
  refine gf_MO_117 S hP d_MO_decode_22 ?_
  obtain ⟨r25, M25, hq25, h⟩ := cz_ubi h
  refine iv_MO_138 (rest := []) S hl.1 hP hS (c_MO_number l hD M10 (M10.1 0 19) hq25) ⟨Nat.le_of_ble_eq_true rfl, Nat.le_of_ble_eq_true rfl⟩ (Nat.le_of_ble_eq_true rfl) rfl d_MO_decode_25 (fun H locs hP hS => ?_)
  refine lv_if_ne (tgt := 33) hx hb d_MO_decode_28 rfl (fun hc => ?_) (fun hc => ?_)
  · have h := cz_f hc h
    refine lv_aload_n hx hb d_MO_decode_33 rfl (lv_at hl 0 rfl) ?_
    refine gf_MO_123 S hP d_MO_decode_34 ?_
    refine lv_istore_n (lv' := [(1, .int (M25.1 0 22)), (0, .ref (X.2.1 0))]) hx hb d_MO_decode_37 rfl hl (by decide) rfl (fun ls hl => ?_)
    refine lv_iload_n hx hb d_MO_decode_38 rfl (lv_at hl 0 rfl) ?_
    refine lv_iconst (v := 5) hx hb d_MO_decode_39 (by decide) ?_
    refine lv_icmp_le (tgt := 45) hx hb d_MO_decode_40 rfl (fun hc => ?_) (fun hc => ?_)
    · have h := cz_t hc h
      refine lv_iload_n hx hb d_MO_decode_45 rfl (lv_at hl 0 rfl) ?_
      refine lv_iconst (v := 5) hx hb d_MO_decode_46 (by decide) ?_
      refine lv_icmp_ne (tgt := 54) hx hb d_MO_decode_47 rfl (fun hc => ?_) (fun hc => ?_)
      · have h := cz_f hc h
        refine lv_iload_n hx hb d_MO_decode_54 rfl (lv_at hl 0 rfl) ?_
        refine lv_iconst (v := 1) hx hb d_MO_decode_55 (by decide) ?_
        refine lv_icmp_ne (tgt := 63) hx hb d_MO_decode_56 rfl (fun hc => ?_) (fun hc => ?_)
        · have h := cz_f hc h
          refine lv_iload_n hx hb d_MO_decode_63 rfl (lv_at hl 0 rfl) ?_
          refine lv_if_eq (tgt := 72) hx hb d_MO_decode_64 rfl (fun hc => ?_) (fun hc => ?_)
          · have h := cz_t hc h
            exact hb72 M25 (M25.1 0 22) h _ _ _ hP hS (lv_sub hl [1, 0] rfl)
          have h := cz_f hc h
          refine lv_iload_n hx hb d_MO_decode_67 rfl (lv_at hl 0 rfl) ?_
          refine lv_iconst (v := 3) hx hb d_MO_decode_68 (by decide) ?_
          refine lv_icmp_ne (tgt := 76) hx hb d_MO_decode_69 rfl (fun hc => ?_) (fun hc => ?_)
          · have h := cz_f hc h
            refine lv_iconst (v := 1) hx hb d_MO_decode_76 (by decide) ?_
            exact hb77 M25 (M25.1 0 22) (1 : Int32) h _ _ _ hP hS (lv_sub hl [1, 0] rfl)
          have h := cz_t hc h
          exact hb72 M25 (M25.1 0 22) h _ _ _ hP hS (lv_sub hl [1, 0] rfl)
        have h := cz_t hc h
        refine lv_iconst (v := 3) hx hb d_MO_decode_59 (by decide) ?_
        refine lv_goto (tgt := 77) hx hb d_MO_decode_60 rfl ?_
        exact hb77 M25 (M25.1 0 22) (3 : Int32) h _ _ _ hP hS (lv_sub hl [1, 0] rfl)
      have h := cz_t hc h
      refine lv_iconst (v := 0) hx hb d_MO_decode_50 (by decide) ?_
      refine lv_goto (tgt := 77) hx hb d_MO_decode_51 rfl ?_
      exact hb77 M25 (M25.1 0 22) (0 : Int32) h _ _ _ hP hS (lv_sub hl [1, 0] rfl)
    have h := cz_f hc h
    refine lv_iconst (v := -1) hx hb d_MO_decode_43 (by decide) ?_
    exact cz_ireth S hr hlocks hP hS h d_MO_decode_44
  have h := cz_t hc h
  refine lv_iconst (v := -1) hx hb d_MO_decode_31 (by decide) ?_
  exact cz_ireth S hr hlocks hP hS h d_MO_decode_32
set_option maxHeartbeats 4000000 in
set_option maxRecDepth 100000 in
theorem c_MO_leave (l : Launch) {X : cz_X} {A : Nat → Prop} (hD : ∀ M, va_D A (mo_wl X M)) (M : cz_M) (a1 : Int32) (a2 : Int32) {M2 : cz_M} (h : f_MO_leave M a1 a2 = some M2) : mo_Ct l X A y_MO_leave (Cond.code y_MO_leave b_MO_leave 3 none :: cz_T) rm_MO_leave [.ref (X.2.1 0), .int a1, .int a2] M none M2 := by
  refine cz_Met (by decide) rfl (Nat.le_of_ble_eq_true rfl) hD ?_
  intro p e s m args below meth c hargs S hr hlocks hP ls hl
  have S : cz_Cx p m c b_MO_leave 3 s args cz_T "ChainPeersModel" X.1 mo_cl (mo_tys X) cz_N A (mo_wl X) := S
  have hx := S.1.1
  have hb := S.1.2.1
  have hS : va_S A s.heap s.heap [] := va_S.rf
  have hl : lv_has ls 3 [(0, .ref (X.2.1 0)), (1, .int a1), (2, .int a2)] := hl
  refine lv_aload_n hx hb d_MO_leave_0 rfl (lv_at hl 0 rfl) ?_
  refine gf_MO_19 S hP d_MO_leave_1 ?_
  refine lv_iload_n hx hb d_MO_leave_4 rfl (lv_at hl 1 rfl) ?_
  refine lv_iload_n hx hb d_MO_leave_5 rfl (lv_at hl 2 rfl) ?_
  obtain ⟨hin6, h⟩ := cz_ck h
  refine mo_is S hP hS mo_k4 hin6 d_MO_leave_6 (fun H locs hP hS => ?_)
  refine lv_aload_n hx hb d_MO_leave_7 rfl (lv_at hl 0 rfl) ?_
  refine gf_MO_31 S hP d_MO_leave_8 ?_
  refine lv_iload_n hx hb d_MO_leave_11 rfl (lv_at hl 1 rfl) ?_
  refine lv_iconst (v := 0) hx hb d_MO_leave_12 (by decide) ?_
  obtain ⟨hin13, h⟩ := cz_ck h
  refine mo_is S hP hS mo_k8 hin13 d_MO_leave_13 (fun H locs hP hS => ?_)
  refine lv_aload_n hx hb d_MO_leave_14 rfl (lv_at hl 0 rfl) ?_
  refine gf_MO_37 S hP d_MO_leave_15 ?_
  refine lv_iload_n hx hb d_MO_leave_18 rfl (lv_at hl 1 rfl) ?_
  refine lv_iconst (v := 0) hx hb d_MO_leave_19 (by decide) ?_
  obtain ⟨hin20, h⟩ := cz_ck h
  refine mo_is S hP hS mo_k10 hin20 d_MO_leave_20 (fun H locs hP hS => ?_)
  refine lv_aload_n hx hb d_MO_leave_21 rfl (lv_at hl 0 rfl) ?_
  refine gf_MO_43 S hP d_MO_leave_22 ?_
  refine lv_iload_n hx hb d_MO_leave_25 rfl (lv_at hl 1 rfl) ?_
  refine lv_iconst (v := 0) hx hb d_MO_leave_26 (by decide) ?_
  obtain ⟨hin27, h⟩ := cz_ck h
  refine mo_is S hP hS mo_k12 hin27 d_MO_leave_27 (fun H locs hP hS => ?_)
  exact cz_vreth S hr hlocks hP hS h d_MO_leave_28
set_option maxHeartbeats 4000000 in
set_option maxRecDepth 100000 in
theorem c_MO_fault (l : Launch) {X : cz_X} {A : Nat → Prop} (hD : ∀ M, va_D A (mo_wl X M)) (M : cz_M) (a1 : Int32) (a2 : Int32) {r2 : Int32} {M2 : cz_M} (h : f_MO_fault M a1 a2 = some (r2, M2)) : mo_Ct l X A y_MO_fault (Cond.code y_MO_fault b_MO_fault 3 (some .boolean) :: cz_T) rm_MO_fault [.ref (X.2.1 0), .int a1, .int a2] M (some (.int r2)) M2 := by
  refine cz_Met (by decide) rfl (Nat.le_of_ble_eq_true rfl) hD ?_
  intro p e s m args below meth c hargs S hr hlocks hP ls hl
  have S : cz_Cx p m c b_MO_fault 3 s args cz_T "ChainPeersModel" X.1 mo_cl (mo_tys X) cz_N A (mo_wl X) := S
  have hx := S.1.1
  have hb := S.1.2.1
  have hS : va_S A s.heap s.heap [] := va_S.rf
  have hl : lv_has ls 3 [(0, .ref (X.2.1 0)), (1, .int a1), (2, .int a2)] := hl
  refine lv_aload_n hx hb d_MO_fault_0 rfl (lv_at hl 0 rfl) ?_
  refine gf_MO_22 S hP d_MO_fault_1 ?_
  refine lv_iload_n hx hb d_MO_fault_4 rfl (lv_at hl 1 rfl) ?_
  refine lv_dup2_11 hx hb d_MO_fault_5 rfl rfl ?_
  obtain ⟨hin6, h⟩ := cz_ck h
  refine mo_ia S hP mo_k5 hin6 d_MO_fault_6 ?_
  refine lv_iload_n hx hb d_MO_fault_7 rfl (lv_at hl 2 rfl) ?_
  refine lv_isub hx hb d_MO_fault_8 ?_
  obtain ⟨hin9, h⟩ := cz_ck h
  refine mo_is S hP hS mo_k5 hin9 d_MO_fault_9 (fun H locs hP hS => ?_)
  refine lv_aload_n hx hb d_MO_fault_10 rfl (lv_at hl 0 rfl) ?_
  refine gf_MO_22 S hP d_MO_fault_11 ?_
  refine lv_iload_n hx hb d_MO_fault_14 rfl (lv_at hl 1 rfl) ?_
  obtain ⟨hin15, h⟩ := cz_ck h
  refine mo_ia S hP mo_k5 hin15 d_MO_fault_15 ?_
  refine lv_bipush (v := -3) hx hb d_MO_fault_16 (by decide) ?_
  refine lv_icmp_ge (tgt := 27) hx hb d_MO_fault_18 rfl (fun hc => ?_) (fun hc => ?_)
  · have h := cz_t hc h
    refine lv_iconst (v := 0) hx hb d_MO_fault_27 (by decide) ?_
    exact cz_zreth S hr hlocks hP hS h rfl d_MO_fault_28
  have h := cz_f hc h
  refine lv_aload_n hx hb d_MO_fault_21 rfl (lv_at hl 0 rfl) ?_
  refine lv_iload_n hx hb d_MO_fault_22 rfl (lv_at hl 1 rfl) ?_
  refine lv_iconst (v := 3) hx hb d_MO_fault_23 (by decide) ?_
  obtain ⟨M24, hq24, h⟩ := cz_ubv h
  refine iv_MO_145 (rest := []) S hl.1 hP hS (c_MO_leave l hD (cz_i M 5 a1.toNatClampNeg ((M.1 5 a1.toNatClampNeg) - a2)) a1 (3 : Int32) hq24) ⟨Nat.le_of_ble_eq_true rfl, Nat.le_of_ble_eq_true rfl⟩ (Nat.le_of_ble_eq_true rfl) rfl d_MO_fault_24 (fun H locs hP hS => ?_)
  refine lv_iconst (v := 0) hx hb d_MO_fault_27 (by decide) ?_
  exact cz_zreth S hr hlocks hP hS h rfl d_MO_fault_28
set_option maxHeartbeats 4000000 in
set_option maxRecDepth 100000 in
theorem c_MO_merit (l : Launch) {X : cz_X} {A : Nat → Prop} (hD : ∀ M, va_D A (mo_wl X M)) (M : cz_M) (a1 : Int32) {r2 : Int32} {M2 : cz_M} (h : f_MO_merit M a1 = some (r2, M2)) : mo_Ct l X A y_MO_merit (Cond.code y_MO_merit b_MO_merit 2 (some .boolean) :: cz_T) rm_MO_merit [.ref (X.2.1 0), .int a1] M (some (.int r2)) M2 := by
  refine cz_Met (by decide) rfl (Nat.le_of_ble_eq_true rfl) hD ?_
  intro p e s m args below meth c hargs S hr hlocks hP ls hl
  have S : cz_Cx p m c b_MO_merit 2 s args cz_T "ChainPeersModel" X.1 mo_cl (mo_tys X) cz_N A (mo_wl X) := S
  have hx := S.1.1
  have hb := S.1.2.1
  have hS : va_S A s.heap s.heap [] := va_S.rf
  have hl : lv_has ls 2 [(0, .ref (X.2.1 0)), (1, .int a1)] := hl
  refine lv_aload_n hx hb d_MO_merit_0 rfl (lv_at hl 0 rfl) ?_
  refine gf_MO_22 S hP d_MO_merit_1 ?_
  refine lv_iload_n hx hb d_MO_merit_4 rfl (lv_at hl 1 rfl) ?_
  refine lv_aload_n hx hb d_MO_merit_5 rfl (lv_at hl 0 rfl) ?_
  refine gf_MO_22 S hP d_MO_merit_6 ?_
  refine lv_iload_n hx hb d_MO_merit_9 rfl (lv_at hl 1 rfl) ?_
  obtain ⟨hin10, h⟩ := cz_ck h
  refine mo_ia S hP mo_k5 hin10 d_MO_merit_10 ?_
  refine lv_iconst (v := 3) hx hb d_MO_merit_11 (by decide) ?_
  refine lv_icmp_ge (tgt := 26) hx hb d_MO_merit_12 rfl (fun hc => ?_) (fun hc => ?_)
  · have h := cz_t hc h
    refine lv_iconst (v := 3) hx hb d_MO_merit_26 (by decide) ?_
    obtain ⟨hin27, h⟩ := cz_ck h
    refine mo_is S hP hS mo_k5 hin27 d_MO_merit_27 (fun H locs hP hS => ?_)
    refine lv_iconst (v := 1) hx hb d_MO_merit_28 (by decide) ?_
    exact cz_zreth S hr hlocks hP hS h rfl d_MO_merit_29
  have h := cz_f hc h
  refine lv_aload_n hx hb d_MO_merit_15 rfl (lv_at hl 0 rfl) ?_
  refine gf_MO_22 S hP d_MO_merit_16 ?_
  refine lv_iload_n hx hb d_MO_merit_19 rfl (lv_at hl 1 rfl) ?_
  obtain ⟨hin20, h⟩ := cz_ck h
  refine mo_ia S hP mo_k5 hin20 d_MO_merit_20 ?_
  refine lv_iconst (v := 1) hx hb d_MO_merit_21 (by decide) ?_
  refine lv_iadd hx hb d_MO_merit_22 ?_
  refine lv_goto (tgt := 27) hx hb d_MO_merit_23 rfl ?_
  obtain ⟨hin27, h⟩ := cz_ck h
  refine mo_is S hP hS mo_k5 hin27 d_MO_merit_27 (fun H locs hP hS => ?_)
  refine lv_iconst (v := 1) hx hb d_MO_merit_28 (by decide) ?_
  exact cz_zreth S hr hlocks hP hS h rfl d_MO_merit_29
set_option maxHeartbeats 4000000 in
set_option maxRecDepth 100000 in
theorem c_MO_open (l : Launch) {X : cz_X} {A : Nat → Prop} (hD : ∀ M, va_D A (mo_wl X M)) (M : cz_M) (a1 : Int32) {r2 : Int32} {M2 : cz_M} (h : f_MO_open M a1 = some (r2, M2)) : mo_Ct l X A y_MO_open (Cond.code y_MO_open b_MO_open 3 (some .boolean) :: cz_T) rm_MO_open [.ref (X.2.1 0), .int a1] M (some (.int r2)) M2 := by
  refine cz_Met (by decide) rfl (Nat.le_of_ble_eq_true rfl) hD ?_
  intro p e s m args below meth c hargs S hr hlocks hP ls hl
  have S : cz_Cx p m c b_MO_open 3 s args cz_T "ChainPeersModel" X.1 mo_cl (mo_tys X) cz_N A (mo_wl X) := S
  have hx := S.1.1
  have hb := S.1.2.1
  have hS : va_S A s.heap s.heap [] := va_S.rf
  have hl : lv_has ls 3 [(0, .ref (X.2.1 0)), (1, .int a1)] := hl
  refine lv_iload_n hx hb d_MO_open_0 rfl (lv_at hl 1 rfl) ?_
  obtain ⟨r1, M1, hq1, h⟩ := cz_ubi h
  refine iv_MO_114 (rest := []) S hl.1 hP hS (c_MO_isPeer l hD M a1 hq1) ⟨Nat.le_of_ble_eq_true rfl, Nat.le_of_ble_eq_true rfl⟩ (Nat.le_of_ble_eq_true rfl) rfl d_MO_open_1 (fun H locs hP hS => ?_)
  refine lv_if_ne (tgt := 9) hx hb d_MO_open_4 rfl (fun hc => ?_) (fun hc => ?_)
  · have h := cz_f hc h
    refine lv_aload_n hx hb d_MO_open_9 rfl (lv_at hl 0 rfl) ?_
    refine gf_MO_19 S hP d_MO_open_10 ?_
    refine lv_iload_n hx hb d_MO_open_13 rfl (lv_at hl 1 rfl) ?_
    obtain ⟨hin14, h⟩ := cz_ck h
    refine mo_ia S hP mo_k4 hin14 d_MO_open_14 ?_
    refine lv_if_eq (tgt := 20) hx hb d_MO_open_15 rfl (fun hc => ?_) (fun hc => ?_)
    · have h := cz_t hc h
      refine lv_aload_n hx hb d_MO_open_20 rfl (lv_at hl 0 rfl) ?_
      refine gf_MO_19 S hP d_MO_open_21 ?_
      refine lv_iload_n hx hb d_MO_open_24 rfl (lv_at hl 1 rfl) ?_
      refine lv_iconst (v := 1) hx hb d_MO_open_25 (by decide) ?_
      obtain ⟨hin26, h⟩ := cz_ck h
      refine mo_is S hP hS mo_k4 hin26 d_MO_open_26 (fun H locs hP hS => ?_)
      refine lv_aload_n hx hb d_MO_open_27 rfl (lv_at hl 0 rfl) ?_
      refine gf_MO_25 S hP d_MO_open_28 ?_
      refine lv_iload_n hx hb d_MO_open_31 rfl (lv_at hl 1 rfl) ?_
      refine lv_iconst (v := 0) hx hb d_MO_open_32 (by decide) ?_
      obtain ⟨hin33, h⟩ := cz_ck h
      refine mo_is S hP hS mo_k6 hin33 d_MO_open_33 (fun H locs hP hS => ?_)
      refine lv_aload_n hx hb d_MO_open_34 rfl (lv_at hl 0 rfl) ?_
      refine gf_MO_28 S hP d_MO_open_35 ?_
      refine lv_iload_n hx hb d_MO_open_38 rfl (lv_at hl 1 rfl) ?_
      refine lv_iconst (v := 0) hx hb d_MO_open_39 (by decide) ?_
      obtain ⟨hin40, h⟩ := cz_ck h
      refine mo_is S hP hS mo_k7 hin40 d_MO_open_40 (fun H locs hP hS => ?_)
      refine lv_aload_n hx hb d_MO_open_41 rfl (lv_at hl 0 rfl) ?_
      refine lv_iconst (v := 1) hx hb d_MO_open_42 (by decide) ?_
      obtain ⟨r43, M43, hq43, h⟩ := cz_ubi h
      refine iv_MO_98 (rest := []) S hl.1 hP hS (c_MO_greatest l hD (cz_i (cz_i (cz_i M1 4 a1.toNatClampNeg (1 : Int32)) 6 a1.toNatClampNeg (0 : Int32)) 7 a1.toNatClampNeg (0 : Int32)) (1 : Int32) hq43) ⟨Nat.le_of_ble_eq_true rfl, Nat.le_of_ble_eq_true rfl⟩ (Nat.le_of_ble_eq_true rfl) rfl d_MO_open_43 (fun H locs hP hS => ?_)
      refine lv_istore_n (lv' := [(2, .int r43), (0, .ref (X.2.1 0)), (1, .int a1)]) hx hb d_MO_open_46 rfl hl (by decide) rfl (fun ls hl => ?_)
      refine lv_aload_n hx hb d_MO_open_47 rfl (lv_at hl 1 rfl) ?_
      refine lv_iconst (v := 0) hx hb d_MO_open_48 (by decide) ?_
      refine lv_aload_n hx hb d_MO_open_49 rfl (lv_at hl 1 rfl) ?_
      refine gf_MO_64 S hP d_MO_open_50 ?_
      obtain ⟨M53, hq53, h⟩ := cz_ubv h
      refine iv_MO_149 (rest := []) S hl.1 hP hS (c_MO_start l hD M43 (0 : Int32) (M43.1 0 0) hq53) ⟨Nat.le_of_ble_eq_true rfl, Nat.le_of_ble_eq_true rfl⟩ (Nat.le_of_ble_eq_true rfl) rfl d_MO_open_53 (fun H locs hP hS => ?_)
      refine lv_aload_n hx hb d_MO_open_56 rfl (lv_at hl 1 rfl) ?_
      refine lv_aload_n hx hb d_MO_open_57 rfl (lv_at hl 1 rfl) ?_
      refine gf_MO_7 S hP d_MO_open_58 ?_
      refine lv_iconst (v := 5) hx hb d_MO_open_61 (by decide) ?_
      refine lv_iload_n hx hb d_MO_open_62 rfl (lv_at hl 0 rfl) ?_
      refine lv_imul hx hb d_MO_open_63 ?_
      refine lv_iconst (v := 1) hx hb d_MO_open_64 (by decide) ?_
      refine lv_iadd hx hb d_MO_open_65 ?_
      obtain ⟨hin66, h⟩ := cz_ck h
      refine mo_ia S hP mo_k1 hin66 d_MO_open_66 ?_
      obtain ⟨M67, hq67, h⟩ := cz_ubv h
      refine iv_MO_107 (rest := []) S hl.1 hP hS (c_MO_write l hD M53 (M53.1 1 (((5 : Int32) * r43) + (1 : Int32)).toNatClampNeg) hq67) ⟨Nat.le_of_ble_eq_true rfl, Nat.le_of_ble_eq_true rfl⟩ (Nat.le_of_ble_eq_true rfl) rfl d_MO_open_67 (fun H locs hP hS => ?_)
      refine lv_aload_n hx hb d_MO_open_70 rfl (lv_at hl 1 rfl) ?_
      refine lv_iload_n hx hb d_MO_open_71 rfl (lv_at hl 2 rfl) ?_
      obtain ⟨M72, hq72, h⟩ := cz_ubv h
      refine iv_MO_152 (rest := []) S hl.1 hP hS (c_MO_post l hD M67 a1 hq72) ⟨Nat.le_of_ble_eq_true rfl, Nat.le_of_ble_eq_true rfl⟩ (Nat.le_of_ble_eq_true rfl) rfl d_MO_open_72 (fun H locs hP hS => ?_)
      refine lv_iconst (v := 1) hx hb d_MO_open_75 (by decide) ?_
      exact cz_zreth S hr hlocks hP hS h rfl d_MO_open_76
    have h := cz_f hc h
    refine lv_iconst (v := 0) hx hb d_MO_open_18 (by decide) ?_
    exact cz_zreth S hr hlocks hP hS h rfl d_MO_open_19
  have h := cz_t hc h
  refine lv_iconst (v := 0) hx hb d_MO_open_7 (by decide) ?_
  exact cz_zreth S hr hlocks hP hS h rfl d_MO_open_8
set_option maxHeartbeats 4000000 in
set_option maxRecDepth 100000 in
theorem c_MO_close (l : Launch) {X : cz_X} {A : Nat → Prop} (hD : ∀ M, va_D A (mo_wl X M)) (M : cz_M) (a1 : Int32) {r2 : Int32} {M2 : cz_M} (h : f_MO_close M a1 = some (r2, M2)) : mo_Ct l X A y_MO_close (Cond.code y_MO_close b_MO_close 2 (some .boolean) :: cz_T) rm_MO_close [.ref (X.2.1 0), .int a1] M (some (.int r2)) M2 := by
  refine cz_Met (by decide) rfl (Nat.le_of_ble_eq_true rfl) hD ?_
  intro p e s m args below meth c hargs S hr hlocks hP ls hl
  have S : cz_Cx p m c b_MO_close 2 s args cz_T "ChainPeersModel" X.1 mo_cl (mo_tys X) cz_N A (mo_wl X) := S
  have hx := S.1.1
  have hb := S.1.2.1
  have hS : va_S A s.heap s.heap [] := va_S.rf
  have hl : lv_has ls 2 [(0, .ref (X.2.1 0)), (1, .int a1)] := hl
  have hb31 : ∀ (M : cz_M), b_MO_close_31 a1 M = some (r2, M2) → ∀ (H : Heap) (locs : List Loc) (ls : Array Slot), va_P X.1 mo_cl (mo_wl X M) H → va_S A s.heap H locs → lv_has ls 2 [(0, .ref (X.2.1 0)), (1, .int a1)] → W p l e rm_MO_close s m args below meth c H locs 0 0 (MQ below (cz_Qw X.1 mo_cl (some (.int r2)) (mo_wl X M2) A) args s 0 0 A) (F0 m 31 ls []) := by
    intro M h H locs ls hP hS hl
    refine lv_aload_n hx hb d_MO_close_31 rfl (lv_at hl 0 rfl) ?_
    refine lv_iload_n hx hb d_MO_close_32 rfl (lv_at hl 1 rfl) ?_
    refine lv_iconst (v := 0) hx hb d_MO_close_33 (by decide) ?_
    obtain ⟨M34, hq34, h⟩ := cz_ubv h
    refine iv_MO_145 (rest := []) S hl.1 hP hS (c_MO_leave l hD M a1 (0 : Int32) hq34) ⟨Nat.le_of_ble_eq_true rfl, Nat.le_of_ble_eq_true rfl⟩ (Nat.le_of_ble_eq_true rfl) rfl d_MO_close_34 (fun H locs hP hS => ?_)
    refine lv_iconst (v := 1) hx hb d_MO_close_37 (by decide) ?_
    exact cz_zreth S hr hlocks hP hS h rfl d_MO_close_38
  refine lv_iload_n hx hb d_MO_close_0 rfl (lv_at hl 1 rfl) ?_
  obtain ⟨r1, M1, hq1, h⟩ := cz_ubi h
  refine iv_MO_114 (rest := []) S hl.1 hP hS (c_MO_isPeer l hD M a1 hq1) ⟨Nat.le_of_ble_eq_true rfl, Nat.le_of_ble_eq_true rfl⟩ (Nat.le_of_ble_eq_true rfl) rfl d_MO_close_1 (fun H locs hP hS => ?_)
  refine lv_if_ne (tgt := 9) hx hb d_MO_close_4 rfl (fun hc => ?_) (fun hc => ?_)
  · have h := cz_f hc h
    refine lv_aload_n hx hb d_MO_close_9 rfl (lv_at hl 0 rfl) ?_
    refine gf_MO_19 S hP d_MO_close_10 ?_
    refine lv_iload_n hx hb d_MO_close_13 rfl (lv_at hl 1 rfl) ?_
    obtain ⟨hin14, h⟩ := cz_ck h
    refine mo_ia S hP mo_k4 hin14 d_MO_close_14 ?_
    refine lv_iconst (v := 1) hx hb d_MO_close_15 (by decide) ?_
    refine lv_icmp_eq (tgt := 31) hx hb d_MO_close_16 rfl (fun hc => ?_) (fun hc => ?_)
    · have h := cz_t hc h
      exact hb31 M1 h _ _ _ hP hS (lv_sub hl [0, 1] rfl)
    have h := cz_f hc h
    refine lv_aload_n hx hb d_MO_close_19 rfl (lv_at hl 0 rfl) ?_
    refine gf_MO_19 S hP d_MO_close_20 ?_
    refine lv_iload_n hx hb d_MO_close_23 rfl (lv_at hl 1 rfl) ?_
    obtain ⟨hin24, h⟩ := cz_ck h
    refine mo_ia S hP mo_k4 hin24 d_MO_close_24 ?_
    refine lv_iconst (v := 2) hx hb d_MO_close_25 (by decide) ?_
    refine lv_icmp_eq (tgt := 31) hx hb d_MO_close_26 rfl (fun hc => ?_) (fun hc => ?_)
    · have h := cz_t hc h
      exact hb31 M1 h _ _ _ hP hS (lv_sub hl [0, 1] rfl)
    have h := cz_f hc h
    refine lv_iconst (v := 0) hx hb d_MO_close_29 (by decide) ?_
    exact cz_zreth S hr hlocks hP hS h rfl d_MO_close_30
  have h := cz_t hc h
  refine lv_iconst (v := 0) hx hb d_MO_close_7 (by decide) ?_
  exact cz_zreth S hr hlocks hP hS h rfl d_MO_close_8
