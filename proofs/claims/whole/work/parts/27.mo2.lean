set_option maxHeartbeats 4000000 in
set_option maxRecDepth 100000 in
theorem c_MO_greet (l : Launch) {X : cz_X} {A : Nat → Prop} (hD : ∀ M, va_D A (mo_wl X M)) (M : cz_M) (a1 : Int32) (a2 : Int32) {r2 : Int32} {M2 : cz_M} (h : f_MO_greet M a1 a2 = some (r2, M2)) : mo_Ct l X A y_MO_greet (Cond.code y_MO_greet b_MO_greet 3 (some .boolean) :: cz_T) rm_MO_greet [.ref (X.2.1 0), .int a1, .int a2] M (some (.int r2)) M2 := by
  refine cz_Met (by decide) rfl (Nat.le_of_ble_eq_true rfl) hD ?_
  intro p e s m args below meth c hargs S hr hlocks hP ls hl
  have S : cz_Cx p m c b_MO_greet 3 s args cz_T "ChainPeersModel" X.1 mo_cl (mo_tys X) cz_N A (mo_wl X) := S
  have hx := S.1.1
  have hb := S.1.2.1
  have hS : va_S A s.heap s.heap [] := va_S.rf
  have hl : lv_has ls 3 [(0, .ref (X.2.1 0)), (1, .int a1), (2, .int a2)] := hl
  refine lv_iload_n hx hb d_MO_greet_0 rfl (lv_at hl 2 rfl) ?_
  refine lv_if_eq (tgt := 11) hx hb d_MO_greet_1 rfl (fun hc => ?_) (fun hc => ?_)
  · have h := cz_t hc h
    refine lv_aload_n hx hb d_MO_greet_11 rfl (lv_at hl 0 rfl) ?_
    refine gf_MO_55 S hP d_MO_greet_12 ?_
    refine lv_iconst (v := 0) hx hb d_MO_greet_15 (by decide) ?_
    obtain ⟨hin16, h⟩ := cz_ck h
    refine mo_ia S hP mo_k16 hin16 d_MO_greet_16 ?_
    refine lv_aload_n hx hb d_MO_greet_17 rfl (lv_at hl 0 rfl) ?_
    refine gf_MO_64 S hP d_MO_greet_18 ?_
    refine lv_icmp_ne (tgt := 46) hx hb d_MO_greet_21 rfl (fun hc => ?_) (fun hc => ?_)
    · have h := cz_f hc h
      refine lv_aload_n hx hb d_MO_greet_46 rfl (lv_at hl 0 rfl) ?_
      refine lv_iload_n hx hb d_MO_greet_47 rfl (lv_at hl 1 rfl) ?_
      refine lv_iconst (v := 0) hx hb d_MO_greet_48 (by decide) ?_
      obtain ⟨M49, hq49, h⟩ := cz_ubv h
      refine iv_MO_145 (rest := []) S hl.1 hP hS (c_MO_leave l hD M a1 (0 : Int32) hq49) ⟨Nat.le_of_ble_eq_true rfl, Nat.le_of_ble_eq_true rfl⟩ (Nat.le_of_ble_eq_true rfl) rfl d_MO_greet_49 (fun H locs hP hS => ?_)
      refine lv_iconst (v := 1) hx hb d_MO_greet_52 (by decide) ?_
      exact cz_zreth S hr hlocks hP hS h rfl d_MO_greet_53
    have h := cz_t hc h
    refine lv_aload_n hx hb d_MO_greet_24 rfl (lv_at hl 0 rfl) ?_
    refine gf_MO_19 S hP d_MO_greet_25 ?_
    refine lv_iload_n hx hb d_MO_greet_28 rfl (lv_at hl 1 rfl) ?_
    refine lv_iconst (v := 2) hx hb d_MO_greet_29 (by decide) ?_
    obtain ⟨hin30, h⟩ := cz_ck h
    refine mo_is S hP hS mo_k4 hin30 d_MO_greet_30 (fun H locs hP hS => ?_)
    refine lv_aload_n hx hb d_MO_greet_31 rfl (lv_at hl 0 rfl) ?_
    refine gf_MO_25 S hP d_MO_greet_32 ?_
    refine lv_iload_n hx hb d_MO_greet_35 rfl (lv_at hl 1 rfl) ?_
    refine lv_aload_n hx hb d_MO_greet_36 rfl (lv_at hl 0 rfl) ?_
    refine gf_MO_55 S hP d_MO_greet_37 ?_
    refine lv_iconst (v := 1) hx hb d_MO_greet_40 (by decide) ?_
    obtain ⟨hin41, h⟩ := cz_ck h
    refine mo_ia S hP mo_k16 hin41 d_MO_greet_41 ?_
    obtain ⟨hin42, h⟩ := cz_ck h
    refine mo_is S hP hS mo_k6 hin42 d_MO_greet_42 (fun H locs hP hS => ?_)
    refine lv_goto (tgt := 52) hx hb d_MO_greet_43 rfl ?_
    refine lv_iconst (v := 1) hx hb d_MO_greet_52 (by decide) ?_
    exact cz_zreth S hr hlocks hP hS h rfl d_MO_greet_53
  have h := cz_f hc h
  refine lv_aload_n hx hb d_MO_greet_4 rfl (lv_at hl 0 rfl) ?_
  refine lv_iload_n hx hb d_MO_greet_5 rfl (lv_at hl 1 rfl) ?_
  refine lv_iconst (v := 2) hx hb d_MO_greet_6 (by decide) ?_
  obtain ⟨r7, M7, hq7, h⟩ := cz_ubi h
  refine iv_MO_159 (rest := []) S hl.1 hP hS (c_MO_fault l hD M a1 (2 : Int32) hq7) ⟨Nat.le_of_ble_eq_true rfl, Nat.le_of_ble_eq_true rfl⟩ (Nat.le_of_ble_eq_true rfl) rfl d_MO_greet_7 (fun H locs hP hS => ?_)
  obtain ⟨hz, h⟩ := cz_ckp h
  exact cz_zreth S hr hlocks hP hS h (cz_nb hz) d_MO_greet_10
set_option maxHeartbeats 4000000 in
set_option maxRecDepth 100000 in
theorem c_MO_taken (l : Launch) {X : cz_X} {A : Nat → Prop} (hD : ∀ M, va_D A (mo_wl X M)) (M : cz_M) (a1 : Int32) {r2 : Int32} {M2 : cz_M} (h : f_MO_taken M a1 = some (r2, M2)) : mo_Ct l X A y_MO_taken (Cond.code y_MO_taken b_MO_taken 6 (some .boolean) :: cz_T) rm_MO_taken [.ref (X.2.1 0), .int a1] M (some (.int r2)) M2 := by
  refine cz_Met (by decide) rfl (Nat.le_of_ble_eq_true rfl) hD ?_
  intro p e s m args below meth c hargs S hr hlocks hP ls hl
  have S : cz_Cx p m c b_MO_taken 6 s args cz_T "ChainPeersModel" X.1 mo_cl (mo_tys X) cz_N A (mo_wl X) := S
  have hx := S.1.1
  have hb := S.1.2.1
  have hS : va_S A s.heap s.heap [] := va_S.rf
  have hl : lv_has ls 6 [(0, .ref (X.2.1 0)), (1, .int a1)] := hl
  have hb104 : ∀ (M : cz_M), b_MO_taken_104 a1 M = some (r2, M2) → ∀ (H : Heap) (locs : List Loc) (ls : Array Slot), va_P X.1 mo_cl (mo_wl X M) H → va_S A s.heap H locs → lv_has ls 6 [(0, .ref (X.2.1 0)), (1, .int a1)] → W p l e rm_MO_taken s m args below meth c H locs 0 0 (MQ below (cz_Qw X.1 mo_cl (some (.int r2)) (mo_wl X M2) A) args s 0 0 A) (F0 m 104 ls []) := by
    intro M h H locs ls hP hS hl
    refine lv_aload_n hx hb d_MO_taken_104 rfl (lv_at hl 0 rfl) ?_
    refine gf_MO_28 S hP d_MO_taken_105 ?_
    refine lv_iload_n hx hb d_MO_taken_108 rfl (lv_at hl 1 rfl) ?_
    refine lv_iconst (v := 0) hx hb d_MO_taken_109 (by decide) ?_
    obtain ⟨hin110, h⟩ := cz_ck h
    refine mo_is S hP hS mo_k7 hin110 d_MO_taken_110 (fun H locs hP hS => ?_)
    refine lv_aload_n hx hb d_MO_taken_111 rfl (lv_at hl 0 rfl) ?_
    refine lv_iload_n hx hb d_MO_taken_112 rfl (lv_at hl 1 rfl) ?_
    obtain ⟨r113, M113, hq113, h⟩ := cz_ubi h
    refine iv_MO_187 (rest := []) S hl.1 hP hS (c_MO_merit l hD (cz_i M 7 a1.toNatClampNeg (0 : Int32)) a1 hq113) ⟨Nat.le_of_ble_eq_true rfl, Nat.le_of_ble_eq_true rfl⟩ (Nat.le_of_ble_eq_true rfl) rfl d_MO_taken_113 (fun H locs hP hS => ?_)
    obtain ⟨hz, h⟩ := cz_ckp h
    exact cz_zreth S hr hlocks hP hS h (cz_nb hz) d_MO_taken_116
  have hb63 : ∀ (M : cz_M), b_MO_taken_63 a1 M = some (r2, M2) → ∀ (H : Heap) (locs : List Loc) (ls : Array Slot), va_P X.1 mo_cl (mo_wl X M) H → va_S A s.heap H locs → lv_has ls 6 [(0, .ref (X.2.1 0)), (1, .int a1)] → W p l e rm_MO_taken s m args below meth c H locs 0 0 (MQ below (cz_Qw X.1 mo_cl (some (.int r2)) (mo_wl X M2) A) args s 0 0 A) (F0 m 63 ls []) := by
    intro M h H locs ls hP hS hl
    refine lv_aload_n hx hb d_MO_taken_63 rfl (lv_at hl 0 rfl) ?_
    refine lv_iload_n hx hb d_MO_taken_64 rfl (lv_at hl 1 rfl) ?_
    refine lv_iconst (v := 2) hx hb d_MO_taken_65 (by decide) ?_
    obtain ⟨r66, M66, hq66, h⟩ := cz_ubi h
    refine iv_MO_159 (rest := []) S hl.1 hP hS (c_MO_fault l hD M a1 (2 : Int32) hq66) ⟨Nat.le_of_ble_eq_true rfl, Nat.le_of_ble_eq_true rfl⟩ (Nat.le_of_ble_eq_true rfl) rfl d_MO_taken_66 (fun H locs hP hS => ?_)
    obtain ⟨hz, h⟩ := cz_ckp h
    exact cz_zreth S hr hlocks hP hS h (cz_nb hz) d_MO_taken_69
  have hb7 : ∀ (n : Nat) (M : cz_M) (v2 : Int32) (v3 : Int32) (v4 : Int32), cz_lp4 (l_MO_taken_7 a1) n M v2 v3 v4 = some (r2, M2) → ∀ (H : Heap) (locs : List Loc) (ls : Array Slot), va_P X.1 mo_cl (mo_wl X M) H → va_S A s.heap H locs → lv_has ls 6 [(0, .ref (X.2.1 0)), (1, .int a1), (2, .int v2), (3, .int v3), (4, .int v4)] → W p l e rm_MO_taken s m args below meth c H locs 0 0 (MQ below (cz_Qw X.1 mo_cl (some (.int r2)) (mo_wl X M2) A) args s 0 0 A) (F0 m 7 ls []) := by
    refine cz_ind4 (fun rec7 ih7 M v2 v3 v4 h H locs ls hP hS hl => ?_)
    have hb95 : ∀ (M : cz_M) (v3 : Int32) (v4 : Int32) (v5 : Int32), b_MO_taken_95 a1 rec7 M v3 v4 v5 = some (r2, M2) → ∀ (H : Heap) (locs : List Loc) (ls : Array Slot), va_P X.1 mo_cl (mo_wl X M) H → va_S A s.heap H locs → lv_has ls 6 [(0, .ref (X.2.1 0)), (1, .int a1), (3, .int v3), (4, .int v4), (5, .int v5)] → W p l e rm_MO_taken s m args below meth c H locs 0 0 (MQ below (cz_Qw X.1 mo_cl (some (.int r2)) (mo_wl X M2) A) args s 0 0 A) (F0 m 95 ls []) := by
      intro M v3 v4 v5 h H locs ls hP hS hl
      refine lv_iload hx hb d_MO_taken_95 (lv_at hl 4 rfl) ?_
      refine lv_istore_n (lv' := [(2, .int v5), (0, .ref (X.2.1 0)), (1, .int a1), (3, .int v3), (4, .int v4), (5, .int v5)]) hx hb d_MO_taken_97 rfl hl (by decide) rfl (fun ls hl => ?_)
      refine lv_iinc (lv' := [(4, .int (v4 + 5)), (2, .int v5), (0, .ref (X.2.1 0)), (1, .int a1), (3, .int v3), (5, .int v5)]) (v := v4 + 5) (k := 4) hx hb d_MO_taken_98 hl rfl (cz_inc5 _) (by decide) rfl (fun ls hl => ?_)
      refine lv_goto (tgt := 7) hx hb d_MO_taken_101 rfl ?_
      exact ih7 M v5 v3 (v4 + 5) h _ _ _ hP hS (lv_sub hl [2, 3, 1, 4, 0] rfl)
    have hb84 : ∀ (M : cz_M) (v4 : Int32) (v5 : Int32) (s0 : Int32), b_MO_taken_84 a1 rec7 M v4 v5 s0 = some (r2, M2) → ∀ (H : Heap) (locs : List Loc) (ls : Array Slot), va_P X.1 mo_cl (mo_wl X M) H → va_S A s.heap H locs → lv_has ls 6 [(0, .ref (X.2.1 0)), (1, .int a1), (4, .int v4), (5, .int v5)] → W p l e rm_MO_taken s m args below meth c H locs 0 0 (MQ below (cz_Qw X.1 mo_cl (some (.int r2)) (mo_wl X M2) A) args s 0 0 A) (F0 m 84 ls [.int s0]) := by
      intro M v4 v5 s0 h H locs ls hP hS hl
      refine lv_istore_n (lv' := [(3, .int s0), (0, .ref (X.2.1 0)), (1, .int a1), (4, .int v4), (5, .int v5)]) hx hb d_MO_taken_84 rfl hl (by decide) rfl (fun ls hl => ?_)
      refine lv_iload_n hx hb d_MO_taken_85 rfl (lv_at hl 0 rfl) ?_
      refine lv_if_eq (tgt := 95) hx hb d_MO_taken_86 rfl (fun hc => ?_) (fun hc => ?_)
      · have h := cz_t hc h
        exact hb95 M s0 v4 v5 h _ _ _ hP hS (lv_sub hl [1, 2, 0, 3, 4] rfl)
      have h := cz_f hc h
      refine lv_aload_n hx hb d_MO_taken_89 rfl (lv_at hl 1 rfl) ?_
      refine lv_iload hx hb d_MO_taken_90 (lv_at hl 3 rfl) ?_
      obtain ⟨M92, hq92, h⟩ := cz_ubv h
      refine iv_MO_184 (rest := []) S hl.1 hP hS (c_MO_add l hD M v4 hq92) ⟨Nat.le_of_ble_eq_true rfl, Nat.le_of_ble_eq_true rfl⟩ (Nat.le_of_ble_eq_true rfl) rfl d_MO_taken_92 (fun H locs hP hS => ?_)
      exact hb95 M92 s0 v4 v5 h _ _ _ hP hS (lv_sub hl [1, 2, 0, 3, 4] rfl)
    have hb70 : ∀ (M : cz_M) (v4 : Int32) (v5 : Int32), b_MO_taken_70 a1 rec7 M v4 v5 = some (r2, M2) → ∀ (H : Heap) (locs : List Loc) (ls : Array Slot), va_P X.1 mo_cl (mo_wl X M) H → va_S A s.heap H locs → lv_has ls 6 [(0, .ref (X.2.1 0)), (1, .int a1), (4, .int v4), (5, .int v5)] → W p l e rm_MO_taken s m args below meth c H locs 0 0 (MQ below (cz_Qw X.1 mo_cl (some (.int r2)) (mo_wl X M2) A) args s 0 0 A) (F0 m 70 ls []) := by
      intro M v4 v5 h H locs ls hP hS hl
      refine lv_aload_n hx hb d_MO_taken_70 rfl (lv_at hl 0 rfl) ?_
      refine gf_MO_71 S hP d_MO_taken_71 ?_
      refine lv_bipush (v := 20) hx hb d_MO_taken_74 (by decide) ?_
      refine lv_icmp_ge (tgt := 83) hx hb d_MO_taken_76 rfl (fun hc => ?_) (fun hc => ?_)
      · have h := cz_t hc h
        refine lv_iconst (v := 0) hx hb d_MO_taken_83 (by decide) ?_
        exact hb84 M v4 v5 (0 : Int32) h _ _ _ hP hS (lv_sub hl [0, 1, 2, 3] rfl)
      have h := cz_f hc h
      refine lv_iconst (v := 1) hx hb d_MO_taken_79 (by decide) ?_
      refine lv_goto (tgt := 84) hx hb d_MO_taken_80 rfl ?_
      exact hb84 M v4 v5 (1 : Int32) h _ _ _ hP hS (lv_sub hl [0, 1, 2, 3] rfl)
    refine lv_iload hx hb d_MO_taken_7 (lv_at hl 4 rfl) ?_
    refine lv_aload_n hx hb d_MO_taken_9 rfl (lv_at hl 0 rfl) ?_
    refine gf_MO_132 S hP d_MO_taken_10 ?_
    refine lv_icmp_ge (tgt := 104) hx hb d_MO_taken_13 rfl (fun hc => ?_) (fun hc => ?_)
    · have h := cz_t hc h
      exact hb104 M h _ _ _ hP hS (lv_sub hl [0, 1] rfl)
    have h := cz_f hc h
    refine lv_iload_n hx hb d_MO_taken_16 rfl (lv_at hl 3 rfl) ?_
    refine lv_if_eq (tgt := 104) hx hb d_MO_taken_17 rfl (fun hc => ?_) (fun hc => ?_)
    · have h := cz_t hc h
      exact hb104 M h _ _ _ hP hS (lv_sub hl [0, 1] rfl)
    have h := cz_f hc h
    refine lv_aload_n hx hb d_MO_taken_20 rfl (lv_at hl 0 rfl) ?_
    refine lv_iconst (v := 0) hx hb d_MO_taken_21 (by decide) ?_
    refine lv_iload hx hb d_MO_taken_22 (lv_at hl 4 rfl) ?_
    obtain ⟨r24, M24, hq24, h⟩ := cz_ubi h
    refine iv_MO_80 (rest := []) S hl.1 hP hS (c_MO_hash l hD M (0 : Int32) v4 hq24) ⟨Nat.le_of_ble_eq_true rfl, Nat.le_of_ble_eq_true rfl⟩ (Nat.le_of_ble_eq_true rfl) rfl d_MO_taken_24 (fun H locs hP hS => ?_)
    refine lv_istore (lv' := [(5, .int r24), (0, .ref (X.2.1 0)), (1, .int a1), (2, .int v2), (3, .int v3), (4, .int v4)]) hx hb d_MO_taken_27 hl (by decide) rfl (fun ls hl => ?_)
    refine lv_aload_n hx hb d_MO_taken_29 rfl (lv_at hl 1 rfl) ?_
    refine lv_iload hx hb d_MO_taken_30 (lv_at hl 0 rfl) ?_
    obtain ⟨r32, M32, hq32, h⟩ := cz_ubi h
    refine iv_MO_84 (rest := []) S hl.1 hP hS (c_MO_blockOf l hD M24 r24 hq32) ⟨Nat.le_of_ble_eq_true rfl, Nat.le_of_ble_eq_true rfl⟩ (Nat.le_of_ble_eq_true rfl) rfl d_MO_taken_32 (fun H locs hP hS => ?_)
    refine lv_if_ge (tgt := 95) hx hb d_MO_taken_35 rfl (fun hc => ?_) (fun hc => ?_)
    · have h := cz_t hc h
      exact hb95 M32 v3 v4 r24 h _ _ _ hP hS (lv_sub hl [1, 2, 4, 5, 0] rfl)
    have h := cz_f hc h
    refine lv_aload_n hx hb d_MO_taken_38 rfl (lv_at hl 1 rfl) ?_
    refine lv_iload hx hb d_MO_taken_39 (lv_at hl 5 rfl) ?_
    obtain ⟨r41, M41, hq41, h⟩ := cz_ubi h
    refine iv_MO_181 (rest := []) S hl.1 hP hS (c_MO_good l hD M32 v4 hq41) ⟨Nat.le_of_ble_eq_true rfl, Nat.le_of_ble_eq_true rfl⟩ (Nat.le_of_ble_eq_true rfl) rfl d_MO_taken_41 (fun H locs hP hS => ?_)
    refine lv_if_eq (tgt := 63) hx hb d_MO_taken_44 rfl (fun hc => ?_) (fun hc => ?_)
    · have h := cz_t hc h
      exact hb63 M41 h _ _ _ hP hS (lv_sub hl [1, 2] rfl)
    have h := cz_f hc h
    refine lv_iload hx hb d_MO_taken_47 (lv_at hl 5 rfl) ?_
    refine lv_if_le (tgt := 70) hx hb d_MO_taken_49 rfl (fun hc => ?_) (fun hc => ?_)
    · have h := cz_t hc h
      exact hb70 M41 v4 r24 h _ _ _ hP hS (lv_sub hl [1, 2, 5, 0] rfl)
    have h := cz_f hc h
    refine lv_aload_n hx hb d_MO_taken_52 rfl (lv_at hl 1 rfl) ?_
    refine gf_MO_58 S hP d_MO_taken_53 ?_
    refine lv_iload hx hb d_MO_taken_56 (lv_at hl 5 rfl) ?_
    obtain ⟨hin58, h⟩ := cz_ck h
    refine mo_ia S hP mo_k17 hin58 d_MO_taken_58 ?_
    refine lv_iload_n hx hb d_MO_taken_59 rfl (lv_at hl 3 rfl) ?_
    refine lv_icmp_eq (tgt := 70) hx hb d_MO_taken_60 rfl (fun hc => ?_) (fun hc => ?_)
    · have h := cz_t hc h
      exact hb70 M41 v4 r24 h _ _ _ hP hS (lv_sub hl [1, 2, 5, 0] rfl)
    have h := cz_f hc h
    exact hb63 M41 h _ _ _ hP hS (lv_sub hl [1, 2] rfl)
  refine lv_iconst (v := 0) hx hb d_MO_taken_0 (by decide) ?_
  refine lv_istore_n (lv' := [(2, .int (0 : Int32)), (0, .ref (X.2.1 0)), (1, .int a1)]) hx hb d_MO_taken_1 rfl hl (by decide) rfl (fun ls hl => ?_)
  refine lv_iconst (v := 1) hx hb d_MO_taken_2 (by decide) ?_
  refine lv_istore_n (lv' := [(3, .int (1 : Int32)), (2, .int (0 : Int32)), (0, .ref (X.2.1 0)), (1, .int a1)]) hx hb d_MO_taken_3 rfl hl (by decide) rfl (fun ls hl => ?_)
  refine lv_iconst (v := 0) hx hb d_MO_taken_4 (by decide) ?_
  refine lv_istore (lv' := [(4, .int (0 : Int32)), (3, .int (1 : Int32)), (2, .int (0 : Int32)), (0, .ref (X.2.1 0)), (1, .int a1)]) hx hb d_MO_taken_5 hl (by decide) rfl (fun ls hl => ?_)
  exact hb7 _ M (0 : Int32) (1 : Int32) (0 : Int32) h _ _ _ hP hS (lv_sub hl [3, 4, 2, 1, 0] rfl)
set_option maxHeartbeats 4000000 in
set_option maxRecDepth 100000 in
theorem c_MO_headers (l : Launch) {X : cz_X} {A : Nat → Prop} (hD : ∀ M, va_D A (mo_wl X M)) (M : cz_M) (a1 : Int32) {r2 : Int32} {M2 : cz_M} (h : f_MO_headers M a1 = some (r2, M2)) : mo_Ct l X A y_MO_headers (Cond.code y_MO_headers b_MO_headers 3 (some .boolean) :: cz_T) rm_MO_headers [.ref (X.2.1 0), .int a1] M (some (.int r2)) M2 := by
  refine cz_Met (by decide) rfl (Nat.le_of_ble_eq_true rfl) hD ?_
  intro p e s m args below meth c hargs S hr hlocks hP ls hl
  have S : cz_Cx p m c b_MO_headers 3 s args cz_T "ChainPeersModel" X.1 mo_cl (mo_tys X) cz_N A (mo_wl X) := S
  have hx := S.1.1
  have hb := S.1.2.1
  have hS : va_S A s.heap s.heap [] := va_S.rf
  have hl : lv_has ls 3 [(0, .ref (X.2.1 0)), (1, .int a1)] := hl
  have hb25 : ∀ (M : cz_M), b_MO_headers_25 a1 M = some (r2, M2) → ∀ (H : Heap) (locs : List Loc) (ls : Array Slot), va_P X.1 mo_cl (mo_wl X M) H → va_S A s.heap H locs → lv_has ls 3 [(0, .ref (X.2.1 0)), (1, .int a1)] → W p l e rm_MO_headers s m args below meth c H locs 0 0 (MQ below (cz_Qw X.1 mo_cl (some (.int r2)) (mo_wl X M2) A) args s 0 0 A) (F0 m 25 ls []) := by
    intro M h H locs ls hP hS hl
    refine lv_aload_n hx hb d_MO_headers_25 rfl (lv_at hl 0 rfl) ?_
    refine lv_iload_n hx hb d_MO_headers_26 rfl (lv_at hl 1 rfl) ?_
    refine lv_iconst (v := 1) hx hb d_MO_headers_27 (by decide) ?_
    obtain ⟨r28, M28, hq28, h⟩ := cz_ubi h
    refine iv_MO_159 (rest := []) S hl.1 hP hS (c_MO_fault l hD M a1 (1 : Int32) hq28) ⟨Nat.le_of_ble_eq_true rfl, Nat.le_of_ble_eq_true rfl⟩ (Nat.le_of_ble_eq_true rfl) rfl d_MO_headers_28 (fun H locs hP hS => ?_)
    obtain ⟨hz, h⟩ := cz_ckp h
    exact cz_zreth S hr hlocks hP hS h (cz_nb hz) d_MO_headers_31
  have hb131 : ∀ (M : cz_M), b_MO_headers_131 a1 M = some (r2, M2) → ∀ (H : Heap) (locs : List Loc) (ls : Array Slot), va_P X.1 mo_cl (mo_wl X M) H → va_S A s.heap H locs → lv_has ls 3 [(0, .ref (X.2.1 0)), (1, .int a1)] → W p l e rm_MO_headers s m args below meth c H locs 0 0 (MQ below (cz_Qw X.1 mo_cl (some (.int r2)) (mo_wl X M2) A) args s 0 0 A) (F0 m 131 ls []) := by
    intro M h H locs ls hP hS hl
    refine lv_aload_n hx hb d_MO_headers_131 rfl (lv_at hl 0 rfl) ?_
    refine lv_iload_n hx hb d_MO_headers_132 rfl (lv_at hl 1 rfl) ?_
    obtain ⟨r133, M133, hq133, h⟩ := cz_ubi h
    refine iv_MO_178 (rest := []) S hl.1 hP hS (c_MO_taken l hD M a1 hq133) ⟨Nat.le_of_ble_eq_true rfl, Nat.le_of_ble_eq_true rfl⟩ (Nat.le_of_ble_eq_true rfl) rfl d_MO_headers_133 (fun H locs hP hS => ?_)
    obtain ⟨hz, h⟩ := cz_ckp h
    exact cz_zreth S hr hlocks hP hS h (cz_nb hz) d_MO_headers_136
  refine lv_aload_n hx hb d_MO_headers_0 rfl (lv_at hl 0 rfl) ?_
  refine gf_MO_31 S hP d_MO_headers_1 ?_
  refine lv_iload_n hx hb d_MO_headers_4 rfl (lv_at hl 1 rfl) ?_
  obtain ⟨hin5, h⟩ := cz_ck h
  refine mo_ia S hP mo_k8 hin5 d_MO_headers_5 ?_
  refine lv_iconst (v := 1) hx hb d_MO_headers_6 (by decide) ?_
  refine lv_icmp_ne (tgt := 25) hx hb d_MO_headers_7 rfl (fun hc => ?_) (fun hc => ?_)
  · have h := cz_f hc h
    exact hb25 M h _ _ _ hP hS (lv_sub hl [0, 1] rfl)
  have h := cz_t hc h
  refine lv_aload_n hx hb d_MO_headers_10 rfl (lv_at hl 0 rfl) ?_
  refine gf_MO_37 S hP d_MO_headers_11 ?_
  refine lv_iload_n hx hb d_MO_headers_14 rfl (lv_at hl 1 rfl) ?_
  obtain ⟨hin15, h⟩ := cz_ck h
  refine mo_ia S hP mo_k10 hin15 d_MO_headers_15 ?_
  refine lv_aload_n hx hb d_MO_headers_16 rfl (lv_at hl 0 rfl) ?_
  refine gf_MO_55 S hP d_MO_headers_17 ?_
  refine lv_iconst (v := 0) hx hb d_MO_headers_20 (by decide) ?_
  obtain ⟨hin21, h⟩ := cz_ck h
  refine mo_ia S hP mo_k16 hin21 d_MO_headers_21 ?_
  refine lv_icmp_eq (tgt := 32) hx hb d_MO_headers_22 rfl (fun hc => ?_) (fun hc => ?_)
  · have h := cz_t hc h
    refine lv_aload_n hx hb d_MO_headers_32 rfl (lv_at hl 0 rfl) ?_
    refine gf_MO_31 S hP d_MO_headers_33 ?_
    refine lv_iload_n hx hb d_MO_headers_36 rfl (lv_at hl 1 rfl) ?_
    refine lv_iconst (v := 0) hx hb d_MO_headers_37 (by decide) ?_
    obtain ⟨hin38, h⟩ := cz_ck h
    refine mo_is S hP hS mo_k8 hin38 d_MO_headers_38 (fun H locs hP hS => ?_)
    refine lv_aload_n hx hb d_MO_headers_39 rfl (lv_at hl 0 rfl) ?_
    refine gf_MO_37 S hP d_MO_headers_40 ?_
    refine lv_iload_n hx hb d_MO_headers_43 rfl (lv_at hl 1 rfl) ?_
    refine lv_iconst (v := 0) hx hb d_MO_headers_44 (by decide) ?_
    obtain ⟨hin45, h⟩ := cz_ck h
    refine mo_is S hP hS mo_k10 hin45 d_MO_headers_45 (fun H locs hP hS => ?_)
    refine lv_aload_n hx hb d_MO_headers_46 rfl (lv_at hl 0 rfl) ?_
    refine gf_MO_132 S hP d_MO_headers_47 ?_
    refine lv_if_ne (tgt := 69) hx hb d_MO_headers_50 rfl (fun hc => ?_) (fun hc => ?_)
    · have h := cz_f hc h
      refine lv_aload_n hx hb d_MO_headers_69 rfl (lv_at hl 0 rfl) ?_
      refine gf_MO_58 S hP d_MO_headers_70 ?_
      refine lv_iconst (v := 1) hx hb d_MO_headers_73 (by decide) ?_
      obtain ⟨hin74, h⟩ := cz_ck h
      refine mo_ia S hP mo_k17 hin74 d_MO_headers_74 ?_
      refine lv_aload_n hx hb d_MO_headers_75 rfl (lv_at hl 0 rfl) ?_
      refine gf_MO_34 S hP d_MO_headers_76 ?_
      refine lv_iload_n hx hb d_MO_headers_79 rfl (lv_at hl 1 rfl) ?_
      obtain ⟨hin80, h⟩ := cz_ck h
      refine mo_ia S hP mo_k9 hin80 d_MO_headers_80 ?_
      refine lv_icmp_eq (tgt := 91) hx hb d_MO_headers_81 rfl (fun hc => ?_) (fun hc => ?_)
      · have h := cz_t hc h
        refine lv_aload_n hx hb d_MO_headers_91 rfl (lv_at hl 0 rfl) ?_
        refine lv_iconst (v := 0) hx hb d_MO_headers_92 (by decide) ?_
        refine lv_iconst (v := 0) hx hb d_MO_headers_93 (by decide) ?_
        obtain ⟨r94, M94, hq94, h⟩ := cz_ubi h
        refine iv_MO_80 (rest := []) S hl.1 hP hS (c_MO_hash l hD (cz_i (cz_i M 8 a1.toNatClampNeg (0 : Int32)) 10 a1.toNatClampNeg (0 : Int32)) (0 : Int32) (0 : Int32) hq94) ⟨Nat.le_of_ble_eq_true rfl, Nat.le_of_ble_eq_true rfl⟩ (Nat.le_of_ble_eq_true rfl) rfl d_MO_headers_94 (fun H locs hP hS => ?_)
        refine lv_istore_n (lv' := [(2, .int r94), (0, .ref (X.2.1 0)), (1, .int a1)]) hx hb d_MO_headers_97 rfl hl (by decide) rfl (fun ls hl => ?_)
        refine lv_aload_n hx hb d_MO_headers_98 rfl (lv_at hl 1 rfl) ?_
        refine lv_iload_n hx hb d_MO_headers_99 rfl (lv_at hl 0 rfl) ?_
        obtain ⟨r100, M100, hq100, h⟩ := cz_ubi h
        refine iv_MO_84 (rest := []) S hl.1 hP hS (c_MO_blockOf l hD M94 r94 hq100) ⟨Nat.le_of_ble_eq_true rfl, Nat.le_of_ble_eq_true rfl⟩ (Nat.le_of_ble_eq_true rfl) rfl d_MO_headers_100 (fun H locs hP hS => ?_)
        refine lv_if_ge (tgt := 131) hx hb d_MO_headers_103 rfl (fun hc => ?_) (fun hc => ?_)
        · have h := cz_t hc h
          exact hb131 M100 h _ _ _ hP hS (lv_sub hl [1, 2] rfl)
        have h := cz_f hc h
        refine lv_aload_n hx hb d_MO_headers_106 rfl (lv_at hl 1 rfl) ?_
        refine lv_aload_n hx hb d_MO_headers_107 rfl (lv_at hl 1 rfl) ?_
        refine gf_MO_58 S hP d_MO_headers_108 ?_
        refine lv_iconst (v := 0) hx hb d_MO_headers_111 (by decide) ?_
        obtain ⟨hin112, h⟩ := cz_ck h
        refine mo_ia S hP mo_k17 hin112 d_MO_headers_112 ?_
        obtain ⟨r113, M113, hq113, h⟩ := cz_ubi h
        refine iv_MO_84 (rest := []) S hl.1 hP hS (c_MO_blockOf l hD M100 (M100.1 17 (0 : Int32).toNatClampNeg) hq113) ⟨Nat.le_of_ble_eq_true rfl, Nat.le_of_ble_eq_true rfl⟩ (Nat.le_of_ble_eq_true rfl) rfl d_MO_headers_113 (fun H locs hP hS => ?_)
        refine lv_if_ge (tgt := 131) hx hb d_MO_headers_116 rfl (fun hc => ?_) (fun hc => ?_)
        · have h := cz_t hc h
          exact hb131 M113 h _ _ _ hP hS (lv_sub hl [1, 2] rfl)
        have h := cz_f hc h
        refine lv_aload_n hx hb d_MO_headers_119 rfl (lv_at hl 1 rfl) ?_
        refine gf_MO_28 S hP d_MO_headers_120 ?_
        refine lv_iload_n hx hb d_MO_headers_123 rfl (lv_at hl 2 rfl) ?_
        refine lv_dup2_11 hx hb d_MO_headers_124 rfl rfl ?_
        obtain ⟨hin125, h⟩ := cz_ck h
        refine mo_ia S hP mo_k7 hin125 d_MO_headers_125 ?_
        refine lv_iconst (v := 1) hx hb d_MO_headers_126 (by decide) ?_
        refine lv_iadd hx hb d_MO_headers_127 ?_
        obtain ⟨hin128, h⟩ := cz_ck h
        refine mo_is S hP hS mo_k7 hin128 d_MO_headers_128 (fun H locs hP hS => ?_)
        refine lv_iconst (v := 1) hx hb d_MO_headers_129 (by decide) ?_
        exact cz_zreth S hr hlocks hP hS h rfl d_MO_headers_130
      have h := cz_f hc h
      refine lv_aload_n hx hb d_MO_headers_84 rfl (lv_at hl 0 rfl) ?_
      refine lv_iload_n hx hb d_MO_headers_85 rfl (lv_at hl 1 rfl) ?_
      refine lv_iconst (v := 2) hx hb d_MO_headers_86 (by decide) ?_
      obtain ⟨r87, M87, hq87, h⟩ := cz_ubi h
      refine iv_MO_159 (rest := []) S hl.1 hP hS (c_MO_fault l hD (cz_i (cz_i M 8 a1.toNatClampNeg (0 : Int32)) 10 a1.toNatClampNeg (0 : Int32)) a1 (2 : Int32) hq87) ⟨Nat.le_of_ble_eq_true rfl, Nat.le_of_ble_eq_true rfl⟩ (Nat.le_of_ble_eq_true rfl) rfl d_MO_headers_87 (fun H locs hP hS => ?_)
      obtain ⟨hz, h⟩ := cz_ckp h
      exact cz_zreth S hr hlocks hP hS h (cz_nb hz) d_MO_headers_90
    have h := cz_t hc h
    refine lv_aload_n hx hb d_MO_headers_53 rfl (lv_at hl 0 rfl) ?_
    refine gf_MO_25 S hP d_MO_headers_54 ?_
    refine lv_iload_n hx hb d_MO_headers_57 rfl (lv_at hl 1 rfl) ?_
    refine lv_aload_n hx hb d_MO_headers_58 rfl (lv_at hl 0 rfl) ?_
    refine gf_MO_34 S hP d_MO_headers_59 ?_
    refine lv_iload_n hx hb d_MO_headers_62 rfl (lv_at hl 1 rfl) ?_
    obtain ⟨hin63, h⟩ := cz_ck h
    refine mo_ia S hP mo_k9 hin63 d_MO_headers_63 ?_
    refine lv_iconst (v := 1) hx hb d_MO_headers_64 (by decide) ?_
    refine lv_isub hx hb d_MO_headers_65 ?_
    obtain ⟨hin66, h⟩ := cz_ck h
    refine mo_is S hP hS mo_k6 hin66 d_MO_headers_66 (fun H locs hP hS => ?_)
    refine lv_iconst (v := 1) hx hb d_MO_headers_67 (by decide) ?_
    exact cz_zreth S hr hlocks hP hS h rfl d_MO_headers_68
  have h := cz_f hc h
  exact hb25 M h _ _ _ hP hS (lv_sub hl [0, 1] rfl)
set_option maxHeartbeats 4000000 in
set_option maxRecDepth 100000 in
theorem c_MO_body (l : Launch) {X : cz_X} {A : Nat → Prop} (hD : ∀ M, va_D A (mo_wl X M)) (M : cz_M) (a1 : Int32) {r2 : Int32} {M2 : cz_M} (h : f_MO_body M a1 = some (r2, M2)) : mo_Ct l X A y_MO_body (Cond.code y_MO_body b_MO_body 5 (some .boolean) :: cz_T) rm_MO_body [.ref (X.2.1 0), .int a1] M (some (.int r2)) M2 := by
  refine cz_Met (by decide) rfl (Nat.le_of_ble_eq_true rfl) hD ?_
  intro p e s m args below meth c hargs S hr hlocks hP ls hl
  have S : cz_Cx p m c b_MO_body 5 s args cz_T "ChainPeersModel" X.1 mo_cl (mo_tys X) cz_N A (mo_wl X) := S
  have hx := S.1.1
  have hb := S.1.2.1
  have hS : va_S A s.heap s.heap [] := va_S.rf
  have hl : lv_has ls 5 [(0, .ref (X.2.1 0)), (1, .int a1)] := hl
  have hb25 : ∀ (M : cz_M), b_MO_body_25 a1 M = some (r2, M2) → ∀ (H : Heap) (locs : List Loc) (ls : Array Slot), va_P X.1 mo_cl (mo_wl X M) H → va_S A s.heap H locs → lv_has ls 5 [(0, .ref (X.2.1 0)), (1, .int a1)] → W p l e rm_MO_body s m args below meth c H locs 0 0 (MQ below (cz_Qw X.1 mo_cl (some (.int r2)) (mo_wl X M2) A) args s 0 0 A) (F0 m 25 ls []) := by
    intro M h H locs ls hP hS hl
    refine lv_aload_n hx hb d_MO_body_25 rfl (lv_at hl 0 rfl) ?_
    refine lv_iload_n hx hb d_MO_body_26 rfl (lv_at hl 1 rfl) ?_
    refine lv_iconst (v := 1) hx hb d_MO_body_27 (by decide) ?_
    obtain ⟨r28, M28, hq28, h⟩ := cz_ubi h
    refine iv_MO_159 (rest := []) S hl.1 hP hS (c_MO_fault l hD M a1 (1 : Int32) hq28) ⟨Nat.le_of_ble_eq_true rfl, Nat.le_of_ble_eq_true rfl⟩ (Nat.le_of_ble_eq_true rfl) rfl d_MO_body_28 (fun H locs hP hS => ?_)
    obtain ⟨hz, h⟩ := cz_ckp h
    exact cz_zreth S hr hlocks hP hS h (cz_nb hz) d_MO_body_31
  have hb156 : ∀ (M : cz_M), b_MO_body_156 a1 M = some (r2, M2) → ∀ (H : Heap) (locs : List Loc) (ls : Array Slot), va_P X.1 mo_cl (mo_wl X M) H → va_S A s.heap H locs → lv_has ls 5 [(0, .ref (X.2.1 0)), (1, .int a1)] → W p l e rm_MO_body s m args below meth c H locs 0 0 (MQ below (cz_Qw X.1 mo_cl (some (.int r2)) (mo_wl X M2) A) args s 0 0 A) (F0 m 156 ls []) := by
    intro M h H locs ls hP hS hl
    refine lv_aload_n hx hb d_MO_body_156 rfl (lv_at hl 0 rfl) ?_
    refine lv_iload_n hx hb d_MO_body_157 rfl (lv_at hl 1 rfl) ?_
    obtain ⟨r158, M158, hq158, h⟩ := cz_ubi h
    refine iv_MO_187 (rest := []) S hl.1 hP hS (c_MO_merit l hD M a1 hq158) ⟨Nat.le_of_ble_eq_true rfl, Nat.le_of_ble_eq_true rfl⟩ (Nat.le_of_ble_eq_true rfl) rfl d_MO_body_158 (fun H locs hP hS => ?_)
    obtain ⟨hz, h⟩ := cz_ckp h
    exact cz_zreth S hr hlocks hP hS h (cz_nb hz) d_MO_body_161
  have hb122 : ∀ (n : Nat) (M : cz_M) (v2 : Int32) (v4 : Int32), cz_lp3 (l_MO_body_122 a1) n M v2 v4 = some (r2, M2) → ∀ (H : Heap) (locs : List Loc) (ls : Array Slot), va_P X.1 mo_cl (mo_wl X M) H → va_S A s.heap H locs → lv_has ls 5 [(0, .ref (X.2.1 0)), (1, .int a1), (2, .int v2), (4, .int v4)] → W p l e rm_MO_body s m args below meth c H locs 0 0 (MQ below (cz_Qw X.1 mo_cl (some (.int r2)) (mo_wl X M2) A) args s 0 0 A) (F0 m 122 ls []) := by
    refine cz_ind3 (fun rec122 ih122 M v2 v4 h H locs ls hP hS hl => ?_)
    refine lv_iload hx hb d_MO_body_122 (lv_at hl 3 rfl) ?_
    refine lv_aload_n hx hb d_MO_body_124 rfl (lv_at hl 0 rfl) ?_
    refine gf_MO_132 S hP d_MO_body_125 ?_
    refine lv_icmp_ge (tgt := 156) hx hb d_MO_body_128 rfl (fun hc => ?_) (fun hc => ?_)
    · have h := cz_t hc h
      exact hb156 M h _ _ _ hP hS (lv_sub hl [0, 1] rfl)
    have h := cz_f hc h
    refine lv_aload_n hx hb d_MO_body_131 rfl (lv_at hl 0 rfl) ?_
    refine gf_MO_13 S hP d_MO_body_132 ?_
    refine lv_bipush (v := 8) hx hb d_MO_body_135 (by decide) ?_
    refine lv_iload_n hx hb d_MO_body_137 rfl (lv_at hl 2 rfl) ?_
    refine lv_imul hx hb d_MO_body_138 ?_
    refine lv_iload hx hb d_MO_body_139 (lv_at hl 3 rfl) ?_
    refine lv_iadd hx hb d_MO_body_141 ?_
    refine lv_aload_n hx hb d_MO_body_142 rfl (lv_at hl 0 rfl) ?_
    refine gf_MO_58 S hP d_MO_body_143 ?_
    refine lv_iload hx hb d_MO_body_146 (lv_at hl 3 rfl) ?_
    obtain ⟨hin148, h⟩ := cz_ck h
    refine mo_ia S hP mo_k17 hin148 d_MO_body_148 ?_
    obtain ⟨hin149, h⟩ := cz_ck h
    refine mo_is S hP hS mo_k2 hin149 d_MO_body_149 (fun H locs hP hS => ?_)
    refine lv_iinc (lv' := [(4, .int (v4 + 1)), (0, .ref (X.2.1 0)), (1, .int a1), (2, .int v2)]) (v := v4 + 1) (k := 3) hx hb d_MO_body_150 hl rfl (cz_inc1 _) (by decide) rfl (fun ls hl => ?_)
    refine lv_goto (tgt := 122) hx hb d_MO_body_153 rfl ?_
    exact ih122 (cz_i M 2 (((8 : Int32) * v2) + v4).toNatClampNeg (M.1 17 v4.toNatClampNeg)) v2 (v4 + 1) h _ _ _ hP hS (lv_sub hl [1, 2, 3, 0] rfl)
  have hb88 : ∀ (M : cz_M) (v2 : Int32) (v3 : Int32), b_MO_body_88 a1 M v2 v3 = some (r2, M2) → ∀ (H : Heap) (locs : List Loc) (ls : Array Slot), va_P X.1 mo_cl (mo_wl X M) H → va_S A s.heap H locs → lv_has ls 5 [(0, .ref (X.2.1 0)), (1, .int a1), (2, .int v2), (3, .int v3)] → W p l e rm_MO_body s m args below meth c H locs 0 0 (MQ below (cz_Qw X.1 mo_cl (some (.int r2)) (mo_wl X M2) A) args s 0 0 A) (F0 m 88 ls []) := by
    intro M v2 v3 h H locs ls hP hS hl
    refine lv_iload_n hx hb d_MO_body_88 rfl (lv_at hl 3 rfl) ?_
    refine lv_aload_n hx hb d_MO_body_89 rfl (lv_at hl 0 rfl) ?_
    refine gf_MO_7 S hP d_MO_body_90 ?_
    refine lv_iconst (v := 5) hx hb d_MO_body_93 (by decide) ?_
    refine lv_iload_n hx hb d_MO_body_94 rfl (lv_at hl 2 rfl) ?_
    refine lv_imul hx hb d_MO_body_95 ?_
    refine lv_iconst (v := 4) hx hb d_MO_body_96 (by decide) ?_
    refine lv_iadd hx hb d_MO_body_97 ?_
    obtain ⟨hin98, h⟩ := cz_ck h
    refine mo_ia S hP mo_k1 hin98 d_MO_body_98 ?_
    refine lv_icmp_eq (tgt := 109) hx hb d_MO_body_99 rfl (fun hc => ?_) (fun hc => ?_)
    · have h := cz_t hc h
      refine lv_aload_n hx hb d_MO_body_109 rfl (lv_at hl 0 rfl) ?_
      refine gf_MO_16 S hP d_MO_body_110 ?_
      refine lv_iload_n hx hb d_MO_body_113 rfl (lv_at hl 2 rfl) ?_
      refine lv_aload_n hx hb d_MO_body_114 rfl (lv_at hl 0 rfl) ?_
      refine gf_MO_132 S hP d_MO_body_115 ?_
      obtain ⟨hin118, h⟩ := cz_ck h
      refine mo_is S hP hS mo_k3 hin118 d_MO_body_118 (fun H locs hP hS => ?_)
      refine lv_iconst (v := 0) hx hb d_MO_body_119 (by decide) ?_
      refine lv_istore (lv' := [(4, .int (0 : Int32)), (0, .ref (X.2.1 0)), (1, .int a1), (2, .int v2), (3, .int v3)]) hx hb d_MO_body_120 hl (by decide) rfl (fun ls hl => ?_)
      exact hb122 _ (cz_i M 3 v2.toNatClampNeg (M.1 0 24)) v2 (0 : Int32) h _ _ _ hP hS (lv_sub hl [1, 2, 3, 0] rfl)
    have h := cz_f hc h
    refine lv_aload_n hx hb d_MO_body_102 rfl (lv_at hl 0 rfl) ?_
    refine lv_iload_n hx hb d_MO_body_103 rfl (lv_at hl 1 rfl) ?_
    refine lv_iconst (v := 2) hx hb d_MO_body_104 (by decide) ?_
    obtain ⟨r105, M105, hq105, h⟩ := cz_ubi h
    refine iv_MO_159 (rest := []) S hl.1 hP hS (c_MO_fault l hD M a1 (2 : Int32) hq105) ⟨Nat.le_of_ble_eq_true rfl, Nat.le_of_ble_eq_true rfl⟩ (Nat.le_of_ble_eq_true rfl) rfl d_MO_body_105 (fun H locs hP hS => ?_)
    obtain ⟨hz, h⟩ := cz_ckp h
    exact cz_zreth S hr hlocks hP hS h (cz_nb hz) d_MO_body_108
  have hb61 : ∀ (n : Nat) (M : cz_M) (v2 : Int32) (v3 : Int32) (v4 : Int32), cz_lp4 (l_MO_body_61 a1) n M v2 v3 v4 = some (r2, M2) → ∀ (H : Heap) (locs : List Loc) (ls : Array Slot), va_P X.1 mo_cl (mo_wl X M) H → va_S A s.heap H locs → lv_has ls 5 [(0, .ref (X.2.1 0)), (1, .int a1), (2, .int v2), (3, .int v3), (4, .int v4)] → W p l e rm_MO_body s m args below meth c H locs 0 0 (MQ below (cz_Qw X.1 mo_cl (some (.int r2)) (mo_wl X M2) A) args s 0 0 A) (F0 m 61 ls []) := by
    refine cz_ind4 (fun rec61 ih61 M v2 v3 v4 h H locs ls hP hS hl => ?_)
    refine lv_iload hx hb d_MO_body_61 (lv_at hl 4 rfl) ?_
    refine lv_aload_n hx hb d_MO_body_63 rfl (lv_at hl 0 rfl) ?_
    refine gf_MO_132 S hP d_MO_body_64 ?_
    refine lv_icmp_ge (tgt := 88) hx hb d_MO_body_67 rfl (fun hc => ?_) (fun hc => ?_)
    · have h := cz_t hc h
      exact hb88 M v2 v3 h _ _ _ hP hS (lv_sub hl [0, 1, 2, 3] rfl)
    have h := cz_f hc h
    refine lv_iload_n hx hb d_MO_body_70 rfl (lv_at hl 3 rfl) ?_
    refine lv_aload_n hx hb d_MO_body_71 rfl (lv_at hl 0 rfl) ?_
    refine gf_MO_58 S hP d_MO_body_72 ?_
    refine lv_iload hx hb d_MO_body_75 (lv_at hl 4 rfl) ?_
    obtain ⟨hin77, h⟩ := cz_ck h
    refine mo_ia S hP mo_k17 hin77 d_MO_body_77 ?_
    obtain ⟨r78, M78, hq78, h⟩ := cz_ubi h
    refine iv_MO_76 (rest := []) S hl.1 hP hS (c_MO_mix l hD M v3 (M.1 17 v4.toNatClampNeg) hq78) ⟨Nat.le_of_ble_eq_true rfl, Nat.le_of_ble_eq_true rfl⟩ (Nat.le_of_ble_eq_true rfl) rfl d_MO_body_78 (fun H locs hP hS => ?_)
    refine lv_istore_n (lv' := [(3, .int r78), (0, .ref (X.2.1 0)), (1, .int a1), (2, .int v2), (4, .int v4)]) hx hb d_MO_body_81 rfl hl (by decide) rfl (fun ls hl => ?_)
    refine lv_iinc (lv' := [(4, .int (v4 + 1)), (3, .int r78), (0, .ref (X.2.1 0)), (1, .int a1), (2, .int v2)]) (v := v4 + 1) (k := 4) hx hb d_MO_body_82 hl rfl (cz_inc1 _) (by decide) rfl (fun ls hl => ?_)
    refine lv_goto (tgt := 61) hx hb d_MO_body_85 rfl ?_
    exact ih61 M78 v2 r78 (v4 + 1) h _ _ _ hP hS (lv_sub hl [2, 3, 4, 1, 0] rfl)
  refine lv_aload_n hx hb d_MO_body_0 rfl (lv_at hl 0 rfl) ?_
  refine gf_MO_31 S hP d_MO_body_1 ?_
  refine lv_iload_n hx hb d_MO_body_4 rfl (lv_at hl 1 rfl) ?_
  obtain ⟨hin5, h⟩ := cz_ck h
  refine mo_ia S hP mo_k8 hin5 d_MO_body_5 ?_
  refine lv_iconst (v := 2) hx hb d_MO_body_6 (by decide) ?_
  refine lv_icmp_ne (tgt := 25) hx hb d_MO_body_7 rfl (fun hc => ?_) (fun hc => ?_)
  · have h := cz_f hc h
    exact hb25 M h _ _ _ hP hS (lv_sub hl [0, 1] rfl)
  have h := cz_t hc h
  refine lv_aload_n hx hb d_MO_body_10 rfl (lv_at hl 0 rfl) ?_
  refine gf_MO_37 S hP d_MO_body_11 ?_
  refine lv_iload_n hx hb d_MO_body_14 rfl (lv_at hl 1 rfl) ?_
  obtain ⟨hin15, h⟩ := cz_ck h
  refine mo_ia S hP mo_k10 hin15 d_MO_body_15 ?_
  refine lv_aload_n hx hb d_MO_body_16 rfl (lv_at hl 0 rfl) ?_
  refine gf_MO_55 S hP d_MO_body_17 ?_
  refine lv_iconst (v := 0) hx hb d_MO_body_20 (by decide) ?_
  obtain ⟨hin21, h⟩ := cz_ck h
  refine mo_ia S hP mo_k16 hin21 d_MO_body_21 ?_
  refine lv_icmp_eq (tgt := 32) hx hb d_MO_body_22 rfl (fun hc => ?_) (fun hc => ?_)
  · have h := cz_t hc h
    refine lv_aload_n hx hb d_MO_body_32 rfl (lv_at hl 0 rfl) ?_
    refine gf_MO_31 S hP d_MO_body_33 ?_
    refine lv_iload_n hx hb d_MO_body_36 rfl (lv_at hl 1 rfl) ?_
    refine lv_iconst (v := 0) hx hb d_MO_body_37 (by decide) ?_
    obtain ⟨hin38, h⟩ := cz_ck h
    refine mo_is S hP hS mo_k8 hin38 d_MO_body_38 (fun H locs hP hS => ?_)
    refine lv_aload_n hx hb d_MO_body_39 rfl (lv_at hl 0 rfl) ?_
    refine gf_MO_37 S hP d_MO_body_40 ?_
    refine lv_iload_n hx hb d_MO_body_43 rfl (lv_at hl 1 rfl) ?_
    refine lv_iconst (v := 0) hx hb d_MO_body_44 (by decide) ?_
    obtain ⟨hin45, h⟩ := cz_ck h
    refine mo_is S hP hS mo_k10 hin45 d_MO_body_45 (fun H locs hP hS => ?_)
    refine lv_aload_n hx hb d_MO_body_46 rfl (lv_at hl 0 rfl) ?_
    refine gf_MO_34 S hP d_MO_body_47 ?_
    refine lv_iload_n hx hb d_MO_body_50 rfl (lv_at hl 1 rfl) ?_
    obtain ⟨hin51, h⟩ := cz_ck h
    refine mo_ia S hP mo_k9 hin51 d_MO_body_51 ?_
    refine lv_istore_n (lv' := [(2, .int ((cz_i (cz_i M 8 a1.toNatClampNeg (0 : Int32)) 10 a1.toNatClampNeg (0 : Int32)).1 9 a1.toNatClampNeg)), (0, .ref (X.2.1 0)), (1, .int a1)]) hx hb d_MO_body_52 rfl hl (by decide) rfl (fun ls hl => ?_)
    refine lv_aload_n hx hb d_MO_body_53 rfl (lv_at hl 1 rfl) ?_
    refine gf_MO_132 S hP d_MO_body_54 ?_
    refine lv_istore_n (lv' := [(3, .int ((cz_i (cz_i M 8 a1.toNatClampNeg (0 : Int32)) 10 a1.toNatClampNeg (0 : Int32)).1 0 24)), (2, .int ((cz_i (cz_i M 8 a1.toNatClampNeg (0 : Int32)) 10 a1.toNatClampNeg (0 : Int32)).1 9 a1.toNatClampNeg)), (0, .ref (X.2.1 0)), (1, .int a1)]) hx hb d_MO_body_57 rfl hl (by decide) rfl (fun ls hl => ?_)
    refine lv_iconst (v := 0) hx hb d_MO_body_58 (by decide) ?_
    refine lv_istore (lv' := [(4, .int (0 : Int32)), (3, .int ((cz_i (cz_i M 8 a1.toNatClampNeg (0 : Int32)) 10 a1.toNatClampNeg (0 : Int32)).1 0 24)), (2, .int ((cz_i (cz_i M 8 a1.toNatClampNeg (0 : Int32)) 10 a1.toNatClampNeg (0 : Int32)).1 9 a1.toNatClampNeg)), (0, .ref (X.2.1 0)), (1, .int a1)]) hx hb d_MO_body_59 hl (by decide) rfl (fun ls hl => ?_)
    exact hb61 _ (cz_i (cz_i M 8 a1.toNatClampNeg (0 : Int32)) 10 a1.toNatClampNeg (0 : Int32)) ((cz_i (cz_i M 8 a1.toNatClampNeg (0 : Int32)) 10 a1.toNatClampNeg (0 : Int32)).1 9 a1.toNatClampNeg) ((cz_i (cz_i M 8 a1.toNatClampNeg (0 : Int32)) 10 a1.toNatClampNeg (0 : Int32)).1 0 24) (0 : Int32) h _ _ _ hP hS (lv_sub hl [3, 4, 2, 1, 0] rfl)
  have h := cz_f hc h
  exact hb25 M h _ _ _ hP hS (lv_sub hl [0, 1] rfl)
set_option maxHeartbeats 4000000 in
set_option maxRecDepth 100000 in
theorem c_MO_hear (l : Launch) {X : cz_X} {A : Nat → Prop} (hD : ∀ M, va_D A (mo_wl X M)) (M : cz_M) (a1 : Int32) (a2 : Int32) {r2 : Int32} {M2 : cz_M} (h : f_MO_hear M a1 a2 = some (r2, M2)) : mo_Ct l X A y_MO_hear (Cond.code y_MO_hear b_MO_hear 8 (some .boolean) :: cz_T) rm_MO_hear [.ref (X.2.1 0), .int a1, .int a2] M (some (.int r2)) M2 := by
  refine cz_Met (by decide) rfl (Nat.le_of_ble_eq_true rfl) hD ?_
  intro p e s m args below meth c hargs S hr hlocks hP ls hl
  have S : cz_Cx p m c b_MO_hear 8 s args cz_T "ChainPeersModel" X.1 mo_cl (mo_tys X) cz_N A (mo_wl X) := S
  have hx := S.1.1
  have hb := S.1.2.1
  have hS : va_S A s.heap s.heap [] := va_S.rf
  have hl : lv_has ls 8 [(0, .ref (X.2.1 0)), (1, .int a1), (2, .int a2)] := hl
  have hb245 : ∀ (M : cz_M) (v3 : Int32), b_MO_hear_245 a1 a2 M v3 = some (r2, M2) → ∀ (H : Heap) (locs : List Loc) (ls : Array Slot), va_P X.1 mo_cl (mo_wl X M) H → va_S A s.heap H locs → lv_has ls 8 [(0, .ref (X.2.1 0)), (1, .int a1), (3, .int v3)] → W p l e rm_MO_hear s m args below meth c H locs 0 0 (MQ below (cz_Qw X.1 mo_cl (some (.int r2)) (mo_wl X M2) A) args s 0 0 A) (F0 m 245 ls []) := by
    intro M v3 h H locs ls hP hS hl
    refine lv_aload_n hx hb d_MO_hear_245 rfl (lv_at hl 0 rfl) ?_
    refine lv_iload_n hx hb d_MO_hear_246 rfl (lv_at hl 2 rfl) ?_
    obtain ⟨M247, hq247, h⟩ := cz_ubv h
    refine iv_MO_111 (rest := []) S hl.1 hP hS (c_MO_wrap l hD M v3 hq247) ⟨Nat.le_of_ble_eq_true rfl, Nat.le_of_ble_eq_true rfl⟩ (Nat.le_of_ble_eq_true rfl) rfl d_MO_hear_247 (fun H locs hP hS => ?_)
    refine lv_aload_n hx hb d_MO_hear_250 rfl (lv_at hl 0 rfl) ?_
    refine lv_iload_n hx hb d_MO_hear_251 rfl (lv_at hl 1 rfl) ?_
    obtain ⟨M252, hq252, h⟩ := cz_ubv h
    refine iv_MO_152 (rest := []) S hl.1 hP hS (c_MO_post l hD M247 a1 hq252) ⟨Nat.le_of_ble_eq_true rfl, Nat.le_of_ble_eq_true rfl⟩ (Nat.le_of_ble_eq_true rfl) rfl d_MO_hear_252 (fun H locs hP hS => ?_)
    refine lv_iconst (v := 1) hx hb d_MO_hear_255 (by decide) ?_
    exact cz_zreth S hr hlocks hP hS h rfl d_MO_hear_256
  have hb210 : ∀ (n : Nat) (M : cz_M) (v3 : Int32) (v4 : Int32) (v5 : Int32), cz_lp4 (l_MO_hear_210 a1 a2) n M v3 v4 v5 = some (r2, M2) → ∀ (H : Heap) (locs : List Loc) (ls : Array Slot), va_P X.1 mo_cl (mo_wl X M) H → va_S A s.heap H locs → lv_has ls 8 [(0, .ref (X.2.1 0)), (1, .int a1), (3, .int v3), (4, .int v4), (5, .int v5)] → W p l e rm_MO_hear s m args below meth c H locs 0 0 (MQ below (cz_Qw X.1 mo_cl (some (.int r2)) (mo_wl X M2) A) args s 0 0 A) (F0 m 210 ls []) := by
    refine cz_ind4 (fun rec210 ih210 M v3 v4 v5 h H locs ls hP hS hl => ?_)
    refine lv_iload hx hb d_MO_hear_210 (lv_at hl 4 rfl) ?_
    refine lv_aload_n hx hb d_MO_hear_212 rfl (lv_at hl 0 rfl) ?_
    refine gf_MO_16 S hP d_MO_hear_213 ?_
    refine lv_iload hx hb d_MO_hear_216 (lv_at hl 3 rfl) ?_
    obtain ⟨hin218, h⟩ := cz_ck h
    refine mo_ia S hP mo_k3 hin218 d_MO_hear_218 ?_
    refine lv_icmp_ge (tgt := 245) hx hb d_MO_hear_219 rfl (fun hc => ?_) (fun hc => ?_)
    · have h := cz_t hc h
      exact hb245 M v3 h _ _ _ hP hS (lv_sub hl [0, 1, 2] rfl)
    have h := cz_f hc h
    refine lv_aload_n hx hb d_MO_hear_222 rfl (lv_at hl 0 rfl) ?_
    refine lv_aload_n hx hb d_MO_hear_223 rfl (lv_at hl 0 rfl) ?_
    refine gf_MO_13 S hP d_MO_hear_224 ?_
    refine lv_bipush (v := 8) hx hb d_MO_hear_227 (by decide) ?_
    refine lv_iload hx hb d_MO_hear_229 (lv_at hl 3 rfl) ?_
    refine lv_imul hx hb d_MO_hear_231 ?_
    refine lv_iload hx hb d_MO_hear_232 (lv_at hl 4 rfl) ?_
    refine lv_iadd hx hb d_MO_hear_234 ?_
    obtain ⟨hin235, h⟩ := cz_ck h
    refine mo_ia S hP mo_k2 hin235 d_MO_hear_235 ?_
    obtain ⟨M236, hq236, h⟩ := cz_ubv h
    refine iv_MO_107 (rest := []) S hl.1 hP hS (c_MO_write l hD M (M.1 2 (((8 : Int32) * v4) + v5).toNatClampNeg) hq236) ⟨Nat.le_of_ble_eq_true rfl, Nat.le_of_ble_eq_true rfl⟩ (Nat.le_of_ble_eq_true rfl) rfl d_MO_hear_236 (fun H locs hP hS => ?_)
    refine lv_iinc (lv' := [(5, .int (v5 + 1)), (0, .ref (X.2.1 0)), (1, .int a1), (3, .int v3), (4, .int v4)]) (v := v5 + 1) (k := 4) hx hb d_MO_hear_239 hl rfl (cz_inc1 _) (by decide) rfl (fun ls hl => ?_)
    refine lv_goto (tgt := 210) hx hb d_MO_hear_242 rfl ?_
    exact ih210 M236 v3 v4 (v5 + 1) h _ _ _ hP hS (lv_sub hl [1, 2, 3, 4, 0] rfl)
  have hb168 : ∀ (M : cz_M) (v3 : Int32), b_MO_hear_168 a1 a2 M v3 = some (r2, M2) → ∀ (H : Heap) (locs : List Loc) (ls : Array Slot), va_P X.1 mo_cl (mo_wl X M) H → va_S A s.heap H locs → lv_has ls 8 [(0, .ref (X.2.1 0)), (1, .int a1), (3, .int v3)] → W p l e rm_MO_hear s m args below meth c H locs 0 0 (MQ below (cz_Qw X.1 mo_cl (some (.int r2)) (mo_wl X M2) A) args s 0 0 A) (F0 m 168 ls []) := by
    intro M v3 h H locs ls hP hS hl
    refine lv_aload_n hx hb d_MO_hear_168 rfl (lv_at hl 0 rfl) ?_
    refine lv_iload_n hx hb d_MO_hear_169 rfl (lv_at hl 2 rfl) ?_
    obtain ⟨M170, hq170, h⟩ := cz_ubv h
    refine iv_MO_111 (rest := []) S hl.1 hP hS (c_MO_wrap l hD M v3 hq170) ⟨Nat.le_of_ble_eq_true rfl, Nat.le_of_ble_eq_true rfl⟩ (Nat.le_of_ble_eq_true rfl) rfl d_MO_hear_170 (fun H locs hP hS => ?_)
    refine lv_aload_n hx hb d_MO_hear_173 rfl (lv_at hl 0 rfl) ?_
    refine lv_iload_n hx hb d_MO_hear_174 rfl (lv_at hl 1 rfl) ?_
    obtain ⟨M175, hq175, h⟩ := cz_ubv h
    refine iv_MO_152 (rest := []) S hl.1 hP hS (c_MO_post l hD M170 a1 hq175) ⟨Nat.le_of_ble_eq_true rfl, Nat.le_of_ble_eq_true rfl⟩ (Nat.le_of_ble_eq_true rfl) rfl d_MO_hear_175 (fun H locs hP hS => ?_)
    refine lv_iconst (v := 1) hx hb d_MO_hear_178 (by decide) ?_
    exact cz_zreth S hr hlocks hP hS h rfl d_MO_hear_179
  have hb66 : ∀ (n : Nat) (M : cz_M) (v3 : Int32) (v4 : Int32), cz_lp3 (l_MO_hear_66 a1 a2) n M v3 v4 = some (r2, M2) → ∀ (H : Heap) (locs : List Loc) (ls : Array Slot), va_P X.1 mo_cl (mo_wl X M) H → va_S A s.heap H locs → lv_has ls 8 [(0, .ref (X.2.1 0)), (1, .int a1), (3, .int v3), (4, .int v4)] → W p l e rm_MO_hear s m args below meth c H locs 0 0 (MQ below (cz_Qw X.1 mo_cl (some (.int r2)) (mo_wl X M2) A) args s 0 0 A) (F0 m 66 ls []) := by
    refine cz_ind3 (fun rec66 ih66 M v3 v4 h H locs ls hP hS hl => ?_)
    have hb162 : ∀ (M : cz_M) (v3 : Int32) (v4 : Int32), b_MO_hear_162 a1 a2 rec66 M v3 v4 = some (r2, M2) → ∀ (H : Heap) (locs : List Loc) (ls : Array Slot), va_P X.1 mo_cl (mo_wl X M) H → va_S A s.heap H locs → lv_has ls 8 [(0, .ref (X.2.1 0)), (1, .int a1), (3, .int v3), (4, .int v4)] → W p l e rm_MO_hear s m args below meth c H locs 0 0 (MQ below (cz_Qw X.1 mo_cl (some (.int r2)) (mo_wl X M2) A) args s 0 0 A) (F0 m 162 ls []) := by
      intro M v3 v4 h H locs ls hP hS hl
      refine lv_iinc (lv' := [(4, .int (v4 + 1)), (0, .ref (X.2.1 0)), (1, .int a1), (3, .int v3)]) (v := v4 + 1) (k := 3) hx hb d_MO_hear_162 hl rfl (cz_inc1 _) (by decide) rfl (fun ls hl => ?_)
      refine lv_goto (tgt := 66) hx hb d_MO_hear_165 rfl ?_
      exact ih66 M v3 (v4 + 1) h _ _ _ hP hS (lv_sub hl [1, 2, 3, 0] rfl)
    have hb151 : ∀ (M : cz_M) (v3 : Int32) (v4 : Int32) (v5 : Int32) (v6 : Int32), b_MO_hear_151 a1 a2 rec66 M v3 v4 v5 v6 = some (r2, M2) → ∀ (H : Heap) (locs : List Loc) (ls : Array Slot), va_P X.1 mo_cl (mo_wl X M) H → va_S A s.heap H locs → lv_has ls 8 [(0, .ref (X.2.1 0)), (1, .int a1), (3, .int v3), (4, .int v4), (5, .int v5), (6, .int v6)] → W p l e rm_MO_hear s m args below meth c H locs 0 0 (MQ below (cz_Qw X.1 mo_cl (some (.int r2)) (mo_wl X M2) A) args s 0 0 A) (F0 m 151 ls []) := by
      intro M v3 v4 v5 v6 h H locs ls hP hS hl
      refine lv_iload hx hb d_MO_hear_151 (lv_at hl 4 rfl) ?_
      refine lv_if_lt (tgt := 162) hx hb d_MO_hear_153 rfl (fun hc => ?_) (fun hc => ?_)
      · have h := cz_t hc h
        exact hb162 M v3 v4 h _ _ _ hP hS (lv_sub hl [0, 1, 2, 3] rfl)
      have h := cz_f hc h
      refine lv_aload_n hx hb d_MO_hear_156 rfl (lv_at hl 0 rfl) ?_
      refine lv_iload hx hb d_MO_hear_157 (lv_at hl 5 rfl) ?_
      obtain ⟨M159, hq159, h⟩ := cz_ubv h
      refine iv_MO_111 (rest := []) S hl.1 hP hS (c_MO_wrap l hD M v6 hq159) ⟨Nat.le_of_ble_eq_true rfl, Nat.le_of_ble_eq_true rfl⟩ (Nat.le_of_ble_eq_true rfl) rfl d_MO_hear_159 (fun H locs hP hS => ?_)
      exact hb162 M159 v3 v4 h _ _ _ hP hS (lv_sub hl [0, 1, 2, 3] rfl)
    have hb118 : ∀ (n : Nat) (M : cz_M) (v3 : Int32) (v4 : Int32) (v5 : Int32) (v6 : Int32) (v7 : Int32), cz_lp6 (l_MO_hear_118 a1 a2 rec66) n M v3 v4 v5 v6 v7 = some (r2, M2) → ∀ (H : Heap) (locs : List Loc) (ls : Array Slot), va_P X.1 mo_cl (mo_wl X M) H → va_S A s.heap H locs → lv_has ls 8 [(0, .ref (X.2.1 0)), (1, .int a1), (3, .int v3), (4, .int v4), (5, .int v5), (6, .int v6), (7, .int v7)] → W p l e rm_MO_hear s m args below meth c H locs 0 0 (MQ below (cz_Qw X.1 mo_cl (some (.int r2)) (mo_wl X M2) A) args s 0 0 A) (F0 m 118 ls []) := by
      refine cz_ind6 (fun rec118 ih118 M v3 v4 v5 v6 v7 h H locs ls hP hS hl => ?_)
      refine lv_iload hx hb d_MO_hear_118 (lv_at hl 6 rfl) ?_
      refine lv_iconst (v := 5) hx hb d_MO_hear_120 (by decide) ?_
      refine lv_icmp_ge (tgt := 151) hx hb d_MO_hear_121 rfl (fun hc => ?_) (fun hc => ?_)
      · have h := cz_t hc h
        exact hb151 M v3 v4 v5 v6 h _ _ _ hP hS (lv_sub hl [0, 1, 2, 3, 4, 5] rfl)
      have h := cz_f hc h
      refine lv_iload hx hb d_MO_hear_124 (lv_at hl 4 rfl) ?_
      refine lv_if_lt (tgt := 151) hx hb d_MO_hear_126 rfl (fun hc => ?_) (fun hc => ?_)
      · have h := cz_t hc h
        exact hb151 M v3 v4 v5 v6 h _ _ _ hP hS (lv_sub hl [0, 1, 2, 3, 4, 5] rfl)
      have h := cz_f hc h
      refine lv_aload_n hx hb d_MO_hear_129 rfl (lv_at hl 0 rfl) ?_
      refine lv_aload_n hx hb d_MO_hear_130 rfl (lv_at hl 0 rfl) ?_
      refine gf_MO_7 S hP d_MO_hear_131 ?_
      refine lv_iconst (v := 5) hx hb d_MO_hear_134 (by decide) ?_
      refine lv_iload hx hb d_MO_hear_135 (lv_at hl 4 rfl) ?_
      refine lv_imul hx hb d_MO_hear_137 ?_
      refine lv_iload hx hb d_MO_hear_138 (lv_at hl 6 rfl) ?_
      refine lv_iadd hx hb d_MO_hear_140 ?_
      obtain ⟨hin141, h⟩ := cz_ck h
      refine mo_ia S hP mo_k1 hin141 d_MO_hear_141 ?_
      obtain ⟨M142, hq142, h⟩ := cz_ubv h
      refine iv_MO_107 (rest := []) S hl.1 hP hS (c_MO_write l hD M (M.1 1 (((5 : Int32) * v5) + v7).toNatClampNeg) hq142) ⟨Nat.le_of_ble_eq_true rfl, Nat.le_of_ble_eq_true rfl⟩ (Nat.le_of_ble_eq_true rfl) rfl d_MO_hear_142 (fun H locs hP hS => ?_)
      refine lv_iinc (lv' := [(7, .int (v7 + 1)), (0, .ref (X.2.1 0)), (1, .int a1), (3, .int v3), (4, .int v4), (5, .int v5), (6, .int v6)]) (v := v7 + 1) (k := 6) hx hb d_MO_hear_145 hl rfl (cz_inc1 _) (by decide) rfl (fun ls hl => ?_)
      refine lv_goto (tgt := 118) hx hb d_MO_hear_148 rfl ?_
      exact ih118 M142 v3 v4 v5 v6 (v7 + 1) h _ _ _ hP hS (lv_sub hl [1, 2, 3, 4, 5, 6, 0] rfl)
    refine lv_iload hx hb d_MO_hear_66 (lv_at hl 3 rfl) ?_
    refine lv_iconst (v := 2) hx hb d_MO_hear_68 (by decide) ?_
    refine lv_icmp_ge (tgt := 168) hx hb d_MO_hear_69 rfl (fun hc => ?_) (fun hc => ?_)
    · have h := cz_t hc h
      exact hb168 M v3 h _ _ _ hP hS (lv_sub hl [0, 1, 2] rfl)
    have h := cz_f hc h
    refine lv_iload hx hb d_MO_hear_72 (lv_at hl 3 rfl) ?_
    refine lv_aload_n hx hb d_MO_hear_74 rfl (lv_at hl 0 rfl) ?_
    refine gf_MO_55 S hP d_MO_hear_75 ?_
    refine lv_iconst (v := 2) hx hb d_MO_hear_78 (by decide) ?_
    obtain ⟨hin79, h⟩ := cz_ck h
    refine mo_ia S hP mo_k16 hin79 d_MO_hear_79 ?_
    refine lv_icmp_ge (tgt := 168) hx hb d_MO_hear_80 rfl (fun hc => ?_) (fun hc => ?_)
    · have h := cz_t hc h
      exact hb168 M v3 h _ _ _ hP hS (lv_sub hl [0, 1, 2] rfl)
    have h := cz_f hc h
    refine lv_aload_n hx hb d_MO_hear_83 rfl (lv_at hl 0 rfl) ?_
    refine gf_MO_55 S hP d_MO_hear_84 ?_
    refine lv_iconst (v := 1) hx hb d_MO_hear_87 (by decide) ?_
    obtain ⟨hin88, h⟩ := cz_ck h
    refine mo_ia S hP mo_k16 hin88 d_MO_hear_88 ?_
    refine lv_bipush (v := 20) hx hb d_MO_hear_89 (by decide) ?_
    refine lv_icmp_ge (tgt := 168) hx hb d_MO_hear_91 rfl (fun hc => ?_) (fun hc => ?_)
    · have h := cz_t hc h
      exact hb168 M v3 h _ _ _ hP hS (lv_sub hl [0, 1, 2] rfl)
    have h := cz_f hc h
    refine lv_aload_n hx hb d_MO_hear_94 rfl (lv_at hl 0 rfl) ?_
    refine lv_aload_n hx hb d_MO_hear_95 rfl (lv_at hl 0 rfl) ?_
    refine gf_MO_55 S hP d_MO_hear_96 ?_
    refine lv_iconst (v := 1) hx hb d_MO_hear_99 (by decide) ?_
    obtain ⟨hin100, h⟩ := cz_ck h
    refine mo_ia S hP mo_k16 hin100 d_MO_hear_100 ?_
    refine lv_iload hx hb d_MO_hear_101 (lv_at hl 3 rfl) ?_
    refine lv_iadd hx hb d_MO_hear_103 ?_
    obtain ⟨r104, M104, hq104, h⟩ := cz_ubi h
    refine iv_MO_175 (rest := []) S hl.1 hP hS (c_MO_ofHead l hD M ((M.1 16 (1 : Int32).toNatClampNeg) + v4) hq104) ⟨Nat.le_of_ble_eq_true rfl, Nat.le_of_ble_eq_true rfl⟩ (Nat.le_of_ble_eq_true rfl) rfl d_MO_hear_104 (fun H locs hP hS => ?_)
    refine lv_istore (lv' := [(5, .int r104), (0, .ref (X.2.1 0)), (1, .int a1), (3, .int v3), (4, .int v4)]) hx hb d_MO_hear_107 hl (by decide) rfl (fun ls hl => ?_)
    refine lv_aload_n hx hb d_MO_hear_109 rfl (lv_at hl 1 rfl) ?_
    refine gf_MO_102 S hP d_MO_hear_110 ?_
    refine lv_istore (lv' := [(6, .int (M104.1 0 26)), (5, .int r104), (0, .ref (X.2.1 0)), (1, .int a1), (3, .int v3), (4, .int v4)]) hx hb d_MO_hear_113 hl (by decide) rfl (fun ls hl => ?_)
    refine lv_iconst (v := 0) hx hb d_MO_hear_115 (by decide) ?_
    refine lv_istore (lv' := [(7, .int (0 : Int32)), (6, .int (M104.1 0 26)), (5, .int r104), (0, .ref (X.2.1 0)), (1, .int a1), (3, .int v3), (4, .int v4)]) hx hb d_MO_hear_116 hl (by decide) rfl (fun ls hl => ?_)
    exact hb118 _ M104 v3 v4 r104 (M104.1 0 26) (0 : Int32) h _ _ _ hP hS (lv_sub hl [3, 4, 5, 6, 2, 1, 0] rfl)
  have hb44 : ∀ (M : cz_M) (s0 : Int32), b_MO_hear_44 a1 a2 M s0 = some (r2, M2) → ∀ (H : Heap) (locs : List Loc) (ls : Array Slot), va_P X.1 mo_cl (mo_wl X M) H → va_S A s.heap H locs → lv_has ls 8 [(0, .ref (X.2.1 0)), (1, .int a1), (2, .int a2)] → W p l e rm_MO_hear s m args below meth c H locs 0 0 (MQ below (cz_Qw X.1 mo_cl (some (.int r2)) (mo_wl X M2) A) args s 0 0 A) (F0 m 44 ls [.int s0, .ref (X.2.1 0)]) := by
    intro M s0 h H locs ls hP hS hl
    refine lv_aload_n hx hb d_MO_hear_44 rfl (lv_at hl 0 rfl) ?_
    refine gf_MO_55 S hP d_MO_hear_45 ?_
    refine lv_iconst (v := 0) hx hb d_MO_hear_48 (by decide) ?_
    obtain ⟨hin49, h⟩ := cz_ck h
    refine mo_ia S hP mo_k16 hin49 d_MO_hear_49 ?_
    obtain ⟨M50, hq50, h⟩ := cz_ubv h
    refine iv_MO_149 (rest := []) S hl.1 hP hS (c_MO_start l hD M s0 (M.1 16 (0 : Int32).toNatClampNeg) hq50) ⟨Nat.le_of_ble_eq_true rfl, Nat.le_of_ble_eq_true rfl⟩ (Nat.le_of_ble_eq_true rfl) rfl d_MO_hear_50 (fun H locs hP hS => ?_)
    refine lv_aload_n hx hb d_MO_hear_53 rfl (lv_at hl 0 rfl) ?_
    refine gf_MO_102 S hP d_MO_hear_54 ?_
    refine lv_istore_n (lv' := [(3, .int (M50.1 0 26)), (0, .ref (X.2.1 0)), (1, .int a1), (2, .int a2)]) hx hb d_MO_hear_57 rfl hl (by decide) rfl (fun ls hl => ?_)
    refine lv_iload_n hx hb d_MO_hear_58 rfl (lv_at hl 3 rfl) ?_
    refine lv_iconst (v := 1) hx hb d_MO_hear_59 (by decide) ?_
    refine lv_icmp_ne (tgt := 180) hx hb d_MO_hear_60 rfl (fun hc => ?_) (fun hc => ?_)
    · have h := cz_f hc h
      refine lv_aload_n hx hb d_MO_hear_180 rfl (lv_at hl 1 rfl) ?_
      refine lv_aload_n hx hb d_MO_hear_181 rfl (lv_at hl 1 rfl) ?_
      refine gf_MO_55 S hP d_MO_hear_182 ?_
      refine lv_iconst (v := 1) hx hb d_MO_hear_185 (by decide) ?_
      obtain ⟨hin186, h⟩ := cz_ck h
      refine mo_ia S hP mo_k16 hin186 d_MO_hear_186 ?_
      obtain ⟨r187, M187, hq187, h⟩ := cz_ubi h
      refine iv_MO_84 (rest := []) S hl.1 hP hS (c_MO_blockOf l hD M50 (M50.1 16 (1 : Int32).toNatClampNeg) hq187) ⟨Nat.le_of_ble_eq_true rfl, Nat.le_of_ble_eq_true rfl⟩ (Nat.le_of_ble_eq_true rfl) rfl d_MO_hear_187 (fun H locs hP hS => ?_)
      refine lv_istore (lv' := [(4, .int r187), (3, .int (M50.1 0 26)), (0, .ref (X.2.1 0)), (1, .int a1), (2, .int a2)]) hx hb d_MO_hear_190 hl (by decide) rfl (fun ls hl => ?_)
      refine lv_iload hx hb d_MO_hear_192 (lv_at hl 0 rfl) ?_
      refine lv_if_lt (tgt := 255) hx hb d_MO_hear_194 rfl (fun hc => ?_) (fun hc => ?_)
      · have h := cz_t hc h
        refine lv_iconst (v := 1) hx hb d_MO_hear_255 (by decide) ?_
        exact cz_zreth S hr hlocks hP hS h rfl d_MO_hear_256
      have h := cz_f hc h
      refine lv_aload_n hx hb d_MO_hear_197 rfl (lv_at hl 2 rfl) ?_
      refine gf_MO_16 S hP d_MO_hear_198 ?_
      refine lv_iload hx hb d_MO_hear_201 (lv_at hl 0 rfl) ?_
      obtain ⟨hin203, h⟩ := cz_ck h
      refine mo_ia S hP mo_k3 hin203 d_MO_hear_203 ?_
      refine lv_if_lt (tgt := 255) hx hb d_MO_hear_204 rfl (fun hc => ?_) (fun hc => ?_)
      · have h := cz_t hc h
        refine lv_iconst (v := 1) hx hb d_MO_hear_255 (by decide) ?_
        exact cz_zreth S hr hlocks hP hS h rfl d_MO_hear_256
      have h := cz_f hc h
      refine lv_iconst (v := 0) hx hb d_MO_hear_207 (by decide) ?_
      refine lv_istore (lv' := [(5, .int (0 : Int32)), (4, .int r187), (3, .int (M50.1 0 26)), (0, .ref (X.2.1 0)), (1, .int a1), (2, .int a2)]) hx hb d_MO_hear_208 hl (by decide) rfl (fun ls hl => ?_)
      exact hb210 _ M187 (M50.1 0 26) r187 (0 : Int32) h _ _ _ hP hS (lv_sub hl [3, 4, 2, 1, 0] rfl)
    have h := cz_t hc h
    refine lv_iconst (v := 0) hx hb d_MO_hear_63 (by decide) ?_
    refine lv_istore (lv' := [(4, .int (0 : Int32)), (3, .int (M50.1 0 26)), (0, .ref (X.2.1 0)), (1, .int a1), (2, .int a2)]) hx hb d_MO_hear_64 hl (by decide) rfl (fun ls hl => ?_)
    exact hb66 _ M50 (M50.1 0 26) (0 : Int32) h _ _ _ hP hS (lv_sub hl [2, 3, 1, 0] rfl)
  refine lv_iload_n hx hb d_MO_hear_0 rfl (lv_at hl 2 rfl) ?_
  refine lv_if_ne (tgt := 11) hx hb d_MO_hear_1 rfl (fun hc => ?_) (fun hc => ?_)
  · have h := cz_f hc h
    refine lv_iload_n hx hb d_MO_hear_11 rfl (lv_at hl 2 rfl) ?_
    refine lv_iconst (v := 2) hx hb d_MO_hear_12 (by decide) ?_
    refine lv_icmp_ne (tgt := 22) hx hb d_MO_hear_13 rfl (fun hc => ?_) (fun hc => ?_)
    · have h := cz_f hc h
      refine lv_iload_n hx hb d_MO_hear_22 rfl (lv_at hl 2 rfl) ?_
      refine lv_iconst (v := 4) hx hb d_MO_hear_23 (by decide) ?_
      refine lv_icmp_ne (tgt := 33) hx hb d_MO_hear_24 rfl (fun hc => ?_) (fun hc => ?_)
      · have h := cz_f hc h
        refine lv_aload_n hx hb d_MO_hear_33 rfl (lv_at hl 0 rfl) ?_
        refine lv_iload_n hx hb d_MO_hear_34 rfl (lv_at hl 2 rfl) ?_
        refine lv_iconst (v := 1) hx hb d_MO_hear_35 (by decide) ?_
        refine lv_icmp_ne (tgt := 43) hx hb d_MO_hear_36 rfl (fun hc => ?_) (fun hc => ?_)
        · have h := cz_f hc h
          refine lv_iconst (v := 4) hx hb d_MO_hear_43 (by decide) ?_
          exact hb44 M (4 : Int32) h _ _ _ hP hS (lv_sub hl [0, 1, 2] rfl)
        have h := cz_t hc h
        refine lv_iconst (v := 2) hx hb d_MO_hear_39 (by decide) ?_
        refine lv_goto (tgt := 44) hx hb d_MO_hear_40 rfl ?_
        exact hb44 M (2 : Int32) h _ _ _ hP hS (lv_sub hl [0, 1, 2] rfl)
      have h := cz_t hc h
      refine lv_aload_n hx hb d_MO_hear_27 rfl (lv_at hl 0 rfl) ?_
      refine lv_iload_n hx hb d_MO_hear_28 rfl (lv_at hl 1 rfl) ?_
      obtain ⟨r29, M29, hq29, h⟩ := cz_ubi h
      refine iv_MO_172 (rest := []) S hl.1 hP hS (c_MO_body l hD M a1 hq29) ⟨Nat.le_of_ble_eq_true rfl, Nat.le_of_ble_eq_true rfl⟩ (Nat.le_of_ble_eq_true rfl) rfl d_MO_hear_29 (fun H locs hP hS => ?_)
      obtain ⟨hz, h⟩ := cz_ckp h
      exact cz_zreth S hr hlocks hP hS h (cz_nb hz) d_MO_hear_32
    have h := cz_t hc h
    refine lv_aload_n hx hb d_MO_hear_16 rfl (lv_at hl 0 rfl) ?_
    refine lv_iload_n hx hb d_MO_hear_17 rfl (lv_at hl 1 rfl) ?_
    obtain ⟨r18, M18, hq18, h⟩ := cz_ubi h
    refine iv_MO_169 (rest := []) S hl.1 hP hS (c_MO_headers l hD M a1 hq18) ⟨Nat.le_of_ble_eq_true rfl, Nat.le_of_ble_eq_true rfl⟩ (Nat.le_of_ble_eq_true rfl) rfl d_MO_hear_18 (fun H locs hP hS => ?_)
    obtain ⟨hz, h⟩ := cz_ckp h
    exact cz_zreth S hr hlocks hP hS h (cz_nb hz) d_MO_hear_21
  have h := cz_t hc h
  refine lv_aload_n hx hb d_MO_hear_4 rfl (lv_at hl 0 rfl) ?_
  refine lv_iload_n hx hb d_MO_hear_5 rfl (lv_at hl 1 rfl) ?_
  refine lv_iconst (v := 2) hx hb d_MO_hear_6 (by decide) ?_
  obtain ⟨r7, M7, hq7, h⟩ := cz_ubi h
  refine iv_MO_159 (rest := []) S hl.1 hP hS (c_MO_fault l hD M a1 (2 : Int32) hq7) ⟨Nat.le_of_ble_eq_true rfl, Nat.le_of_ble_eq_true rfl⟩ (Nat.le_of_ble_eq_true rfl) rfl d_MO_hear_7 (fun H locs hP hS => ?_)
  obtain ⟨hz, h⟩ := cz_ckp h
  exact cz_zreth S hr hlocks hP hS h (cz_nb hz) d_MO_hear_10
set_option maxHeartbeats 4000000 in
set_option maxRecDepth 100000 in
theorem c_MO_receive (l : Launch) {X : cz_X} {A : Nat → Prop} (hD : ∀ M, va_D A (mo_wl X M)) (M : cz_M) (a1 : Int32) {r2 : Int32} {M2 : cz_M} (h : f_MO_receive M a1 = some (r2, M2)) : mo_Ct l X A y_MO_receive (Cond.code y_MO_receive b_MO_receive 4 (some .int) :: cz_T) rm_MO_receive [.ref (X.2.1 0), .int a1] M (some (.int r2)) M2 := by
  refine cz_Met (by decide) rfl (Nat.le_of_ble_eq_true rfl) hD ?_
  intro p e s m args below meth c hargs S hr hlocks hP ls hl
  have S : cz_Cx p m c b_MO_receive 4 s args cz_T "ChainPeersModel" X.1 mo_cl (mo_tys X) cz_N A (mo_wl X) := S
  have hx := S.1.1
  have hb := S.1.2.1
  have hS : va_S A s.heap s.heap [] := va_S.rf
  have hl : lv_has ls 4 [(0, .ref (X.2.1 0)), (1, .int a1)] := hl
  have hb91 : ∀ (M : cz_M) (v2 : Int32) (v3 : Int32), b_MO_receive_91 a1 M v2 v3 = some (r2, M2) → ∀ (H : Heap) (locs : List Loc) (ls : Array Slot), va_P X.1 mo_cl (mo_wl X M) H → va_S A s.heap H locs → lv_has ls 4 [(2, .int v2), (3, .int v3)] → W p l e rm_MO_receive s m args below meth c H locs 0 0 (MQ below (cz_Qw X.1 mo_cl (some (.int r2)) (mo_wl X M2) A) args s 0 0 A) (F0 m 91 ls []) := by
    intro M v2 v3 h H locs ls hP hS hl
    refine lv_iload_n hx hb d_MO_receive_91 rfl (lv_at hl 1 rfl) ?_
    refine lv_if_eq (tgt := 99) hx hb d_MO_receive_92 rfl (fun hc => ?_) (fun hc => ?_)
    · have h := cz_t hc h
      refine lv_bipush (v := -3) hx hb d_MO_receive_99 (by decide) ?_
      exact cz_ireth S hr hlocks hP hS h d_MO_receive_101
    have h := cz_f hc h
    refine lv_iload_n hx hb d_MO_receive_95 rfl (lv_at hl 0 rfl) ?_
    refine lv_goto (tgt := 101) hx hb d_MO_receive_96 rfl ?_
    exact cz_ireth S hr hlocks hP hS h d_MO_receive_101
  have hb90 : ∀ (M : cz_M) (v2 : Int32) (s0 : Int32), b_MO_receive_90 a1 M v2 s0 = some (r2, M2) → ∀ (H : Heap) (locs : List Loc) (ls : Array Slot), va_P X.1 mo_cl (mo_wl X M) H → va_S A s.heap H locs → lv_has ls 4 [(2, .int v2)] → W p l e rm_MO_receive s m args below meth c H locs 0 0 (MQ below (cz_Qw X.1 mo_cl (some (.int r2)) (mo_wl X M2) A) args s 0 0 A) (F0 m 90 ls [.int s0]) := by
    intro M v2 s0 h H locs ls hP hS hl
    refine lv_istore_n (lv' := [(3, .int s0), (2, .int v2)]) hx hb d_MO_receive_90 rfl hl (by decide) rfl (fun ls hl => ?_)
    exact hb91 M v2 s0 h _ _ _ hP hS (lv_sub hl [1, 0] rfl)
  refine lv_iload_n hx hb d_MO_receive_0 rfl (lv_at hl 1 rfl) ?_
  obtain ⟨r1, M1, hq1, h⟩ := cz_ubi h
  refine iv_MO_114 (rest := []) S hl.1 hP hS (c_MO_isPeer l hD M a1 hq1) ⟨Nat.le_of_ble_eq_true rfl, Nat.le_of_ble_eq_true rfl⟩ (Nat.le_of_ble_eq_true rfl) rfl d_MO_receive_1 (fun H locs hP hS => ?_)
  refine lv_if_ne (tgt := 9) hx hb d_MO_receive_4 rfl (fun hc => ?_) (fun hc => ?_)
  · have h := cz_f hc h
    refine lv_aload_n hx hb d_MO_receive_9 rfl (lv_at hl 0 rfl) ?_
    refine gf_MO_19 S hP d_MO_receive_10 ?_
    refine lv_iload_n hx hb d_MO_receive_13 rfl (lv_at hl 1 rfl) ?_
    obtain ⟨hin14, h⟩ := cz_ck h
    refine mo_ia S hP mo_k4 hin14 d_MO_receive_14 ?_
    refine lv_if_eq (tgt := 28) hx hb d_MO_receive_15 rfl (fun hc => ?_) (fun hc => ?_)
    · have h := cz_t hc h
      refine lv_iconst (v := -1) hx hb d_MO_receive_28 (by decide) ?_
      exact cz_ireth S hr hlocks hP hS h d_MO_receive_29
    have h := cz_f hc h
    refine lv_aload_n hx hb d_MO_receive_18 rfl (lv_at hl 0 rfl) ?_
    refine gf_MO_19 S hP d_MO_receive_19 ?_
    refine lv_iload_n hx hb d_MO_receive_22 rfl (lv_at hl 1 rfl) ?_
    obtain ⟨hin23, h⟩ := cz_ck h
    refine mo_ia S hP mo_k4 hin23 d_MO_receive_23 ?_
    refine lv_iconst (v := 3) hx hb d_MO_receive_24 (by decide) ?_
    refine lv_icmp_ne (tgt := 30) hx hb d_MO_receive_25 rfl (fun hc => ?_) (fun hc => ?_)
    · have h := cz_f hc h
      refine lv_aload_n hx hb d_MO_receive_30 rfl (lv_at hl 0 rfl) ?_
      obtain ⟨r31, M31, hq31, h⟩ := cz_ubi h
      refine iv_MO_155 (rest := []) S hl.1 hP hS (c_MO_decode l hD M1 hq31) ⟨Nat.le_of_ble_eq_true rfl, Nat.le_of_ble_eq_true rfl⟩ (Nat.le_of_ble_eq_true rfl) rfl d_MO_receive_31 (fun H locs hP hS => ?_)
      refine lv_istore_n (lv' := [(2, .int r31), (0, .ref (X.2.1 0)), (1, .int a1)]) hx hb d_MO_receive_34 rfl hl (by decide) rfl (fun ls hl => ?_)
      refine lv_iload_n hx hb d_MO_receive_35 rfl (lv_at hl 0 rfl) ?_
      refine lv_if_ge (tgt := 49) hx hb d_MO_receive_36 rfl (fun hc => ?_) (fun hc => ?_)
      · have h := cz_t hc h
        refine lv_iload_n hx hb d_MO_receive_49 rfl (lv_at hl 0 rfl) ?_
        refine lv_iconst (v := 5) hx hb d_MO_receive_50 (by decide) ?_
        refine lv_icmp_ne (tgt := 65) hx hb d_MO_receive_51 rfl (fun hc => ?_) (fun hc => ?_)
        · have h := cz_f hc h
          refine lv_aload_n hx hb d_MO_receive_65 rfl (lv_at hl 1 rfl) ?_
          refine gf_MO_19 S hP d_MO_receive_66 ?_
          refine lv_iload_n hx hb d_MO_receive_69 rfl (lv_at hl 2 rfl) ?_
          obtain ⟨hin70, h⟩ := cz_ck h
          refine mo_ia S hP mo_k4 hin70 d_MO_receive_70 ?_
          refine lv_iconst (v := 1) hx hb d_MO_receive_71 (by decide) ?_
          refine lv_icmp_ne (tgt := 84) hx hb d_MO_receive_72 rfl (fun hc => ?_) (fun hc => ?_)
          · have h := cz_f hc h
            refine lv_aload_n hx hb d_MO_receive_84 rfl (lv_at hl 1 rfl) ?_
            refine lv_iload_n hx hb d_MO_receive_85 rfl (lv_at hl 2 rfl) ?_
            refine lv_iload_n hx hb d_MO_receive_86 rfl (lv_at hl 0 rfl) ?_
            obtain ⟨r87, M87, hq87, h⟩ := cz_ubi h
            refine iv_MO_166 (rest := []) S hl.1 hP hS (c_MO_hear l hD M31 a1 r31 hq87) ⟨Nat.le_of_ble_eq_true rfl, Nat.le_of_ble_eq_true rfl⟩ (Nat.le_of_ble_eq_true rfl) rfl d_MO_receive_87 (fun H locs hP hS => ?_)
            exact hb90 M87 r31 r87 h _ _ _ hP hS (lv_sub hl [0] rfl)
          have h := cz_t hc h
          refine lv_aload_n hx hb d_MO_receive_75 rfl (lv_at hl 1 rfl) ?_
          refine lv_iload_n hx hb d_MO_receive_76 rfl (lv_at hl 2 rfl) ?_
          refine lv_iload_n hx hb d_MO_receive_77 rfl (lv_at hl 0 rfl) ?_
          obtain ⟨r78, M78, hq78, h⟩ := cz_ubi h
          refine iv_MO_163 (rest := []) S hl.1 hP hS (c_MO_greet l hD M31 a1 r31 hq78) ⟨Nat.le_of_ble_eq_true rfl, Nat.le_of_ble_eq_true rfl⟩ (Nat.le_of_ble_eq_true rfl) rfl d_MO_receive_78 (fun H locs hP hS => ?_)
          refine lv_goto (tgt := 90) hx hb d_MO_receive_81 rfl ?_
          exact hb90 M78 r31 r78 h _ _ _ hP hS (lv_sub hl [0] rfl)
        have h := cz_t hc h
        refine lv_aload_n hx hb d_MO_receive_54 rfl (lv_at hl 1 rfl) ?_
        refine lv_iload_n hx hb d_MO_receive_55 rfl (lv_at hl 2 rfl) ?_
        refine lv_iconst (v := 0) hx hb d_MO_receive_56 (by decide) ?_
        obtain ⟨M57, hq57, h⟩ := cz_ubv h
        refine iv_MO_145 (rest := []) S hl.1 hP hS (c_MO_leave l hD M31 a1 (0 : Int32) hq57) ⟨Nat.le_of_ble_eq_true rfl, Nat.le_of_ble_eq_true rfl⟩ (Nat.le_of_ble_eq_true rfl) rfl d_MO_receive_57 (fun H locs hP hS => ?_)
        refine lv_iconst (v := 1) hx hb d_MO_receive_60 (by decide) ?_
        refine lv_istore_n (lv' := [(3, .int (1 : Int32)), (2, .int r31), (0, .ref (X.2.1 0)), (1, .int a1)]) hx hb d_MO_receive_61 rfl hl (by decide) rfl (fun ls hl => ?_)
        refine lv_goto (tgt := 91) hx hb d_MO_receive_62 rfl ?_
        exact hb91 M57 r31 (1 : Int32) h _ _ _ hP hS (lv_sub hl [1, 0] rfl)
      have h := cz_f hc h
      refine lv_aload_n hx hb d_MO_receive_39 rfl (lv_at hl 1 rfl) ?_
      refine lv_iload_n hx hb d_MO_receive_40 rfl (lv_at hl 2 rfl) ?_
      refine lv_iconst (v := 4) hx hb d_MO_receive_41 (by decide) ?_
      obtain ⟨r42, M42, hq42, h⟩ := cz_ubi h
      refine iv_MO_159 (rest := []) S hl.1 hP hS (c_MO_fault l hD M31 a1 (4 : Int32) hq42) ⟨Nat.le_of_ble_eq_true rfl, Nat.le_of_ble_eq_true rfl⟩ (Nat.le_of_ble_eq_true rfl) rfl d_MO_receive_42 (fun H locs hP hS => ?_)
      refine lv_istore_n (lv' := [(3, .int r42), (2, .int r31), (0, .ref (X.2.1 0)), (1, .int a1)]) hx hb d_MO_receive_45 rfl hl (by decide) rfl (fun ls hl => ?_)
      refine lv_bipush (v := -2) hx hb d_MO_receive_46 (by decide) ?_
      exact cz_ireth S hr hlocks hP hS h d_MO_receive_48
    have h := cz_t hc h
    refine lv_iconst (v := -1) hx hb d_MO_receive_28 (by decide) ?_
    exact cz_ireth S hr hlocks hP hS h d_MO_receive_29
  have h := cz_t hc h
  refine lv_iconst (v := -1) hx hb d_MO_receive_7 (by decide) ?_
  exact cz_ireth S hr hlocks hP hS h d_MO_receive_8
set_option maxHeartbeats 4000000 in
set_option maxRecDepth 100000 in
theorem c_MO_wanted (l : Launch) {X : cz_X} {A : Nat → Prop} (hD : ∀ M, va_D A (mo_wl X M)) (M : cz_M) (a1 : Int32) {r2 : Int32} {M2 : cz_M} (h : f_MO_wanted M a1 = some (r2, M2)) : mo_Ct l X A y_MO_wanted (Cond.code y_MO_wanted b_MO_wanted 4 (some .boolean) :: cz_T) rm_MO_wanted [.ref (X.2.1 0), .int a1] M (some (.int r2)) M2 := by
  refine cz_Met (by decide) rfl (Nat.le_of_ble_eq_true rfl) hD ?_
  intro p e s m args below meth c hargs S hr hlocks hP ls hl
  have S : cz_Cx p m c b_MO_wanted 4 s args cz_T "ChainPeersModel" X.1 mo_cl (mo_tys X) cz_N A (mo_wl X) := S
  have hx := S.1.1
  have hb := S.1.2.1
  have hS : va_S A s.heap s.heap [] := va_S.rf
  have hl : lv_has ls 4 [(0, .ref (X.2.1 0)), (1, .int a1)] := hl
  have hb4 : ∀ (n : Nat) (M : cz_M) (v2 : Int32) (v3 : Int32), cz_lp3 (l_MO_wanted_4 a1) n M v2 v3 = some (r2, M2) → ∀ (H : Heap) (locs : List Loc) (ls : Array Slot), va_P X.1 mo_cl (mo_wl X M) H → va_S A s.heap H locs → lv_has ls 4 [(0, .ref (X.2.1 0)), (1, .int a1), (2, .int v2), (3, .int v3)] → W p l e rm_MO_wanted s m args below meth c H locs 0 0 (MQ below (cz_Qw X.1 mo_cl (some (.int r2)) (mo_wl X M2) A) args s 0 0 A) (F0 m 4 ls []) := by
    refine cz_ind3 (fun rec4 ih4 M v2 v3 h H locs ls hP hS hl => ?_)
    have hb38 : ∀ (M : cz_M) (v3 : Int32) (s0 : Int32), b_MO_wanted_38 a1 rec4 M v3 s0 = some (r2, M2) → ∀ (H : Heap) (locs : List Loc) (ls : Array Slot), va_P X.1 mo_cl (mo_wl X M) H → va_S A s.heap H locs → lv_has ls 4 [(0, .ref (X.2.1 0)), (1, .int a1), (3, .int v3)] → W p l e rm_MO_wanted s m args below meth c H locs 0 0 (MQ below (cz_Qw X.1 mo_cl (some (.int r2)) (mo_wl X M2) A) args s 0 0 A) (F0 m 38 ls [.int s0]) := by
      intro M v3 s0 h H locs ls hP hS hl
      refine lv_istore_n (lv' := [(2, .int s0), (0, .ref (X.2.1 0)), (1, .int a1), (3, .int v3)]) hx hb d_MO_wanted_38 rfl hl (by decide) rfl (fun ls hl => ?_)
      refine lv_iinc (lv' := [(3, .int (v3 + 1)), (2, .int s0), (0, .ref (X.2.1 0)), (1, .int a1)]) (v := v3 + 1) (k := 3) hx hb d_MO_wanted_39 hl rfl (cz_inc1 _) (by decide) rfl (fun ls hl => ?_)
      refine lv_goto (tgt := 4) hx hb d_MO_wanted_42 rfl ?_
      exact ih4 M s0 (v3 + 1) h _ _ _ hP hS (lv_sub hl [2, 3, 1, 0] rfl)
    have hb33 : ∀ (M : cz_M) (v3 : Int32), b_MO_wanted_33 a1 rec4 M v3 = some (r2, M2) → ∀ (H : Heap) (locs : List Loc) (ls : Array Slot), va_P X.1 mo_cl (mo_wl X M) H → va_S A s.heap H locs → lv_has ls 4 [(0, .ref (X.2.1 0)), (1, .int a1), (3, .int v3)] → W p l e rm_MO_wanted s m args below meth c H locs 0 0 (MQ below (cz_Qw X.1 mo_cl (some (.int r2)) (mo_wl X M2) A) args s 0 0 A) (F0 m 33 ls []) := by
      intro M v3 h H locs ls hP hS hl
      refine lv_iconst (v := 1) hx hb d_MO_wanted_33 (by decide) ?_
      refine lv_goto (tgt := 38) hx hb d_MO_wanted_34 rfl ?_
      exact hb38 M v3 (1 : Int32) h _ _ _ hP hS (lv_sub hl [0, 1, 2] rfl)
    have hb37 : ∀ (M : cz_M) (v3 : Int32), b_MO_wanted_37 a1 rec4 M v3 = some (r2, M2) → ∀ (H : Heap) (locs : List Loc) (ls : Array Slot), va_P X.1 mo_cl (mo_wl X M) H → va_S A s.heap H locs → lv_has ls 4 [(0, .ref (X.2.1 0)), (1, .int a1), (3, .int v3)] → W p l e rm_MO_wanted s m args below meth c H locs 0 0 (MQ below (cz_Qw X.1 mo_cl (some (.int r2)) (mo_wl X M2) A) args s 0 0 A) (F0 m 37 ls []) := by
      intro M v3 h H locs ls hP hS hl
      refine lv_iconst (v := 0) hx hb d_MO_wanted_37 (by decide) ?_
      exact hb38 M v3 (0 : Int32) h _ _ _ hP hS (lv_sub hl [0, 1, 2] rfl)
    refine lv_iload_n hx hb d_MO_wanted_4 rfl (lv_at hl 3 rfl) ?_
    refine lv_iconst (v := 4) hx hb d_MO_wanted_5 (by decide) ?_
    refine lv_icmp_ge (tgt := 45) hx hb d_MO_wanted_6 rfl (fun hc => ?_) (fun hc => ?_)
    · have h := cz_t hc h
      refine lv_iload_n hx hb d_MO_wanted_45 rfl (lv_at hl 2 rfl) ?_
      obtain ⟨hz, h⟩ := cz_ckp h
      exact cz_zreth S hr hlocks hP hS h (cz_nb hz) d_MO_wanted_46
    have h := cz_f hc h
    refine lv_iload_n hx hb d_MO_wanted_9 rfl (lv_at hl 2 rfl) ?_
    refine lv_if_ne (tgt := 33) hx hb d_MO_wanted_10 rfl (fun hc => ?_) (fun hc => ?_)
    · have h := cz_f hc h
      exact hb33 M v3 h _ _ _ hP hS (lv_sub hl [0, 1, 3] rfl)
    have h := cz_t hc h
    refine lv_aload_n hx hb d_MO_wanted_13 rfl (lv_at hl 0 rfl) ?_
    refine gf_MO_31 S hP d_MO_wanted_14 ?_
    refine lv_iload_n hx hb d_MO_wanted_17 rfl (lv_at hl 3 rfl) ?_
    obtain ⟨hin18, h⟩ := cz_ck h
    refine mo_ia S hP mo_k8 hin18 d_MO_wanted_18 ?_
    refine lv_iconst (v := 2) hx hb d_MO_wanted_19 (by decide) ?_
    refine lv_icmp_ne (tgt := 37) hx hb d_MO_wanted_20 rfl (fun hc => ?_) (fun hc => ?_)
    · have h := cz_f hc h
      exact hb37 M v3 h _ _ _ hP hS (lv_sub hl [0, 1, 3] rfl)
    have h := cz_t hc h
    refine lv_aload_n hx hb d_MO_wanted_23 rfl (lv_at hl 0 rfl) ?_
    refine gf_MO_34 S hP d_MO_wanted_24 ?_
    refine lv_iload_n hx hb d_MO_wanted_27 rfl (lv_at hl 3 rfl) ?_
    obtain ⟨hin28, h⟩ := cz_ck h
    refine mo_ia S hP mo_k9 hin28 d_MO_wanted_28 ?_
    refine lv_iload_n hx hb d_MO_wanted_29 rfl (lv_at hl 1 rfl) ?_
    refine lv_icmp_ne (tgt := 37) hx hb d_MO_wanted_30 rfl (fun hc => ?_) (fun hc => ?_)
    · have h := cz_f hc h
      exact hb37 M v3 h _ _ _ hP hS (lv_sub hl [0, 1, 3] rfl)
    have h := cz_t hc h
    exact hb33 M v3 h _ _ _ hP hS (lv_sub hl [0, 1, 3] rfl)
  refine lv_iconst (v := 0) hx hb d_MO_wanted_0 (by decide) ?_
  refine lv_istore_n (lv' := [(2, .int (0 : Int32)), (0, .ref (X.2.1 0)), (1, .int a1)]) hx hb d_MO_wanted_1 rfl hl (by decide) rfl (fun ls hl => ?_)
  refine lv_iconst (v := 0) hx hb d_MO_wanted_2 (by decide) ?_
  refine lv_istore_n (lv' := [(3, .int (0 : Int32)), (2, .int (0 : Int32)), (0, .ref (X.2.1 0)), (1, .int a1)]) hx hb d_MO_wanted_3 rfl hl (by decide) rfl (fun ls hl => ?_)
  exact hb4 _ M (0 : Int32) (0 : Int32) h _ _ _ hP hS (lv_sub hl [2, 3, 1, 0] rfl)
set_option maxHeartbeats 4000000 in
set_option maxRecDepth 100000 in
theorem c_MO_lacking (l : Launch) {X : cz_X} {A : Nat → Prop} (hD : ∀ M, va_D A (mo_wl X M)) (M : cz_M) {r2 : Int32} {M2 : cz_M} (h : f_MO_lacking M = some (r2, M2)) : mo_Ct l X A y_MO_lacking (Cond.code y_MO_lacking b_MO_lacking 4 (some .int) :: cz_T) rm_MO_lacking [.ref (X.2.1 0)] M (some (.int r2)) M2 := by
  refine cz_Met (by decide) rfl (Nat.le_of_ble_eq_true rfl) hD ?_
  intro p e s m args below meth c hargs S hr hlocks hP ls hl
  have S : cz_Cx p m c b_MO_lacking 4 s args cz_T "ChainPeersModel" X.1 mo_cl (mo_tys X) cz_N A (mo_wl X) := S
  have hx := S.1.1
  have hb := S.1.2.1
  have hS : va_S A s.heap s.heap [] := va_S.rf
  have hl : lv_has ls 4 [(0, .ref (X.2.1 0))] := hl
  have hb10 : ∀ (n : Nat) (M : cz_M) (v1 : Int32) (v2 : Int32) (v3 : Int32), cz_lp4 (l_MO_lacking_10) n M v1 v2 v3 = some (r2, M2) → ∀ (H : Heap) (locs : List Loc) (ls : Array Slot), va_P X.1 mo_cl (mo_wl X M) H → va_S A s.heap H locs → lv_has ls 4 [(0, .ref (X.2.1 0)), (1, .int v1), (2, .int v2), (3, .int v3)] → W p l e rm_MO_lacking s m args below meth c H locs 0 0 (MQ below (cz_Qw X.1 mo_cl (some (.int r2)) (mo_wl X M2) A) args s 0 0 A) (F0 m 10 ls []) := by
    refine cz_ind4 (fun rec10 ih10 M v1 v2 v3 h H locs ls hP hS hl => ?_)
    have hb42 : ∀ (M : cz_M) (v2 : Int32) (v3 : Int32) (s0 : Int32), b_MO_lacking_42 rec10 M v2 v3 s0 = some (r2, M2) → ∀ (H : Heap) (locs : List Loc) (ls : Array Slot), va_P X.1 mo_cl (mo_wl X M) H → va_S A s.heap H locs → lv_has ls 4 [(0, .ref (X.2.1 0)), (2, .int v2), (3, .int v3)] → W p l e rm_MO_lacking s m args below meth c H locs 0 0 (MQ below (cz_Qw X.1 mo_cl (some (.int r2)) (mo_wl X M2) A) args s 0 0 A) (F0 m 42 ls [.int s0]) := by
      intro M v2 v3 s0 h H locs ls hP hS hl
      refine lv_istore_n (lv' := [(1, .int s0), (0, .ref (X.2.1 0)), (2, .int v2), (3, .int v3)]) hx hb d_MO_lacking_42 rfl hl (by decide) rfl (fun ls hl => ?_)
      refine lv_aload_n hx hb d_MO_lacking_43 rfl (lv_at hl 1 rfl) ?_
      refine lv_iload_n hx hb d_MO_lacking_44 rfl (lv_at hl 2 rfl) ?_
      obtain ⟨r45, M45, hq45, h⟩ := cz_ubi h
      refine iv_MO_88 (rest := []) S hl.1 hP hS (c_MO_parent l hD M v2 hq45) ⟨Nat.le_of_ble_eq_true rfl, Nat.le_of_ble_eq_true rfl⟩ (Nat.le_of_ble_eq_true rfl) rfl d_MO_lacking_45 (fun H locs hP hS => ?_)
      refine lv_istore_n (lv' := [(2, .int r45), (1, .int s0), (0, .ref (X.2.1 0)), (3, .int v3)]) hx hb d_MO_lacking_48 rfl hl (by decide) rfl (fun ls hl => ?_)
      refine lv_iinc (lv' := [(3, .int (v3 + 1)), (2, .int r45), (1, .int s0), (0, .ref (X.2.1 0))]) (v := v3 + 1) (k := 3) hx hb d_MO_lacking_49 hl rfl (cz_inc1 _) (by decide) rfl (fun ls hl => ?_)
      refine lv_goto (tgt := 10) hx hb d_MO_lacking_52 rfl ?_
      exact ih10 M45 s0 r45 (v3 + 1) h _ _ _ hP hS (lv_sub hl [3, 2, 1, 0] rfl)
    have hb41 : ∀ (M : cz_M) (v1 : Int32) (v2 : Int32) (v3 : Int32), b_MO_lacking_41 rec10 M v1 v2 v3 = some (r2, M2) → ∀ (H : Heap) (locs : List Loc) (ls : Array Slot), va_P X.1 mo_cl (mo_wl X M) H → va_S A s.heap H locs → lv_has ls 4 [(0, .ref (X.2.1 0)), (1, .int v1), (2, .int v2), (3, .int v3)] → W p l e rm_MO_lacking s m args below meth c H locs 0 0 (MQ below (cz_Qw X.1 mo_cl (some (.int r2)) (mo_wl X M2) A) args s 0 0 A) (F0 m 41 ls []) := by
      intro M v1 v2 v3 h H locs ls hP hS hl
      refine lv_iload_n hx hb d_MO_lacking_41 rfl (lv_at hl 1 rfl) ?_
      exact hb42 M v2 v3 v1 h _ _ _ hP hS (lv_sub hl [0, 2, 3] rfl)
    refine lv_iload_n hx hb d_MO_lacking_10 rfl (lv_at hl 3 rfl) ?_
    refine lv_bipush (v := 20) hx hb d_MO_lacking_11 (by decide) ?_
    refine lv_icmp_ge (tgt := 55) hx hb d_MO_lacking_13 rfl (fun hc => ?_) (fun hc => ?_)
    · have h := cz_t hc h
      refine lv_iload_n hx hb d_MO_lacking_55 rfl (lv_at hl 1 rfl) ?_
      exact cz_ireth S hr hlocks hP hS h d_MO_lacking_56
    have h := cz_f hc h
    refine lv_iload_n hx hb d_MO_lacking_16 rfl (lv_at hl 2 rfl) ?_
    refine lv_if_lt (tgt := 55) hx hb d_MO_lacking_17 rfl (fun hc => ?_) (fun hc => ?_)
    · have h := cz_t hc h
      refine lv_iload_n hx hb d_MO_lacking_55 rfl (lv_at hl 1 rfl) ?_
      exact cz_ireth S hr hlocks hP hS h d_MO_lacking_56
    have h := cz_f hc h
    refine lv_aload_n hx hb d_MO_lacking_20 rfl (lv_at hl 0 rfl) ?_
    refine gf_MO_16 S hP d_MO_lacking_21 ?_
    refine lv_iload_n hx hb d_MO_lacking_24 rfl (lv_at hl 2 rfl) ?_
    obtain ⟨hin25, h⟩ := cz_ck h
    refine mo_ia S hP mo_k3 hin25 d_MO_lacking_25 ?_
    refine lv_if_ge (tgt := 41) hx hb d_MO_lacking_26 rfl (fun hc => ?_) (fun hc => ?_)
    · have h := cz_t hc h
      exact hb41 M v1 v2 v3 h _ _ _ hP hS (lv_sub hl [0, 1, 2, 3] rfl)
    have h := cz_f hc h
    refine lv_aload_n hx hb d_MO_lacking_29 rfl (lv_at hl 0 rfl) ?_
    refine lv_iload_n hx hb d_MO_lacking_30 rfl (lv_at hl 2 rfl) ?_
    obtain ⟨r31, M31, hq31, h⟩ := cz_ubi h
    refine iv_MO_190 (rest := []) S hl.1 hP hS (c_MO_wanted l hD M v2 hq31) ⟨Nat.le_of_ble_eq_true rfl, Nat.le_of_ble_eq_true rfl⟩ (Nat.le_of_ble_eq_true rfl) rfl d_MO_lacking_31 (fun H locs hP hS => ?_)
    refine lv_if_ne (tgt := 41) hx hb d_MO_lacking_34 rfl (fun hc => ?_) (fun hc => ?_)
    · have h := cz_f hc h
      exact hb41 M31 v1 v2 v3 h _ _ _ hP hS (lv_sub hl [0, 1, 2, 3] rfl)
    have h := cz_t hc h
    refine lv_iload_n hx hb d_MO_lacking_37 rfl (lv_at hl 2 rfl) ?_
    refine lv_goto (tgt := 42) hx hb d_MO_lacking_38 rfl ?_
    exact hb42 M31 v2 v3 v2 h _ _ _ hP hS (lv_sub hl [0, 2, 3] rfl)
  refine lv_iconst (v := -1) hx hb d_MO_lacking_0 (by decide) ?_
  refine lv_istore_n (lv' := [(1, .int (-1 : Int32)), (0, .ref (X.2.1 0))]) hx hb d_MO_lacking_1 rfl hl (by decide) rfl (fun ls hl => ?_)
  refine lv_aload_n hx hb d_MO_lacking_2 rfl (lv_at hl 1 rfl) ?_
  refine lv_iconst (v := 0) hx hb d_MO_lacking_3 (by decide) ?_
  obtain ⟨r4, M4, hq4, h⟩ := cz_ubi h
  refine iv_MO_98 (rest := []) S hl.1 hP hS (c_MO_greatest l hD M (0 : Int32) hq4) ⟨Nat.le_of_ble_eq_true rfl, Nat.le_of_ble_eq_true rfl⟩ (Nat.le_of_ble_eq_true rfl) rfl d_MO_lacking_4 (fun H locs hP hS => ?_)
  refine lv_istore_n (lv' := [(2, .int r4), (1, .int (-1 : Int32)), (0, .ref (X.2.1 0))]) hx hb d_MO_lacking_7 rfl hl (by decide) rfl (fun ls hl => ?_)
  refine lv_iconst (v := 0) hx hb d_MO_lacking_8 (by decide) ?_
  refine lv_istore_n (lv' := [(3, .int (0 : Int32)), (2, .int r4), (1, .int (-1 : Int32)), (0, .ref (X.2.1 0))]) hx hb d_MO_lacking_9 rfl hl (by decide) rfl (fun ls hl => ?_)
  exact hb10 _ M4 (-1 : Int32) r4 (0 : Int32) h _ _ _ hP hS (lv_sub hl [3, 2, 1, 0] rfl)
set_option maxHeartbeats 4000000 in
set_option maxRecDepth 100000 in
theorem c_MO_request (l : Launch) {X : cz_X} {A : Nat → Prop} (hD : ∀ M, va_D A (mo_wl X M)) (M : cz_M) (a1 : Int32) (a2 : Int32) (a3 : Int32) {M2 : cz_M} (h : f_MO_request M a1 a2 a3 = some M2) : mo_Ct l X A y_MO_request (Cond.code y_MO_request b_MO_request 5 none :: cz_T) rm_MO_request [.ref (X.2.1 0), .int a1, .int a2, .int a3] M none M2 := by
  refine cz_Met (by decide) rfl (Nat.le_of_ble_eq_true rfl) hD ?_
  intro p e s m args below meth c hargs S hr hlocks hP ls hl
  have S : cz_Cx p m c b_MO_request 5 s args cz_T "ChainPeersModel" X.1 mo_cl (mo_tys X) cz_N A (mo_wl X) := S
  have hx := S.1.1
  have hb := S.1.2.1
  have hS : va_S A s.heap s.heap [] := va_S.rf
  have hl : lv_has ls 5 [(0, .ref (X.2.1 0)), (1, .int a1), (2, .int a2), (3, .int a3)] := hl
  have hb101 : ∀ (M : cz_M), b_MO_request_101 a1 a2 a3 M = some M2 → ∀ (H : Heap) (locs : List Loc) (ls : Array Slot), va_P X.1 mo_cl (mo_wl X M) H → va_S A s.heap H locs → lv_has ls 5 [(0, .ref (X.2.1 0)), (1, .int a1)] → W p l e rm_MO_request s m args below meth c H locs 0 0 (MQ below (cz_Qw X.1 mo_cl none (mo_wl X M2) A) args s 0 0 A) (F0 m 101 ls []) := by
    intro M h H locs ls hP hS hl
    refine lv_aload_n hx hb d_MO_request_101 rfl (lv_at hl 0 rfl) ?_
    refine lv_iload_n hx hb d_MO_request_102 rfl (lv_at hl 1 rfl) ?_
    obtain ⟨M103, hq103, h⟩ := cz_ubv h
    refine iv_MO_152 (rest := []) S hl.1 hP hS (c_MO_post l hD M a1 hq103) ⟨Nat.le_of_ble_eq_true rfl, Nat.le_of_ble_eq_true rfl⟩ (Nat.le_of_ble_eq_true rfl) rfl d_MO_request_103 (fun H locs hP hS => ?_)
    exact cz_vreth S hr hlocks hP hS h d_MO_request_106
  have hb60 : ∀ (M : cz_M) (s0 : Int32), b_MO_request_60 a1 a2 a3 M s0 = some M2 → ∀ (H : Heap) (locs : List Loc) (ls : Array Slot), va_P X.1 mo_cl (mo_wl X M) H → va_S A s.heap H locs → lv_has ls 5 [(0, .ref (X.2.1 0)), (1, .int a1), (2, .int a2), (3, .int a3)] → W p l e rm_MO_request s m args below meth c H locs 0 0 (MQ below (cz_Qw X.1 mo_cl none (mo_wl X M2) A) args s 0 0 A) (F0 m 60 ls [.int s0, .ref (X.2.1 0)]) := by
    intro M s0 h H locs ls hP hS hl
    refine lv_aload_n hx hb d_MO_request_60 rfl (lv_at hl 0 rfl) ?_
    refine gf_MO_193 S hP d_MO_request_61 ?_
    obtain ⟨M64, hq64, h⟩ := cz_ubv h
    refine iv_MO_149 (rest := []) S hl.1 hP hS (c_MO_start l hD M s0 (M.1 0 3) hq64) ⟨Nat.le_of_ble_eq_true rfl, Nat.le_of_ble_eq_true rfl⟩ (Nat.le_of_ble_eq_true rfl) rfl d_MO_request_64 (fun H locs hP hS => ?_)
    refine lv_iload_n hx hb d_MO_request_67 rfl (lv_at hl 2 rfl) ?_
    refine lv_iconst (v := 1) hx hb d_MO_request_68 (by decide) ?_
    refine lv_icmp_ne (tgt := 85) hx hb d_MO_request_69 rfl (fun hc => ?_) (fun hc => ?_)
    · have h := cz_f hc h
      refine lv_aload_n hx hb d_MO_request_85 rfl (lv_at hl 0 rfl) ?_
      refine lv_iconst (v := 1) hx hb d_MO_request_86 (by decide) ?_
      refine lv_iconst (v := 5) hx hb d_MO_request_87 (by decide) ?_
      refine lv_iload_n hx hb d_MO_request_88 rfl (lv_at hl 3 rfl) ?_
      refine lv_imul hx hb d_MO_request_89 ?_
      obtain ⟨r90, M90, hq90, h⟩ := cz_ubi h
      refine iv_MO_80 (rest := []) S hl.1 hP hS (c_MO_hash l hD M64 (1 : Int32) ((5 : Int32) * a3) hq90) ⟨Nat.le_of_ble_eq_true rfl, Nat.le_of_ble_eq_true rfl⟩ (Nat.le_of_ble_eq_true rfl) rfl d_MO_request_90 (fun H locs hP hS => ?_)
      refine lv_istore (lv' := [(4, .int r90), (0, .ref (X.2.1 0)), (1, .int a1), (2, .int a2), (3, .int a3)]) hx hb d_MO_request_93 hl (by decide) rfl (fun ls hl => ?_)
      refine lv_aload_n hx hb d_MO_request_95 rfl (lv_at hl 1 rfl) ?_
      refine lv_iload hx hb d_MO_request_96 (lv_at hl 0 rfl) ?_
      obtain ⟨M98, hq98, h⟩ := cz_ubv h
      refine iv_MO_107 (rest := []) S hl.1 hP hS (c_MO_write l hD M90 r90 hq98) ⟨Nat.le_of_ble_eq_true rfl, Nat.le_of_ble_eq_true rfl⟩ (Nat.le_of_ble_eq_true rfl) rfl d_MO_request_98 (fun H locs hP hS => ?_)
      exact hb101 M98 h _ _ _ hP hS (lv_sub hl [1, 2] rfl)
    have h := cz_t hc h
    refine lv_aload_n hx hb d_MO_request_72 rfl (lv_at hl 0 rfl) ?_
    refine lv_iload_n hx hb d_MO_request_73 rfl (lv_at hl 3 rfl) ?_
    obtain ⟨M74, hq74, h⟩ := cz_ubv h
    refine iv_MO_107 (rest := []) S hl.1 hP hS (c_MO_write l hD M64 a3 hq74) ⟨Nat.le_of_ble_eq_true rfl, Nat.le_of_ble_eq_true rfl⟩ (Nat.le_of_ble_eq_true rfl) rfl d_MO_request_74 (fun H locs hP hS => ?_)
    refine lv_aload_n hx hb d_MO_request_77 rfl (lv_at hl 0 rfl) ?_
    refine lv_iconst (v := 2) hx hb d_MO_request_78 (by decide) ?_
    obtain ⟨M79, hq79, h⟩ := cz_ubv h
    refine iv_MO_107 (rest := []) S hl.1 hP hS (c_MO_write l hD M74 (2 : Int32) hq79) ⟨Nat.le_of_ble_eq_true rfl, Nat.le_of_ble_eq_true rfl⟩ (Nat.le_of_ble_eq_true rfl) rfl d_MO_request_79 (fun H locs hP hS => ?_)
    refine lv_goto (tgt := 101) hx hb d_MO_request_82 rfl ?_
    exact hb101 M79 h _ _ _ hP hS (lv_sub hl [0, 1] rfl)
  refine lv_aload_n hx hb d_MO_request_0 rfl (lv_at hl 0 rfl) ?_
  refine lv_dup hx hb d_MO_request_1 rfl ?_
  refine gf_MO_193 S hP d_MO_request_2 ?_
  refine lv_iconst (v := 1) hx hb d_MO_request_5 (by decide) ?_
  refine lv_iadd hx hb d_MO_request_6 ?_
  refine pf_MO_193 S hP hS d_MO_request_7 (fun H locs hP hS => ?_)
  refine lv_aload_n hx hb d_MO_request_10 rfl (lv_at hl 0 rfl) ?_
  refine gf_MO_31 S hP d_MO_request_11 ?_
  refine lv_iload_n hx hb d_MO_request_14 rfl (lv_at hl 1 rfl) ?_
  refine lv_iload_n hx hb d_MO_request_15 rfl (lv_at hl 2 rfl) ?_
  obtain ⟨hin16, h⟩ := cz_ck h
  refine mo_is S hP hS mo_k8 hin16 d_MO_request_16 (fun H locs hP hS => ?_)
  refine lv_aload_n hx hb d_MO_request_17 rfl (lv_at hl 0 rfl) ?_
  refine gf_MO_34 S hP d_MO_request_18 ?_
  refine lv_iload_n hx hb d_MO_request_21 rfl (lv_at hl 1 rfl) ?_
  refine lv_iload_n hx hb d_MO_request_22 rfl (lv_at hl 3 rfl) ?_
  obtain ⟨hin23, h⟩ := cz_ck h
  refine mo_is S hP hS mo_k9 hin23 d_MO_request_23 (fun H locs hP hS => ?_)
  refine lv_aload_n hx hb d_MO_request_24 rfl (lv_at hl 0 rfl) ?_
  refine gf_MO_37 S hP d_MO_request_25 ?_
  refine lv_iload_n hx hb d_MO_request_28 rfl (lv_at hl 1 rfl) ?_
  refine lv_aload_n hx hb d_MO_request_29 rfl (lv_at hl 0 rfl) ?_
  refine gf_MO_193 S hP d_MO_request_30 ?_
  obtain ⟨hin33, h⟩ := cz_ck h
  refine mo_is S hP hS mo_k10 hin33 d_MO_request_33 (fun H locs hP hS => ?_)
  refine lv_aload_n hx hb d_MO_request_34 rfl (lv_at hl 0 rfl) ?_
  refine gf_MO_40 S hP d_MO_request_35 ?_
  refine lv_iload_n hx hb d_MO_request_38 rfl (lv_at hl 1 rfl) ?_
  refine lv_aload_n hx hb d_MO_request_39 rfl (lv_at hl 0 rfl) ?_
  refine gf_MO_196 S hP d_MO_request_40 ?_
  refine lv_aload_n hx hb d_MO_request_43 rfl (lv_at hl 0 rfl) ?_
  refine gf_MO_68 S hP d_MO_request_44 ?_
  refine lv_iadd hx hb d_MO_request_47 ?_
  obtain ⟨hin48, h⟩ := cz_ck h
  refine mo_is S hP hS mo_k11 hin48 d_MO_request_48 (fun H locs hP hS => ?_)
  refine lv_aload_n hx hb d_MO_request_49 rfl (lv_at hl 0 rfl) ?_
  refine lv_iload_n hx hb d_MO_request_50 rfl (lv_at hl 2 rfl) ?_
  refine lv_iconst (v := 1) hx hb d_MO_request_51 (by decide) ?_
  refine lv_icmp_ne (tgt := 59) hx hb d_MO_request_52 rfl (fun hc => ?_) (fun hc => ?_)
  · have h := cz_f hc h
    refine lv_iconst (v := 3) hx hb d_MO_request_59 (by decide) ?_
    exact hb60 (cz_i (cz_i (cz_i (cz_i (cz_i M 0 3 ((M.1 0 3) + (1 : Int32))) 8 a1.toNatClampNeg a2) 9 a1.toNatClampNeg a3) 10 a1.toNatClampNeg ((cz_i (cz_i (cz_i M 0 3 ((M.1 0 3) + (1 : Int32))) 8 a1.toNatClampNeg a2) 9 a1.toNatClampNeg a3).1 0 3)) 11 a1.toNatClampNeg (((cz_i (cz_i (cz_i (cz_i M 0 3 ((M.1 0 3) + (1 : Int32))) 8 a1.toNatClampNeg a2) 9 a1.toNatClampNeg a3) 10 a1.toNatClampNeg ((cz_i (cz_i (cz_i M 0 3 ((M.1 0 3) + (1 : Int32))) 8 a1.toNatClampNeg a2) 9 a1.toNatClampNeg a3).1 0 3)).1 0 2) + ((cz_i (cz_i (cz_i (cz_i M 0 3 ((M.1 0 3) + (1 : Int32))) 8 a1.toNatClampNeg a2) 9 a1.toNatClampNeg a3) 10 a1.toNatClampNeg ((cz_i (cz_i (cz_i M 0 3 ((M.1 0 3) + (1 : Int32))) 8 a1.toNatClampNeg a2) 9 a1.toNatClampNeg a3).1 0 3)).1 0 1))) (3 : Int32) h _ _ _ hP hS (lv_sub hl [0, 1, 2, 3] rfl)
  have h := cz_t hc h
  refine lv_iconst (v := 1) hx hb d_MO_request_55 (by decide) ?_
  refine lv_goto (tgt := 60) hx hb d_MO_request_56 rfl ?_
  exact hb60 (cz_i (cz_i (cz_i (cz_i (cz_i M 0 3 ((M.1 0 3) + (1 : Int32))) 8 a1.toNatClampNeg a2) 9 a1.toNatClampNeg a3) 10 a1.toNatClampNeg ((cz_i (cz_i (cz_i M 0 3 ((M.1 0 3) + (1 : Int32))) 8 a1.toNatClampNeg a2) 9 a1.toNatClampNeg a3).1 0 3)) 11 a1.toNatClampNeg (((cz_i (cz_i (cz_i (cz_i M 0 3 ((M.1 0 3) + (1 : Int32))) 8 a1.toNatClampNeg a2) 9 a1.toNatClampNeg a3) 10 a1.toNatClampNeg ((cz_i (cz_i (cz_i M 0 3 ((M.1 0 3) + (1 : Int32))) 8 a1.toNatClampNeg a2) 9 a1.toNatClampNeg a3).1 0 3)).1 0 2) + ((cz_i (cz_i (cz_i (cz_i M 0 3 ((M.1 0 3) + (1 : Int32))) 8 a1.toNatClampNeg a2) 9 a1.toNatClampNeg a3) 10 a1.toNatClampNeg ((cz_i (cz_i (cz_i M 0 3 ((M.1 0 3) + (1 : Int32))) 8 a1.toNatClampNeg a2) 9 a1.toNatClampNeg a3).1 0 3)).1 0 1))) (1 : Int32) h _ _ _ hP hS (lv_sub hl [0, 1, 2, 3] rfl)
set_option maxHeartbeats 4000000 in
set_option maxRecDepth 100000 in
theorem c_MO_work (l : Launch) {X : cz_X} {A : Nat → Prop} (hD : ∀ M, va_D A (mo_wl X M)) (M : cz_M) {r2 : Int32} {M2 : cz_M} (h : f_MO_work M = some (r2, M2)) : mo_Ct l X A y_MO_work (Cond.code y_MO_work b_MO_work 6 (some .int) :: cz_T) rm_MO_work [.ref (X.2.1 0)] M (some (.int r2)) M2 := by
  refine cz_Met (by decide) rfl (Nat.le_of_ble_eq_true rfl) hD ?_
  intro p e s m args below meth c hargs S hr hlocks hP ls hl
  have S : cz_Cx p m c b_MO_work 6 s args cz_T "ChainPeersModel" X.1 mo_cl (mo_tys X) cz_N A (mo_wl X) := S
  have hx := S.1.1
  have hb := S.1.2.1
  have hS : va_S A s.heap s.heap [] := va_S.rf
  have hl : lv_has ls 6 [(0, .ref (X.2.1 0))] := hl
  have hb4 : ∀ (n : Nat) (M : cz_M) (v1 : Int32) (v2 : Int32), cz_lp3 (l_MO_work_4) n M v1 v2 = some (r2, M2) → ∀ (H : Heap) (locs : List Loc) (ls : Array Slot), va_P X.1 mo_cl (mo_wl X M) H → va_S A s.heap H locs → lv_has ls 6 [(0, .ref (X.2.1 0)), (1, .int v1), (2, .int v2)] → W p l e rm_MO_work s m args below meth c H locs 0 0 (MQ below (cz_Qw X.1 mo_cl (some (.int r2)) (mo_wl X M2) A) args s 0 0 A) (F0 m 4 ls []) := by
    refine cz_ind3 (fun rec4 ih4 M v1 v2 h H locs ls hP hS hl => ?_)
    have hb124 : ∀ (M : cz_M) (v1 : Int32) (v2 : Int32), b_MO_work_124 rec4 M v1 v2 = some (r2, M2) → ∀ (H : Heap) (locs : List Loc) (ls : Array Slot), va_P X.1 mo_cl (mo_wl X M) H → va_S A s.heap H locs → lv_has ls 6 [(0, .ref (X.2.1 0)), (1, .int v1), (2, .int v2)] → W p l e rm_MO_work s m args below meth c H locs 0 0 (MQ below (cz_Qw X.1 mo_cl (some (.int r2)) (mo_wl X M2) A) args s 0 0 A) (F0 m 124 ls []) := by
      intro M v1 v2 h H locs ls hP hS hl
      refine lv_iinc (lv' := [(2, .int (v2 + 1)), (0, .ref (X.2.1 0)), (1, .int v1)]) (v := v2 + 1) (k := 2) hx hb d_MO_work_124 hl rfl (cz_inc1 _) (by decide) rfl (fun ls hl => ?_)
      refine lv_goto (tgt := 4) hx hb d_MO_work_127 rfl ?_
      exact ih4 M v1 (v2 + 1) h _ _ _ hP hS (lv_sub hl [1, 2, 0] rfl)
    have hb74 : ∀ (M : cz_M) (v1 : Int32) (v2 : Int32) (v3 : Int32) (s0 : Int32), b_MO_work_74 rec4 M v1 v2 v3 s0 = some (r2, M2) → ∀ (H : Heap) (locs : List Loc) (ls : Array Slot), va_P X.1 mo_cl (mo_wl X M) H → va_S A s.heap H locs → lv_has ls 6 [(0, .ref (X.2.1 0)), (1, .int v1), (2, .int v2), (3, .int v3)] → W p l e rm_MO_work s m args below meth c H locs 0 0 (MQ below (cz_Qw X.1 mo_cl (some (.int r2)) (mo_wl X M2) A) args s 0 0 A) (F0 m 74 ls [.int s0]) := by
      intro M v1 v2 v3 s0 h H locs ls hP hS hl
      refine lv_istore (lv' := [(5, .int s0), (0, .ref (X.2.1 0)), (1, .int v1), (2, .int v2), (3, .int v3)]) hx hb d_MO_work_74 hl (by decide) rfl (fun ls hl => ?_)
      refine lv_iload_n hx hb d_MO_work_76 rfl (lv_at hl 4 rfl) ?_
      refine lv_if_lt (tgt := 93) hx hb d_MO_work_77 rfl (fun hc => ?_) (fun hc => ?_)
      · have h := cz_t hc h
        refine lv_aload_n hx hb d_MO_work_93 rfl (lv_at hl 1 rfl) ?_
        refine gf_MO_71 S hP d_MO_work_94 ?_
        refine lv_bipush (v := 20) hx hb d_MO_work_97 (by decide) ?_
        refine lv_icmp_ge (tgt := 124) hx hb d_MO_work_99 rfl (fun hc => ?_) (fun hc => ?_)
        · have h := cz_t hc h
          exact hb124 M v1 v2 h _ _ _ hP hS (lv_sub hl [1, 2, 3] rfl)
        have h := cz_f hc h
        refine lv_aload_n hx hb d_MO_work_102 rfl (lv_at hl 1 rfl) ?_
        refine gf_MO_25 S hP d_MO_work_103 ?_
        refine lv_iload_n hx hb d_MO_work_106 rfl (lv_at hl 3 rfl) ?_
        obtain ⟨hin107, h⟩ := cz_ck h
        refine mo_ia S hP mo_k6 hin107 d_MO_work_107 ?_
        refine lv_iload hx hb d_MO_work_108 (lv_at hl 0 rfl) ?_
        refine lv_icmp_lt (tgt := 124) hx hb d_MO_work_110 rfl (fun hc => ?_) (fun hc => ?_)
        · have h := cz_t hc h
          exact hb124 M v1 v2 h _ _ _ hP hS (lv_sub hl [1, 2, 3] rfl)
        have h := cz_f hc h
        refine lv_aload_n hx hb d_MO_work_113 rfl (lv_at hl 1 rfl) ?_
        refine lv_iload_n hx hb d_MO_work_114 rfl (lv_at hl 3 rfl) ?_
        refine lv_iconst (v := 1) hx hb d_MO_work_115 (by decide) ?_
        refine lv_iload hx hb d_MO_work_116 (lv_at hl 0 rfl) ?_
        obtain ⟨M118, hq118, h⟩ := cz_ubv h
        refine iv_MO_202 (rest := []) S hl.1 hP hS (c_MO_request l hD M v2 (1 : Int32) s0 hq118) ⟨Nat.le_of_ble_eq_true rfl, Nat.le_of_ble_eq_true rfl⟩ (Nat.le_of_ble_eq_true rfl) rfl d_MO_work_118 (fun H locs hP hS => ?_)
        refine lv_iinc (lv' := [(1, .int (v1 + 1)), (5, .int s0), (0, .ref (X.2.1 0)), (2, .int v2), (3, .int v3)]) (v := v1 + 1) (k := 2) hx hb d_MO_work_121 hl rfl (cz_inc1 _) (by decide) rfl (fun ls hl => ?_)
        exact hb124 M118 (v1 + 1) v2 h _ _ _ hP hS (lv_sub hl [2, 0, 3] rfl)
      have h := cz_f hc h
      refine lv_aload_n hx hb d_MO_work_80 rfl (lv_at hl 1 rfl) ?_
      refine lv_iload_n hx hb d_MO_work_81 rfl (lv_at hl 3 rfl) ?_
      refine lv_iconst (v := 2) hx hb d_MO_work_82 (by decide) ?_
      refine lv_iload_n hx hb d_MO_work_83 rfl (lv_at hl 4 rfl) ?_
      obtain ⟨M84, hq84, h⟩ := cz_ubv h
      refine iv_MO_202 (rest := []) S hl.1 hP hS (c_MO_request l hD M v2 (2 : Int32) v3 hq84) ⟨Nat.le_of_ble_eq_true rfl, Nat.le_of_ble_eq_true rfl⟩ (Nat.le_of_ble_eq_true rfl) rfl d_MO_work_84 (fun H locs hP hS => ?_)
      refine lv_iinc (lv' := [(1, .int (v1 + 1)), (5, .int s0), (0, .ref (X.2.1 0)), (2, .int v2), (3, .int v3)]) (v := v1 + 1) (k := 2) hx hb d_MO_work_87 hl rfl (cz_inc1 _) (by decide) rfl (fun ls hl => ?_)
      refine lv_goto (tgt := 124) hx hb d_MO_work_90 rfl ?_
      exact hb124 M84 (v1 + 1) v2 h _ _ _ hP hS (lv_sub hl [2, 0, 3] rfl)
    refine lv_iload_n hx hb d_MO_work_4 rfl (lv_at hl 2 rfl) ?_
    refine lv_iconst (v := 4) hx hb d_MO_work_5 (by decide) ?_
    refine lv_icmp_ge (tgt := 130) hx hb d_MO_work_6 rfl (fun hc => ?_) (fun hc => ?_)
    · have h := cz_t hc h
      refine lv_iload_n hx hb d_MO_work_130 rfl (lv_at hl 1 rfl) ?_
      exact cz_ireth S hr hlocks hP hS h d_MO_work_131
    have h := cz_f hc h
    refine lv_aload_n hx hb d_MO_work_9 rfl (lv_at hl 0 rfl) ?_
    refine gf_MO_19 S hP d_MO_work_10 ?_
    refine lv_iload_n hx hb d_MO_work_13 rfl (lv_at hl 2 rfl) ?_
    obtain ⟨hin14, h⟩ := cz_ck h
    refine mo_ia S hP mo_k4 hin14 d_MO_work_14 ?_
    refine lv_iconst (v := 2) hx hb d_MO_work_15 (by decide) ?_
    refine lv_icmp_ne (tgt := 124) hx hb d_MO_work_16 rfl (fun hc => ?_) (fun hc => ?_)
    · have h := cz_f hc h
      exact hb124 M v1 v2 h _ _ _ hP hS (lv_sub hl [0, 1, 2] rfl)
    have h := cz_t hc h
    refine lv_aload_n hx hb d_MO_work_19 rfl (lv_at hl 0 rfl) ?_
    refine gf_MO_31 S hP d_MO_work_20 ?_
    refine lv_iload_n hx hb d_MO_work_23 rfl (lv_at hl 2 rfl) ?_
    obtain ⟨hin24, h⟩ := cz_ck h
    refine mo_ia S hP mo_k8 hin24 d_MO_work_24 ?_
    refine lv_if_ne (tgt := 124) hx hb d_MO_work_25 rfl (fun hc => ?_) (fun hc => ?_)
    · have h := cz_f hc h
      exact hb124 M v1 v2 h _ _ _ hP hS (lv_sub hl [0, 1, 2] rfl)
    have h := cz_t hc h
    refine lv_aload_n hx hb d_MO_work_28 rfl (lv_at hl 0 rfl) ?_
    obtain ⟨r29, M29, hq29, h⟩ := cz_ubi h
    refine iv_MO_199 (rest := []) S hl.1 hP hS (c_MO_lacking l hD M hq29) ⟨Nat.le_of_ble_eq_true rfl, Nat.le_of_ble_eq_true rfl⟩ (Nat.le_of_ble_eq_true rfl) rfl d_MO_work_29 (fun H locs hP hS => ?_)
    refine lv_istore_n (lv' := [(3, .int r29), (0, .ref (X.2.1 0)), (1, .int v1), (2, .int v2)]) hx hb d_MO_work_32 rfl hl (by decide) rfl (fun ls hl => ?_)
    refine lv_aload_n hx hb d_MO_work_33 rfl (lv_at hl 1 rfl) ?_
    refine lv_iconst (v := 0) hx hb d_MO_work_34 (by decide) ?_
    obtain ⟨r35, M35, hq35, h⟩ := cz_ubi h
    refine iv_MO_98 (rest := []) S hl.1 hP hS (c_MO_greatest l hD M29 (0 : Int32) hq35) ⟨Nat.le_of_ble_eq_true rfl, Nat.le_of_ble_eq_true rfl⟩ (Nat.le_of_ble_eq_true rfl) rfl d_MO_work_35 (fun H locs hP hS => ?_)
    refine lv_istore (lv' := [(4, .int r35), (3, .int r29), (0, .ref (X.2.1 0)), (1, .int v1), (2, .int v2)]) hx hb d_MO_work_38 hl (by decide) rfl (fun ls hl => ?_)
    refine lv_aload_n hx hb d_MO_work_40 rfl (lv_at hl 2 rfl) ?_
    refine gf_MO_7 S hP d_MO_work_41 ?_
    refine lv_iconst (v := 5) hx hb d_MO_work_44 (by decide) ?_
    refine lv_iload hx hb d_MO_work_45 (lv_at hl 0 rfl) ?_
    refine lv_imul hx hb d_MO_work_47 ?_
    refine lv_iconst (v := 1) hx hb d_MO_work_48 (by decide) ?_
    refine lv_iadd hx hb d_MO_work_49 ?_
    obtain ⟨hin50, h⟩ := cz_ck h
    refine mo_ia S hP mo_k1 hin50 d_MO_work_50 ?_
    refine lv_iconst (v := 1) hx hb d_MO_work_51 (by decide) ?_
    refine lv_iadd hx hb d_MO_work_52 ?_
    refine lv_aload_n hx hb d_MO_work_53 rfl (lv_at hl 2 rfl) ?_
    refine gf_MO_28 S hP d_MO_work_54 ?_
    refine lv_iload_n hx hb d_MO_work_57 rfl (lv_at hl 4 rfl) ?_
    obtain ⟨hin58, h⟩ := cz_ck h
    refine mo_ia S hP mo_k7 hin58 d_MO_work_58 ?_
    refine lv_isub hx hb d_MO_work_59 ?_
    refine lv_istore (lv' := [(5, .int (((M35.1 1 (((5 : Int32) * r35) + (1 : Int32)).toNatClampNeg) + (1 : Int32)) - (M35.1 7 v2.toNatClampNeg))), (4, .int r35), (3, .int r29), (0, .ref (X.2.1 0)), (1, .int v1), (2, .int v2)]) hx hb d_MO_work_60 hl (by decide) rfl (fun ls hl => ?_)
    refine lv_iload hx hb d_MO_work_62 (lv_at hl 0 rfl) ?_
    refine lv_iconst (v := 1) hx hb d_MO_work_64 (by decide) ?_
    refine lv_icmp_ge (tgt := 72) hx hb d_MO_work_65 rfl (fun hc => ?_) (fun hc => ?_)
    · have h := cz_t hc h
      refine lv_iload hx hb d_MO_work_72 (lv_at hl 0 rfl) ?_
      exact hb74 M35 v1 v2 r29 (((M35.1 1 (((5 : Int32) * r35) + (1 : Int32)).toNatClampNeg) + (1 : Int32)) - (M35.1 7 v2.toNatClampNeg)) h _ _ _ hP hS (lv_sub hl [3, 4, 5, 2] rfl)
    have h := cz_f hc h
    refine lv_iconst (v := 1) hx hb d_MO_work_68 (by decide) ?_
    refine lv_goto (tgt := 74) hx hb d_MO_work_69 rfl ?_
    exact hb74 M35 v1 v2 r29 (1 : Int32) h _ _ _ hP hS (lv_sub hl [3, 4, 5, 2] rfl)
  refine lv_iconst (v := 0) hx hb d_MO_work_0 (by decide) ?_
  refine lv_istore_n (lv' := [(1, .int (0 : Int32)), (0, .ref (X.2.1 0))]) hx hb d_MO_work_1 rfl hl (by decide) rfl (fun ls hl => ?_)
  refine lv_iconst (v := 0) hx hb d_MO_work_2 (by decide) ?_
  refine lv_istore_n (lv' := [(2, .int (0 : Int32)), (1, .int (0 : Int32)), (0, .ref (X.2.1 0))]) hx hb d_MO_work_3 rfl hl (by decide) rfl (fun ls hl => ?_)
  exact hb4 _ M (0 : Int32) (0 : Int32) h _ _ _ hP hS (lv_sub hl [2, 1, 0] rfl)
set_option maxHeartbeats 4000000 in
set_option maxRecDepth 100000 in
theorem c_MO_tick (l : Launch) {X : cz_X} {A : Nat → Prop} (hD : ∀ M, va_D A (mo_wl X M)) (M : cz_M) (a1 : Int32) {r2 : Int32} {M2 : cz_M} (h : f_MO_tick M a1 = some (r2, M2)) : mo_Ct l X A y_MO_tick (Cond.code y_MO_tick b_MO_tick 6 (some .int) :: cz_T) rm_MO_tick [.ref (X.2.1 0), .int a1] M (some (.int r2)) M2 := by
  refine cz_Met (by decide) rfl (Nat.le_of_ble_eq_true rfl) hD ?_
  intro p e s m args below meth c hargs S hr hlocks hP ls hl
  have S : cz_Cx p m c b_MO_tick 6 s args cz_T "ChainPeersModel" X.1 mo_cl (mo_tys X) cz_N A (mo_wl X) := S
  have hx := S.1.1
  have hb := S.1.2.1
  have hS : va_S A s.heap s.heap [] := va_S.rf
  have hl : lv_has ls 6 [(0, .ref (X.2.1 0)), (1, .int a1)] := hl
  have hb16 : ∀ (n : Nat) (M : cz_M) (v2 : Int32) (v3 : Int32), cz_lp3 (l_MO_tick_16 a1) n M v2 v3 = some (r2, M2) → ∀ (H : Heap) (locs : List Loc) (ls : Array Slot), va_P X.1 mo_cl (mo_wl X M) H → va_S A s.heap H locs → lv_has ls 6 [(0, .ref (X.2.1 0)), (1, .int a1), (2, .int v2), (3, .int v3)] → W p l e rm_MO_tick s m args below meth c H locs 0 0 (MQ below (cz_Qw X.1 mo_cl (some (.int r2)) (mo_wl X M2) A) args s 0 0 A) (F0 m 16 ls []) := by
    refine cz_ind3 (fun rec16 ih16 M v2 v3 h H locs ls hP hS hl => ?_)
    have hb98 : ∀ (M : cz_M) (v2 : Int32) (v3 : Int32), b_MO_tick_98 a1 rec16 M v2 v3 = some (r2, M2) → ∀ (H : Heap) (locs : List Loc) (ls : Array Slot), va_P X.1 mo_cl (mo_wl X M) H → va_S A s.heap H locs → lv_has ls 6 [(0, .ref (X.2.1 0)), (1, .int a1), (2, .int v2), (3, .int v3)] → W p l e rm_MO_tick s m args below meth c H locs 0 0 (MQ below (cz_Qw X.1 mo_cl (some (.int r2)) (mo_wl X M2) A) args s 0 0 A) (F0 m 98 ls []) := by
      intro M v2 v3 h H locs ls hP hS hl
      refine lv_iinc (lv' := [(3, .int (v3 + 1)), (0, .ref (X.2.1 0)), (1, .int a1), (2, .int v2)]) (v := v3 + 1) (k := 3) hx hb d_MO_tick_98 hl rfl (cz_inc1 _) (by decide) rfl (fun ls hl => ?_)
      refine lv_goto (tgt := 16) hx hb d_MO_tick_101 rfl ?_
      exact ih16 M v2 (v3 + 1) h _ _ _ hP hS (lv_sub hl [1, 2, 3, 0] rfl)
    have hb34 : ∀ (n : Nat) (M : cz_M) (v2 : Int32) (v3 : Int32) (v4 : Int32), cz_lp4 (l_MO_tick_34 a1 rec16) n M v2 v3 v4 = some (r2, M2) → ∀ (H : Heap) (locs : List Loc) (ls : Array Slot), va_P X.1 mo_cl (mo_wl X M) H → va_S A s.heap H locs → lv_has ls 6 [(0, .ref (X.2.1 0)), (1, .int a1), (2, .int v2), (3, .int v3), (4, .int v4)] → W p l e rm_MO_tick s m args below meth c H locs 0 0 (MQ below (cz_Qw X.1 mo_cl (some (.int r2)) (mo_wl X M2) A) args s 0 0 A) (F0 m 34 ls []) := by
      refine cz_ind4 (fun rec34 ih34 M v2 v3 v4 h H locs ls hP hS hl => ?_)
      have hb92 : ∀ (M : cz_M) (v2 : Int32) (v3 : Int32) (v4 : Int32), b_MO_tick_92 a1 rec16 rec34 M v2 v3 v4 = some (r2, M2) → ∀ (H : Heap) (locs : List Loc) (ls : Array Slot), va_P X.1 mo_cl (mo_wl X M) H → va_S A s.heap H locs → lv_has ls 6 [(0, .ref (X.2.1 0)), (1, .int a1), (2, .int v2), (3, .int v3), (4, .int v4)] → W p l e rm_MO_tick s m args below meth c H locs 0 0 (MQ below (cz_Qw X.1 mo_cl (some (.int r2)) (mo_wl X M2) A) args s 0 0 A) (F0 m 92 ls []) := by
        intro M v2 v3 v4 h H locs ls hP hS hl
        refine lv_iinc (lv' := [(4, .int (v4 + 1)), (0, .ref (X.2.1 0)), (1, .int a1), (2, .int v2), (3, .int v3)]) (v := v4 + 1) (k := 4) hx hb d_MO_tick_92 hl rfl (cz_inc1 _) (by decide) rfl (fun ls hl => ?_)
        refine lv_goto (tgt := 34) hx hb d_MO_tick_95 rfl ?_
        exact ih34 M v2 v3 (v4 + 1) h _ _ _ hP hS (lv_sub hl [1, 2, 3, 4, 0] rfl)
      refine lv_iload hx hb d_MO_tick_34 (lv_at hl 4 rfl) ?_
      refine lv_iconst (v := 4) hx hb d_MO_tick_36 (by decide) ?_
      refine lv_icmp_ge (tgt := 98) hx hb d_MO_tick_37 rfl (fun hc => ?_) (fun hc => ?_)
      · have h := cz_t hc h
        exact hb98 M v2 v3 h _ _ _ hP hS (lv_sub hl [0, 1, 2, 3] rfl)
      have h := cz_f hc h
      refine lv_aload_n hx hb d_MO_tick_40 rfl (lv_at hl 0 rfl) ?_
      refine gf_MO_31 S hP d_MO_tick_41 ?_
      refine lv_iload hx hb d_MO_tick_44 (lv_at hl 4 rfl) ?_
      obtain ⟨hin46, h⟩ := cz_ck h
      refine mo_ia S hP mo_k8 hin46 d_MO_tick_46 ?_
      refine lv_if_le (tgt := 92) hx hb d_MO_tick_47 rfl (fun hc => ?_) (fun hc => ?_)
      · have h := cz_t hc h
        exact hb92 M v2 v3 v4 h _ _ _ hP hS (lv_sub hl [0, 1, 2, 3, 4] rfl)
      have h := cz_f hc h
      refine lv_aload_n hx hb d_MO_tick_50 rfl (lv_at hl 0 rfl) ?_
      refine gf_MO_40 S hP d_MO_tick_51 ?_
      refine lv_iload hx hb d_MO_tick_54 (lv_at hl 4 rfl) ?_
      obtain ⟨hin56, h⟩ := cz_ck h
      refine mo_ia S hP mo_k11 hin56 d_MO_tick_56 ?_
      refine lv_aload_n hx hb d_MO_tick_57 rfl (lv_at hl 0 rfl) ?_
      refine gf_MO_196 S hP d_MO_tick_58 ?_
      refine lv_icmp_ge (tgt := 92) hx hb d_MO_tick_61 rfl (fun hc => ?_) (fun hc => ?_)
      · have h := cz_t hc h
        exact hb92 M v2 v3 v4 h _ _ _ hP hS (lv_sub hl [0, 1, 2, 3, 4] rfl)
      have h := cz_f hc h
      refine lv_aload_n hx hb d_MO_tick_64 rfl (lv_at hl 0 rfl) ?_
      refine gf_MO_31 S hP d_MO_tick_65 ?_
      refine lv_iload hx hb d_MO_tick_68 (lv_at hl 4 rfl) ?_
      refine lv_iconst (v := 0) hx hb d_MO_tick_70 (by decide) ?_
      obtain ⟨hin71, h⟩ := cz_ck h
      refine mo_is S hP hS mo_k8 hin71 d_MO_tick_71 (fun H locs hP hS => ?_)
      refine lv_aload_n hx hb d_MO_tick_72 rfl (lv_at hl 0 rfl) ?_
      refine gf_MO_37 S hP d_MO_tick_73 ?_
      refine lv_iload hx hb d_MO_tick_76 (lv_at hl 4 rfl) ?_
      refine lv_iconst (v := 0) hx hb d_MO_tick_78 (by decide) ?_
      obtain ⟨hin79, h⟩ := cz_ck h
      refine mo_is S hP hS mo_k10 hin79 d_MO_tick_79 (fun H locs hP hS => ?_)
      refine lv_aload_n hx hb d_MO_tick_80 rfl (lv_at hl 0 rfl) ?_
      refine lv_iload hx hb d_MO_tick_81 (lv_at hl 4 rfl) ?_
      refine lv_iconst (v := 1) hx hb d_MO_tick_83 (by decide) ?_
      obtain ⟨r84, M84, hq84, h⟩ := cz_ubi h
      refine iv_MO_159 (rest := []) S hl.1 hP hS (c_MO_fault l hD (cz_i (cz_i M 8 v4.toNatClampNeg (0 : Int32)) 10 v4.toNatClampNeg (0 : Int32)) v4 (1 : Int32) hq84) ⟨Nat.le_of_ble_eq_true rfl, Nat.le_of_ble_eq_true rfl⟩ (Nat.le_of_ble_eq_true rfl) rfl d_MO_tick_84 (fun H locs hP hS => ?_)
      refine lv_istore (lv' := [(5, .int r84), (0, .ref (X.2.1 0)), (1, .int a1), (2, .int v2), (3, .int v3), (4, .int v4)]) hx hb d_MO_tick_87 hl (by decide) rfl (fun ls hl => ?_)
      refine lv_iinc (lv' := [(2, .int (v2 + 1)), (5, .int r84), (0, .ref (X.2.1 0)), (1, .int a1), (3, .int v3), (4, .int v4)]) (v := v2 + 1) (k := 3) hx hb d_MO_tick_89 hl rfl (cz_inc1 _) (by decide) rfl (fun ls hl => ?_)
      exact hb92 M84 (v2 + 1) v3 v4 h _ _ _ hP hS (lv_sub hl [2, 3, 0, 4, 5] rfl)
    refine lv_iload_n hx hb d_MO_tick_16 rfl (lv_at hl 3 rfl) ?_
    refine lv_iload_n hx hb d_MO_tick_17 rfl (lv_at hl 1 rfl) ?_
    refine lv_icmp_ge (tgt := 104) hx hb d_MO_tick_18 rfl (fun hc => ?_) (fun hc => ?_)
    · have h := cz_t hc h
      refine lv_iload_n hx hb d_MO_tick_104 rfl (lv_at hl 2 rfl) ?_
      exact cz_ireth S hr hlocks hP hS h d_MO_tick_105
    have h := cz_f hc h
    refine lv_aload_n hx hb d_MO_tick_21 rfl (lv_at hl 0 rfl) ?_
    refine lv_dup hx hb d_MO_tick_22 rfl ?_
    refine gf_MO_196 S hP d_MO_tick_23 ?_
    refine lv_iconst (v := 1) hx hb d_MO_tick_26 (by decide) ?_
    refine lv_iadd hx hb d_MO_tick_27 ?_
    refine pf_MO_196 S hP hS d_MO_tick_28 (fun H locs hP hS => ?_)
    refine lv_iconst (v := 0) hx hb d_MO_tick_31 (by decide) ?_
    refine lv_istore (lv' := [(4, .int (0 : Int32)), (0, .ref (X.2.1 0)), (1, .int a1), (2, .int v2), (3, .int v3)]) hx hb d_MO_tick_32 hl (by decide) rfl (fun ls hl => ?_)
    exact hb34 _ (cz_i M 0 2 ((M.1 0 2) + (1 : Int32))) v2 v3 (0 : Int32) h _ _ _ hP hS (lv_sub hl [1, 2, 3, 4, 0] rfl)
  refine lv_iload_n hx hb d_MO_tick_0 rfl (lv_at hl 1 rfl) ?_
  refine lv_if_lt (tgt := 10) hx hb d_MO_tick_1 rfl (fun hc => ?_) (fun hc => ?_)
  · have h := cz_t hc h
    refine lv_iconst (v := -1) hx hb d_MO_tick_10 (by decide) ?_
    exact cz_ireth S hr hlocks hP hS h d_MO_tick_11
  have h := cz_f hc h
  refine lv_iload_n hx hb d_MO_tick_4 rfl (lv_at hl 1 rfl) ?_
  refine lv_bipush (v := 50) hx hb d_MO_tick_5 (by decide) ?_
  refine lv_icmp_le (tgt := 12) hx hb d_MO_tick_7 rfl (fun hc => ?_) (fun hc => ?_)
  · have h := cz_t hc h
    refine lv_iconst (v := 0) hx hb d_MO_tick_12 (by decide) ?_
    refine lv_istore_n (lv' := [(2, .int (0 : Int32)), (0, .ref (X.2.1 0)), (1, .int a1)]) hx hb d_MO_tick_13 rfl hl (by decide) rfl (fun ls hl => ?_)
    refine lv_iconst (v := 0) hx hb d_MO_tick_14 (by decide) ?_
    refine lv_istore_n (lv' := [(3, .int (0 : Int32)), (2, .int (0 : Int32)), (0, .ref (X.2.1 0)), (1, .int a1)]) hx hb d_MO_tick_15 rfl hl (by decide) rfl (fun ls hl => ?_)
    exact hb16 _ M (0 : Int32) (0 : Int32) h _ _ _ hP hS (lv_sub hl [2, 3, 1, 0] rfl)
  have h := cz_f hc h
  refine lv_iconst (v := -1) hx hb d_MO_tick_10 (by decide) ?_
  exact cz_ireth S hr hlocks hP hS h d_MO_tick_11
set_option maxHeartbeats 4000000 in
set_option maxRecDepth 100000 in
theorem c_MO_seal (l : Launch) {X : cz_X} {A : Nat → Prop} (hD : ∀ M, va_D A (mo_wl X M)) (M : cz_M) (a1 : Int32) (a2 : Int32) (a3 : Int32) {r2 : Int32} {M2 : cz_M} (h : f_MO_seal M a1 a2 a3 = some (r2, M2)) : mo_Ct l X A y_MO_seal (Cond.code y_MO_seal b_MO_seal 6 (some .int) :: cz_T) rm_MO_seal [.ref (X.2.1 0), .int a1, .int a2, .int a3] M (some (.int r2)) M2 := by
  refine cz_Met (by decide) rfl (Nat.le_of_ble_eq_true rfl) hD ?_
  intro p e s m args below meth c hargs S hr hlocks hP ls hl
  have S : cz_Cx p m c b_MO_seal 6 s args cz_T "ChainPeersModel" X.1 mo_cl (mo_tys X) cz_N A (mo_wl X) := S
  have hx := S.1.1
  have hb := S.1.2.1
  have hS : va_S A s.heap s.heap [] := va_S.rf
  have hl : lv_has ls 6 [(0, .ref (X.2.1 0)), (1, .int a1), (2, .int a2), (3, .int a3)] := hl
  have hb138 : ∀ (M : cz_M) (s0 : Int32) (s1 : Int32), b_MO_seal_138 a1 a2 a3 M s0 s1 = some (r2, M2) → ∀ (H : Heap) (locs : List Loc) (ls : Array Slot), va_P X.1 mo_cl (mo_wl X M) H → va_S A s.heap H locs → lv_has ls 6 [(0, .ref (X.2.1 0)), (3, .int a3)] → W p l e rm_MO_seal s m args below meth c H locs 0 0 (MQ below (cz_Qw X.1 mo_cl (some (.int r2)) (mo_wl X M2) A) args s 0 0 A) (F0 m 138 ls [.int s0, .int s1, .ref (X.2.1 3)]) := by
    intro M s0 s1 h H locs ls hP hS hl
    obtain ⟨hin138, h⟩ := cz_ck h
    refine mo_is S hP hS mo_k3 hin138 d_MO_seal_138 (fun H locs hP hS => ?_)
    refine lv_aload_n hx hb d_MO_seal_139 rfl (lv_at hl 0 rfl) ?_
    refine gf_MO_13 S hP d_MO_seal_140 ?_
    refine lv_bipush (v := 8) hx hb d_MO_seal_143 (by decide) ?_
    refine lv_aload_n hx hb d_MO_seal_145 rfl (lv_at hl 0 rfl) ?_
    refine gf_MO_71 S hP d_MO_seal_146 ?_
    refine lv_imul hx hb d_MO_seal_149 ?_
    refine lv_bipush (v := 8) hx hb d_MO_seal_150 (by decide) ?_
    refine lv_isub hx hb d_MO_seal_152 ?_
    refine lv_iload_n hx hb d_MO_seal_153 rfl (lv_at hl 1 rfl) ?_
    obtain ⟨hin154, h⟩ := cz_ck h
    refine mo_is S hP hS mo_k2 hin154 d_MO_seal_154 (fun H locs hP hS => ?_)
    refine lv_aload_n hx hb d_MO_seal_155 rfl (lv_at hl 0 rfl) ?_
    refine gf_MO_71 S hP d_MO_seal_156 ?_
    refine lv_iconst (v := 1) hx hb d_MO_seal_159 (by decide) ?_
    refine lv_isub hx hb d_MO_seal_160 ?_
    exact cz_ireth S hr hlocks hP hS h d_MO_seal_161
  have hb73 : ∀ (M : cz_M) (s0 : Int32) (s1 : Int32), b_MO_seal_73 a1 a2 a3 M s0 s1 = some (r2, M2) → ∀ (H : Heap) (locs : List Loc) (ls : Array Slot), va_P X.1 mo_cl (mo_wl X M) H → va_S A s.heap H locs → lv_has ls 6 [(0, .ref (X.2.1 0)), (1, .int a1), (3, .int a3)] → W p l e rm_MO_seal s m args below meth c H locs 0 0 (MQ below (cz_Qw X.1 mo_cl (some (.int r2)) (mo_wl X M2) A) args s 0 0 A) (F0 m 73 ls [.int s0, .int s1, .ref (X.2.1 17)]) := by
    intro M s0 s1 h H locs ls hP hS hl
    obtain ⟨hin73, h⟩ := cz_ck h
    refine mo_is S hP hS mo_k17 hin73 d_MO_seal_73 (fun H locs hP hS => ?_)
    refine lv_aload_n hx hb d_MO_seal_74 rfl (lv_at hl 0 rfl) ?_
    refine lv_iconst (v := 0) hx hb d_MO_seal_75 (by decide) ?_
    refine lv_iconst (v := 0) hx hb d_MO_seal_76 (by decide) ?_
    obtain ⟨r77, M77, hq77, h⟩ := cz_ubi h
    refine iv_MO_80 (rest := []) S hl.1 hP hS (c_MO_hash l hD (cz_i M 17 s1.toNatClampNeg s0) (0 : Int32) (0 : Int32) hq77) ⟨Nat.le_of_ble_eq_true rfl, Nat.le_of_ble_eq_true rfl⟩ (Nat.le_of_ble_eq_true rfl) rfl d_MO_seal_77 (fun H locs hP hS => ?_)
    refine lv_istore (lv' := [(5, .int r77), (0, .ref (X.2.1 0)), (1, .int a1), (3, .int a3)]) hx hb d_MO_seal_80 hl (by decide) rfl (fun ls hl => ?_)
    refine lv_iload_n hx hb d_MO_seal_82 rfl (lv_at hl 2 rfl) ?_
    refine lv_if_lt (tgt := 112) hx hb d_MO_seal_83 rfl (fun hc => ?_) (fun hc => ?_)
    · have h := cz_t hc h
      refine lv_iconst (v := -1) hx hb d_MO_seal_112 (by decide) ?_
      exact cz_ireth S hr hlocks hP hS h d_MO_seal_113
    have h := cz_f hc h
    refine lv_aload_n hx hb d_MO_seal_86 rfl (lv_at hl 1 rfl) ?_
    refine lv_iconst (v := 0) hx hb d_MO_seal_87 (by decide) ?_
    obtain ⟨r88, M88, hq88, h⟩ := cz_ubi h
    refine iv_MO_181 (rest := []) S hl.1 hP hS (c_MO_good l hD M77 (0 : Int32) hq88) ⟨Nat.le_of_ble_eq_true rfl, Nat.le_of_ble_eq_true rfl⟩ (Nat.le_of_ble_eq_true rfl) rfl d_MO_seal_88 (fun H locs hP hS => ?_)
    refine lv_if_eq (tgt := 112) hx hb d_MO_seal_91 rfl (fun hc => ?_) (fun hc => ?_)
    · have h := cz_t hc h
      refine lv_iconst (v := -1) hx hb d_MO_seal_112 (by decide) ?_
      exact cz_ireth S hr hlocks hP hS h d_MO_seal_113
    have h := cz_f hc h
    refine lv_aload_n hx hb d_MO_seal_94 rfl (lv_at hl 1 rfl) ?_
    refine lv_iload hx hb d_MO_seal_95 (lv_at hl 0 rfl) ?_
    obtain ⟨r97, M97, hq97, h⟩ := cz_ubi h
    refine iv_MO_84 (rest := []) S hl.1 hP hS (c_MO_blockOf l hD M88 r77 hq97) ⟨Nat.le_of_ble_eq_true rfl, Nat.le_of_ble_eq_true rfl⟩ (Nat.le_of_ble_eq_true rfl) rfl d_MO_seal_97 (fun H locs hP hS => ?_)
    refine lv_if_ge (tgt := 112) hx hb d_MO_seal_100 rfl (fun hc => ?_) (fun hc => ?_)
    · have h := cz_t hc h
      refine lv_iconst (v := -1) hx hb d_MO_seal_112 (by decide) ?_
      exact cz_ireth S hr hlocks hP hS h d_MO_seal_113
    have h := cz_f hc h
    refine lv_aload_n hx hb d_MO_seal_103 rfl (lv_at hl 1 rfl) ?_
    refine gf_MO_71 S hP d_MO_seal_104 ?_
    refine lv_bipush (v := 20) hx hb d_MO_seal_107 (by decide) ?_
    refine lv_icmp_ne (tgt := 114) hx hb d_MO_seal_109 rfl (fun hc => ?_) (fun hc => ?_)
    · have h := cz_f hc h
      refine lv_aload_n hx hb d_MO_seal_114 rfl (lv_at hl 1 rfl) ?_
      refine lv_iconst (v := 0) hx hb d_MO_seal_115 (by decide) ?_
      obtain ⟨M116, hq116, h⟩ := cz_ubv h
      refine iv_MO_184 (rest := []) S hl.1 hP hS (c_MO_add l hD M97 (0 : Int32) hq116) ⟨Nat.le_of_ble_eq_true rfl, Nat.le_of_ble_eq_true rfl⟩ (Nat.le_of_ble_eq_true rfl) rfl d_MO_seal_116 (fun H locs hP hS => ?_)
      refine lv_aload_n hx hb d_MO_seal_119 rfl (lv_at hl 1 rfl) ?_
      refine gf_MO_16 S hP d_MO_seal_120 ?_
      refine lv_aload_n hx hb d_MO_seal_123 rfl (lv_at hl 1 rfl) ?_
      refine gf_MO_71 S hP d_MO_seal_124 ?_
      refine lv_iconst (v := 1) hx hb d_MO_seal_127 (by decide) ?_
      refine lv_isub hx hb d_MO_seal_128 ?_
      refine lv_iload_n hx hb d_MO_seal_129 rfl (lv_at hl 3 rfl) ?_
      refine lv_if_ge (tgt := 137) hx hb d_MO_seal_130 rfl (fun hc => ?_) (fun hc => ?_)
      · have h := cz_t hc h
        refine lv_iconst (v := 1) hx hb d_MO_seal_137 (by decide) ?_
        exact hb138 M116 (1 : Int32) ((M116.1 0 4) - (1 : Int32)) h _ _ _ hP hS (lv_sub hl [1, 3] rfl)
      have h := cz_f hc h
      refine lv_iconst (v := 0) hx hb d_MO_seal_133 (by decide) ?_
      refine lv_goto (tgt := 138) hx hb d_MO_seal_134 rfl ?_
      exact hb138 M116 (0 : Int32) ((M116.1 0 4) - (1 : Int32)) h _ _ _ hP hS (lv_sub hl [1, 3] rfl)
    have h := cz_t hc h
    refine lv_iconst (v := -1) hx hb d_MO_seal_112 (by decide) ?_
    exact cz_ireth S hr hlocks hP hS h d_MO_seal_113
  refine lv_aload_n hx hb d_MO_seal_0 rfl (lv_at hl 0 rfl) ?_
  refine lv_iconst (v := 1) hx hb d_MO_seal_1 (by decide) ?_
  obtain ⟨r2, M2, hq2, h⟩ := cz_ubi h
  refine iv_MO_98 (rest := []) S hl.1 hP hS (c_MO_greatest l hD M (1 : Int32) hq2) ⟨Nat.le_of_ble_eq_true rfl, Nat.le_of_ble_eq_true rfl⟩ (Nat.le_of_ble_eq_true rfl) rfl d_MO_seal_2 (fun H locs hP hS => ?_)
  refine lv_istore (lv' := [(4, .int r2), (0, .ref (X.2.1 0)), (1, .int a1), (2, .int a2), (3, .int a3)]) hx hb d_MO_seal_5 hl (by decide) rfl (fun ls hl => ?_)
  refine lv_aload_n hx hb d_MO_seal_7 rfl (lv_at hl 1 rfl) ?_
  refine gf_MO_58 S hP d_MO_seal_8 ?_
  refine lv_iconst (v := 0) hx hb d_MO_seal_11 (by decide) ?_
  refine lv_aload_n hx hb d_MO_seal_12 rfl (lv_at hl 1 rfl) ?_
  refine lv_iconst (v := 1) hx hb d_MO_seal_13 (by decide) ?_
  refine lv_iconst (v := 5) hx hb d_MO_seal_14 (by decide) ?_
  refine lv_iload hx hb d_MO_seal_15 (lv_at hl 0 rfl) ?_
  refine lv_imul hx hb d_MO_seal_17 ?_
  obtain ⟨r18, M18, hq18, h⟩ := cz_ubi h
  refine iv_MO_80 (rest := [.int (0 : Int32), .ref (X.2.1 17)]) S hl.1 hP hS (c_MO_hash l hD M2 (1 : Int32) ((5 : Int32) * r2) hq18) ⟨Nat.le_of_ble_eq_true rfl, Nat.le_of_ble_eq_true rfl⟩ (Nat.le_of_ble_eq_true rfl) rfl d_MO_seal_18 (fun H locs hP hS => ?_)
  obtain ⟨hin21, h⟩ := cz_ck h
  refine mo_is S hP hS mo_k17 hin21 d_MO_seal_21 (fun H locs hP hS => ?_)
  refine lv_aload_n hx hb d_MO_seal_22 rfl (lv_at hl 1 rfl) ?_
  refine gf_MO_58 S hP d_MO_seal_23 ?_
  refine lv_iconst (v := 1) hx hb d_MO_seal_26 (by decide) ?_
  refine lv_aload_n hx hb d_MO_seal_27 rfl (lv_at hl 1 rfl) ?_
  refine gf_MO_7 S hP d_MO_seal_28 ?_
  refine lv_iconst (v := 5) hx hb d_MO_seal_31 (by decide) ?_
  refine lv_iload hx hb d_MO_seal_32 (lv_at hl 0 rfl) ?_
  refine lv_imul hx hb d_MO_seal_34 ?_
  refine lv_iconst (v := 1) hx hb d_MO_seal_35 (by decide) ?_
  refine lv_iadd hx hb d_MO_seal_36 ?_
  obtain ⟨hin37, h⟩ := cz_ck h
  refine mo_ia S hP mo_k1 hin37 d_MO_seal_37 ?_
  refine lv_iconst (v := 1) hx hb d_MO_seal_38 (by decide) ?_
  refine lv_iadd hx hb d_MO_seal_39 ?_
  obtain ⟨hin40, h⟩ := cz_ck h
  refine mo_is S hP hS mo_k17 hin40 d_MO_seal_40 (fun H locs hP hS => ?_)
  refine lv_aload_n hx hb d_MO_seal_41 rfl (lv_at hl 1 rfl) ?_
  refine gf_MO_58 S hP d_MO_seal_42 ?_
  refine lv_iconst (v := 2) hx hb d_MO_seal_45 (by decide) ?_
  refine lv_iload_n hx hb d_MO_seal_46 rfl (lv_at hl 2 rfl) ?_
  obtain ⟨hin47, h⟩ := cz_ck h
  refine mo_is S hP hS mo_k17 hin47 d_MO_seal_47 (fun H locs hP hS => ?_)
  refine lv_aload_n hx hb d_MO_seal_48 rfl (lv_at hl 1 rfl) ?_
  refine gf_MO_58 S hP d_MO_seal_49 ?_
  refine lv_iconst (v := 3) hx hb d_MO_seal_52 (by decide) ?_
  refine lv_iload_n hx hb d_MO_seal_53 rfl (lv_at hl 3 rfl) ?_
  obtain ⟨hin54, h⟩ := cz_ck h
  refine mo_is S hP hS mo_k17 hin54 d_MO_seal_54 (fun H locs hP hS => ?_)
  refine lv_aload_n hx hb d_MO_seal_55 rfl (lv_at hl 1 rfl) ?_
  refine gf_MO_58 S hP d_MO_seal_56 ?_
  refine lv_iconst (v := 4) hx hb d_MO_seal_59 (by decide) ?_
  refine lv_iload_n hx hb d_MO_seal_60 rfl (lv_at hl 4 rfl) ?_
  refine lv_if_ge (tgt := 68) hx hb d_MO_seal_61 rfl (fun hc => ?_) (fun hc => ?_)
  · have h := cz_t hc h
    refine lv_iconst (v := 1) hx hb d_MO_seal_68 (by decide) ?_
    refine lv_iload_n hx hb d_MO_seal_69 rfl (lv_at hl 4 rfl) ?_
    obtain ⟨r70, M70, hq70, h⟩ := cz_ubi h
    refine iv_MO_76 (rest := [.int (4 : Int32), .ref (X.2.1 17)]) S hl.1 hP hS (c_MO_mix l hD (cz_i (cz_i (cz_i (cz_i M18 17 (0 : Int32).toNatClampNeg r18) 17 (1 : Int32).toNatClampNeg (((cz_i M18 17 (0 : Int32).toNatClampNeg r18).1 1 (((5 : Int32) * r2) + (1 : Int32)).toNatClampNeg) + (1 : Int32))) 17 (2 : Int32).toNatClampNeg a1) 17 (3 : Int32).toNatClampNeg a2) (1 : Int32) a3 hq70) ⟨Nat.le_of_ble_eq_true rfl, Nat.le_of_ble_eq_true rfl⟩ (Nat.le_of_ble_eq_true rfl) rfl d_MO_seal_70 (fun H locs hP hS => ?_)
    exact hb73 M70 r70 (4 : Int32) h _ _ _ hP hS (lv_sub hl [1, 2, 4] rfl)
  have h := cz_f hc h
  refine lv_iconst (v := 0) hx hb d_MO_seal_64 (by decide) ?_
  refine lv_goto (tgt := 73) hx hb d_MO_seal_65 rfl ?_
  exact hb73 (cz_i (cz_i (cz_i (cz_i M18 17 (0 : Int32).toNatClampNeg r18) 17 (1 : Int32).toNatClampNeg (((cz_i M18 17 (0 : Int32).toNatClampNeg r18).1 1 (((5 : Int32) * r2) + (1 : Int32)).toNatClampNeg) + (1 : Int32))) 17 (2 : Int32).toNatClampNeg a1) 17 (3 : Int32).toNatClampNeg a2) (0 : Int32) (4 : Int32) h _ _ _ hP hS (lv_sub hl [1, 2, 4] rfl)
set_option maxHeartbeats 4000000 in
set_option maxRecDepth 100000 in
theorem c_MO_peer (l : Launch) {X : cz_X} {A : Nat → Prop} (hD : ∀ M, va_D A (mo_wl X M)) (M : cz_M) (a1 : Int32) (a2 : Int32) {r2 : Int32} {M2 : cz_M} (h : f_MO_peer M a1 a2 = some (r2, M2)) : mo_Ct l X A y_MO_peer (Cond.code y_MO_peer b_MO_peer 3 (some .int) :: cz_T) rm_MO_peer [.ref (X.2.1 0), .int a1, .int a2] M (some (.int r2)) M2 := by
  refine cz_Met (by decide) rfl (Nat.le_of_ble_eq_true rfl) hD ?_
  intro p e s m args below meth c hargs S hr hlocks hP ls hl
  have S : cz_Cx p m c b_MO_peer 3 s args cz_T "ChainPeersModel" X.1 mo_cl (mo_tys X) cz_N A (mo_wl X) := S
  have hx := S.1.1
  have hb := S.1.2.1
  have hS : va_S A s.heap s.heap [] := va_S.rf
  have hl : lv_has ls 3 [(0, .ref (X.2.1 0)), (1, .int a1), (2, .int a2)] := hl
  refine lv_iload_n hx hb d_MO_peer_0 rfl (lv_at hl 1 rfl) ?_
  obtain ⟨r1, M1, hq1, h⟩ := cz_ubi h
  refine iv_MO_114 (rest := []) S hl.1 hP hS (c_MO_isPeer l hD M a1 hq1) ⟨Nat.le_of_ble_eq_true rfl, Nat.le_of_ble_eq_true rfl⟩ (Nat.le_of_ble_eq_true rfl) rfl d_MO_peer_1 (fun H locs hP hS => ?_)
  refine lv_if_ne (tgt := 9) hx hb d_MO_peer_4 rfl (fun hc => ?_) (fun hc => ?_)
  · have h := cz_f hc h
    refine lv_iload_n hx hb d_MO_peer_9 rfl (lv_at hl 2 rfl) ?_
    refine (Decidable.em (a2 = (0 : Int32))).elim (fun hc => ?_) (fun hc0 => ?_)
    · have h := cz_t hc h
      refine lv_tableIn (tgt := 48) hx hb d_MO_peer_10 (by rw [hc]; decide) (by rw [hc]; decide) (by rw [hc]; rfl) rfl ?_
      refine lv_aload_n hx hb d_MO_peer_48 rfl (lv_at hl 0 rfl) ?_
      refine gf_MO_19 S hP d_MO_peer_49 ?_
      refine lv_iload_n hx hb d_MO_peer_52 rfl (lv_at hl 1 rfl) ?_
      obtain ⟨hin53, h⟩ := cz_ck h
      refine mo_ia S hP mo_k4 hin53 d_MO_peer_53 ?_
      exact cz_ireth S hr hlocks hP hS h d_MO_peer_54
    have h := cz_f hc0 h
    refine (Decidable.em (a2 = (1 : Int32))).elim (fun hc => ?_) (fun hc1 => ?_)
    · have h := cz_t hc h
      refine lv_tableIn (tgt := 55) hx hb d_MO_peer_10 (by rw [hc]; decide) (by rw [hc]; decide) (by rw [hc]; rfl) rfl ?_
      refine lv_aload_n hx hb d_MO_peer_55 rfl (lv_at hl 0 rfl) ?_
      refine gf_MO_22 S hP d_MO_peer_56 ?_
      refine lv_iload_n hx hb d_MO_peer_59 rfl (lv_at hl 1 rfl) ?_
      obtain ⟨hin60, h⟩ := cz_ck h
      refine mo_ia S hP mo_k5 hin60 d_MO_peer_60 ?_
      exact cz_ireth S hr hlocks hP hS h d_MO_peer_61
    have h := cz_f hc1 h
    refine (Decidable.em (a2 = (2 : Int32))).elim (fun hc => ?_) (fun hc2 => ?_)
    · have h := cz_t hc h
      refine lv_tableIn (tgt := 62) hx hb d_MO_peer_10 (by rw [hc]; decide) (by rw [hc]; decide) (by rw [hc]; rfl) rfl ?_
      refine lv_aload_n hx hb d_MO_peer_62 rfl (lv_at hl 0 rfl) ?_
      refine gf_MO_25 S hP d_MO_peer_63 ?_
      refine lv_iload_n hx hb d_MO_peer_66 rfl (lv_at hl 1 rfl) ?_
      obtain ⟨hin67, h⟩ := cz_ck h
      refine mo_ia S hP mo_k6 hin67 d_MO_peer_67 ?_
      exact cz_ireth S hr hlocks hP hS h d_MO_peer_68
    have h := cz_f hc2 h
    refine (Decidable.em (a2 = (3 : Int32))).elim (fun hc => ?_) (fun hc3 => ?_)
    · have h := cz_t hc h
      refine lv_tableIn (tgt := 69) hx hb d_MO_peer_10 (by rw [hc]; decide) (by rw [hc]; decide) (by rw [hc]; rfl) rfl ?_
      refine lv_aload_n hx hb d_MO_peer_69 rfl (lv_at hl 0 rfl) ?_
      refine gf_MO_28 S hP d_MO_peer_70 ?_
      refine lv_iload_n hx hb d_MO_peer_73 rfl (lv_at hl 1 rfl) ?_
      obtain ⟨hin74, h⟩ := cz_ck h
      refine mo_ia S hP mo_k7 hin74 d_MO_peer_74 ?_
      exact cz_ireth S hr hlocks hP hS h d_MO_peer_75
    have h := cz_f hc3 h
    refine (Decidable.em (a2 = (4 : Int32))).elim (fun hc => ?_) (fun hc4 => ?_)
    · have h := cz_t hc h
      refine lv_tableIn (tgt := 76) hx hb d_MO_peer_10 (by rw [hc]; decide) (by rw [hc]; decide) (by rw [hc]; rfl) rfl ?_
      refine lv_aload_n hx hb d_MO_peer_76 rfl (lv_at hl 0 rfl) ?_
      refine gf_MO_37 S hP d_MO_peer_77 ?_
      refine lv_iload_n hx hb d_MO_peer_80 rfl (lv_at hl 1 rfl) ?_
      obtain ⟨hin81, h⟩ := cz_ck h
      refine mo_ia S hP mo_k10 hin81 d_MO_peer_81 ?_
      exact cz_ireth S hr hlocks hP hS h d_MO_peer_82
    have h := cz_f hc4 h
    refine (Decidable.em (a2 = (5 : Int32))).elim (fun hc => ?_) (fun hc5 => ?_)
    · have h := cz_t hc h
      refine lv_tableIn (tgt := 83) hx hb d_MO_peer_10 (by rw [hc]; decide) (by rw [hc]; decide) (by rw [hc]; rfl) rfl ?_
      refine lv_aload_n hx hb d_MO_peer_83 rfl (lv_at hl 0 rfl) ?_
      refine gf_MO_43 S hP d_MO_peer_84 ?_
      refine lv_iload_n hx hb d_MO_peer_87 rfl (lv_at hl 1 rfl) ?_
      obtain ⟨hin88, h⟩ := cz_ck h
      refine mo_ia S hP mo_k12 hin88 d_MO_peer_88 ?_
      exact cz_ireth S hr hlocks hP hS h d_MO_peer_89
    have h := cz_f hc5 h
    refine lv_tableOut (tgt := 90) hx hb d_MO_peer_10 (by have e0 := lv_neT (a := 0) hc0 rfl; have e1 := lv_neT (a := 1) hc1 rfl; have e2 := lv_neT (a := 2) hc2 rfl; have e3 := lv_neT (a := 3) hc3 rfl; have e4 := lv_neT (a := 4) hc4 rfl; have e5 := lv_neT (a := 5) hc5 rfl; omega) rfl ?_
    refine lv_iconst (v := 0) hx hb d_MO_peer_90 (by decide) ?_
    exact cz_ireth S hr hlocks hP hS h d_MO_peer_91
  have h := cz_t hc h
  refine lv_iconst (v := 0) hx hb d_MO_peer_7 (by decide) ?_
  exact cz_ireth S hr hlocks hP hS h d_MO_peer_8
set_option maxHeartbeats 4000000 in
set_option maxRecDepth 100000 in
theorem c_MO_block (l : Launch) {X : cz_X} {A : Nat → Prop} (hD : ∀ M, va_D A (mo_wl X M)) (M : cz_M) (a1 : Int32) (a2 : Int32) {r2 : Int32} {M2 : cz_M} (h : f_MO_block M a1 a2 = some (r2, M2)) : mo_Ct l X A y_MO_block (Cond.code y_MO_block b_MO_block 3 (some .int) :: cz_T) rm_MO_block [.ref (X.2.1 0), .int a1, .int a2] M (some (.int r2)) M2 := by
  refine cz_Met (by decide) rfl (Nat.le_of_ble_eq_true rfl) hD ?_
  intro p e s m args below meth c hargs S hr hlocks hP ls hl
  have S : cz_Cx p m c b_MO_block 3 s args cz_T "ChainPeersModel" X.1 mo_cl (mo_tys X) cz_N A (mo_wl X) := S
  have hx := S.1.1
  have hb := S.1.2.1
  have hS : va_S A s.heap s.heap [] := va_S.rf
  have hl : lv_has ls 3 [(0, .ref (X.2.1 0)), (1, .int a1), (2, .int a2)] := hl
  refine lv_iload_n hx hb d_MO_block_0 rfl (lv_at hl 1 rfl) ?_
  refine lv_if_lt (tgt := 22) hx hb d_MO_block_1 rfl (fun hc => ?_) (fun hc => ?_)
  · have h := cz_t hc h
    refine lv_iconst (v := -1) hx hb d_MO_block_22 (by decide) ?_
    exact cz_ireth S hr hlocks hP hS h d_MO_block_23
  have h := cz_f hc h
  refine lv_iload_n hx hb d_MO_block_4 rfl (lv_at hl 1 rfl) ?_
  refine lv_aload_n hx hb d_MO_block_5 rfl (lv_at hl 0 rfl) ?_
  refine gf_MO_71 S hP d_MO_block_6 ?_
  refine lv_icmp_ge (tgt := 22) hx hb d_MO_block_9 rfl (fun hc => ?_) (fun hc => ?_)
  · have h := cz_t hc h
    refine lv_iconst (v := -1) hx hb d_MO_block_22 (by decide) ?_
    exact cz_ireth S hr hlocks hP hS h d_MO_block_23
  have h := cz_f hc h
  refine lv_iload_n hx hb d_MO_block_12 rfl (lv_at hl 2 rfl) ?_
  refine lv_if_lt (tgt := 22) hx hb d_MO_block_13 rfl (fun hc => ?_) (fun hc => ?_)
  · have h := cz_t hc h
    refine lv_iconst (v := -1) hx hb d_MO_block_22 (by decide) ?_
    exact cz_ireth S hr hlocks hP hS h d_MO_block_23
  have h := cz_f hc h
  refine lv_iload_n hx hb d_MO_block_16 rfl (lv_at hl 2 rfl) ?_
  refine lv_bipush (v := 8) hx hb d_MO_block_17 (by decide) ?_
  refine lv_icmp_le (tgt := 24) hx hb d_MO_block_19 rfl (fun hc => ?_) (fun hc => ?_)
  · have h := cz_t hc h
    refine lv_iload_n hx hb d_MO_block_24 rfl (lv_at hl 2 rfl) ?_
    refine lv_iconst (v := 5) hx hb d_MO_block_25 (by decide) ?_
    refine lv_icmp_ge (tgt := 40) hx hb d_MO_block_26 rfl (fun hc => ?_) (fun hc => ?_)
    · have h := cz_t hc h
      refine lv_iload_n hx hb d_MO_block_40 rfl (lv_at hl 2 rfl) ?_
      refine lv_iconst (v := 5) hx hb d_MO_block_41 (by decide) ?_
      refine lv_icmp_ne (tgt := 54) hx hb d_MO_block_42 rfl (fun hc => ?_) (fun hc => ?_)
      · have h := cz_f hc h
        refine lv_iload_n hx hb d_MO_block_54 rfl (lv_at hl 2 rfl) ?_
        refine lv_bipush (v := 6) hx hb d_MO_block_55 (by decide) ?_
        refine lv_icmp_ne (tgt := 68) hx hb d_MO_block_57 rfl (fun hc => ?_) (fun hc => ?_)
        · have h := cz_f hc h
          refine lv_iload_n hx hb d_MO_block_68 rfl (lv_at hl 2 rfl) ?_
          refine lv_bipush (v := 7) hx hb d_MO_block_69 (by decide) ?_
          refine lv_icmp_ne (tgt := 83) hx hb d_MO_block_71 rfl (fun hc => ?_) (fun hc => ?_)
          · have h := cz_f hc h
            refine lv_aload_n hx hb d_MO_block_83 rfl (lv_at hl 0 rfl) ?_
            refine lv_iload_n hx hb d_MO_block_84 rfl (lv_at hl 1 rfl) ?_
            obtain ⟨r85, M85, hq85, h⟩ := cz_ubi h
            refine iv_MO_91 (rest := []) S hl.1 hP hS (c_MO_imported l hD M a1 hq85) ⟨Nat.le_of_ble_eq_true rfl, Nat.le_of_ble_eq_true rfl⟩ (Nat.le_of_ble_eq_true rfl) rfl d_MO_block_85 (fun H locs hP hS => ?_)
            refine lv_if_eq (tgt := 95) hx hb d_MO_block_88 rfl (fun hc => ?_) (fun hc => ?_)
            · have h := cz_t hc h
              refine lv_iconst (v := 0) hx hb d_MO_block_95 (by decide) ?_
              exact cz_ireth S hr hlocks hP hS h d_MO_block_96
            have h := cz_f hc h
            refine lv_iconst (v := 1) hx hb d_MO_block_91 (by decide) ?_
            refine lv_goto (tgt := 96) hx hb d_MO_block_92 rfl ?_
            exact cz_ireth S hr hlocks hP hS h d_MO_block_96
          have h := cz_t hc h
          refine lv_aload_n hx hb d_MO_block_74 rfl (lv_at hl 0 rfl) ?_
          refine gf_MO_16 S hP d_MO_block_75 ?_
          refine lv_iload_n hx hb d_MO_block_78 rfl (lv_at hl 1 rfl) ?_
          obtain ⟨hin79, h⟩ := cz_ck h
          refine mo_ia S hP mo_k3 hin79 d_MO_block_79 ?_
          refine lv_goto (tgt := 96) hx hb d_MO_block_80 rfl ?_
          exact cz_ireth S hr hlocks hP hS h d_MO_block_96
        have h := cz_t hc h
        refine lv_aload_n hx hb d_MO_block_60 rfl (lv_at hl 0 rfl) ?_
        refine lv_iload_n hx hb d_MO_block_61 rfl (lv_at hl 1 rfl) ?_
        obtain ⟨r62, M62, hq62, h⟩ := cz_ubi h
        refine iv_MO_95 (rest := []) S hl.1 hP hS (c_MO_total l hD M a1 hq62) ⟨Nat.le_of_ble_eq_true rfl, Nat.le_of_ble_eq_true rfl⟩ (Nat.le_of_ble_eq_true rfl) rfl d_MO_block_62 (fun H locs hP hS => ?_)
        refine lv_goto (tgt := 96) hx hb d_MO_block_65 rfl ?_
        exact cz_ireth S hr hlocks hP hS h d_MO_block_96
      have h := cz_t hc h
      refine lv_aload_n hx hb d_MO_block_45 rfl (lv_at hl 0 rfl) ?_
      refine lv_iconst (v := 1) hx hb d_MO_block_46 (by decide) ?_
      refine lv_iconst (v := 5) hx hb d_MO_block_47 (by decide) ?_
      refine lv_iload_n hx hb d_MO_block_48 rfl (lv_at hl 1 rfl) ?_
      refine lv_imul hx hb d_MO_block_49 ?_
      obtain ⟨r50, M50, hq50, h⟩ := cz_ubi h
      refine iv_MO_80 (rest := []) S hl.1 hP hS (c_MO_hash l hD M (1 : Int32) ((5 : Int32) * a1) hq50) ⟨Nat.le_of_ble_eq_true rfl, Nat.le_of_ble_eq_true rfl⟩ (Nat.le_of_ble_eq_true rfl) rfl d_MO_block_50 (fun H locs hP hS => ?_)
      exact cz_ireth S hr hlocks hP hS h d_MO_block_53
    have h := cz_f hc h
    refine lv_aload_n hx hb d_MO_block_29 rfl (lv_at hl 0 rfl) ?_
    refine gf_MO_7 S hP d_MO_block_30 ?_
    refine lv_iconst (v := 5) hx hb d_MO_block_33 (by decide) ?_
    refine lv_iload_n hx hb d_MO_block_34 rfl (lv_at hl 1 rfl) ?_
    refine lv_imul hx hb d_MO_block_35 ?_
    refine lv_iload_n hx hb d_MO_block_36 rfl (lv_at hl 2 rfl) ?_
    refine lv_iadd hx hb d_MO_block_37 ?_
    obtain ⟨hin38, h⟩ := cz_ck h
    refine mo_ia S hP mo_k1 hin38 d_MO_block_38 ?_
    exact cz_ireth S hr hlocks hP hS h d_MO_block_39
  have h := cz_f hc h
  refine lv_iconst (v := -1) hx hb d_MO_block_22 (by decide) ?_
  exact cz_ireth S hr hlocks hP hS h d_MO_block_23
set_option maxHeartbeats 4000000 in
set_option maxRecDepth 100000 in
theorem c_MO_tx (l : Launch) {X : cz_X} {A : Nat → Prop} (hD : ∀ M, va_D A (mo_wl X M)) (M : cz_M) (a1 : Int32) (a2 : Int32) {r2 : Int32} {M2 : cz_M} (h : f_MO_tx M a1 a2 = some (r2, M2)) : mo_Ct l X A y_MO_tx (Cond.code y_MO_tx b_MO_tx 3 (some .int) :: cz_T) rm_MO_tx [.ref (X.2.1 0), .int a1, .int a2] M (some (.int r2)) M2 := by
  refine cz_Met (by decide) rfl (Nat.le_of_ble_eq_true rfl) hD ?_
  intro p e s m args below meth c hargs S hr hlocks hP ls hl
  have S : cz_Cx p m c b_MO_tx 3 s args cz_T "ChainPeersModel" X.1 mo_cl (mo_tys X) cz_N A (mo_wl X) := S
  have hx := S.1.1
  have hb := S.1.2.1
  have hS : va_S A s.heap s.heap [] := va_S.rf
  have hl : lv_has ls 3 [(0, .ref (X.2.1 0)), (1, .int a1), (2, .int a2)] := hl
  have hb26 : ∀ (M : cz_M), b_MO_tx_26 a1 a2 M = some (r2, M2) → ∀ (H : Heap) (locs : List Loc) (ls : Array Slot), va_P X.1 mo_cl (mo_wl X M) H → va_S A s.heap H locs → lv_has ls 3 [] → W p l e rm_MO_tx s m args below meth c H locs 0 0 (MQ below (cz_Qw X.1 mo_cl (some (.int r2)) (mo_wl X M2) A) args s 0 0 A) (F0 m 26 ls []) := by
    intro M h H locs ls hP hS hl
    refine lv_iconst (v := -1) hx hb d_MO_tx_26 (by decide) ?_
    refine lv_goto (tgt := 41) hx hb d_MO_tx_27 rfl ?_
    exact cz_ireth S hr hlocks hP hS h d_MO_tx_41
  refine lv_iload_n hx hb d_MO_tx_0 rfl (lv_at hl 1 rfl) ?_
  refine lv_if_lt (tgt := 26) hx hb d_MO_tx_1 rfl (fun hc => ?_) (fun hc => ?_)
  · have h := cz_t hc h
    exact hb26 M h _ _ _ hP hS (lv_sub hl [] rfl)
  have h := cz_f hc h
  refine lv_iload_n hx hb d_MO_tx_4 rfl (lv_at hl 1 rfl) ?_
  refine lv_aload_n hx hb d_MO_tx_5 rfl (lv_at hl 0 rfl) ?_
  refine gf_MO_71 S hP d_MO_tx_6 ?_
  refine lv_icmp_ge (tgt := 26) hx hb d_MO_tx_9 rfl (fun hc => ?_) (fun hc => ?_)
  · have h := cz_t hc h
    exact hb26 M h _ _ _ hP hS (lv_sub hl [] rfl)
  have h := cz_f hc h
  refine lv_iload_n hx hb d_MO_tx_12 rfl (lv_at hl 2 rfl) ?_
  refine lv_if_lt (tgt := 26) hx hb d_MO_tx_13 rfl (fun hc => ?_) (fun hc => ?_)
  · have h := cz_t hc h
    exact hb26 M h _ _ _ hP hS (lv_sub hl [] rfl)
  have h := cz_f hc h
  refine lv_iload_n hx hb d_MO_tx_16 rfl (lv_at hl 2 rfl) ?_
  refine lv_aload_n hx hb d_MO_tx_17 rfl (lv_at hl 0 rfl) ?_
  refine gf_MO_16 S hP d_MO_tx_18 ?_
  refine lv_iload_n hx hb d_MO_tx_21 rfl (lv_at hl 1 rfl) ?_
  obtain ⟨hin22, h⟩ := cz_ck h
  refine mo_ia S hP mo_k3 hin22 d_MO_tx_22 ?_
  refine lv_icmp_lt (tgt := 30) hx hb d_MO_tx_23 rfl (fun hc => ?_) (fun hc => ?_)
  · have h := cz_t hc h
    refine lv_aload_n hx hb d_MO_tx_30 rfl (lv_at hl 0 rfl) ?_
    refine gf_MO_13 S hP d_MO_tx_31 ?_
    refine lv_bipush (v := 8) hx hb d_MO_tx_34 (by decide) ?_
    refine lv_iload_n hx hb d_MO_tx_36 rfl (lv_at hl 1 rfl) ?_
    refine lv_imul hx hb d_MO_tx_37 ?_
    refine lv_iload_n hx hb d_MO_tx_38 rfl (lv_at hl 2 rfl) ?_
    refine lv_iadd hx hb d_MO_tx_39 ?_
    obtain ⟨hin40, h⟩ := cz_ck h
    refine mo_ia S hP mo_k2 hin40 d_MO_tx_40 ?_
    exact cz_ireth S hr hlocks hP hS h d_MO_tx_41
  have h := cz_f hc h
  exact hb26 M h _ _ _ hP hS (lv_sub hl [] rfl)
set_option maxHeartbeats 4000000 in
set_option maxRecDepth 100000 in
theorem c_MO_state (l : Launch) {X : cz_X} {A : Nat → Prop} (hD : ∀ M, va_D A (mo_wl X M)) (M : cz_M) (a1 : Int32) {r2 : Int32} {M2 : cz_M} (h : f_MO_state M a1 = some (r2, M2)) : mo_Ct l X A y_MO_state (Cond.code y_MO_state b_MO_state 2 (some .int) :: cz_T) rm_MO_state [.ref (X.2.1 0), .int a1] M (some (.int r2)) M2 := by
  refine cz_Met (by decide) rfl (Nat.le_of_ble_eq_true rfl) hD ?_
  intro p e s m args below meth c hargs S hr hlocks hP ls hl
  have S : cz_Cx p m c b_MO_state 2 s args cz_T "ChainPeersModel" X.1 mo_cl (mo_tys X) cz_N A (mo_wl X) := S
  have hx := S.1.1
  have hb := S.1.2.1
  have hS : va_S A s.heap s.heap [] := va_S.rf
  have hl : lv_has ls 2 [(0, .ref (X.2.1 0)), (1, .int a1)] := hl
  refine lv_iload_n hx hb d_MO_state_0 rfl (lv_at hl 1 rfl) ?_
  refine lv_if_ne (tgt := 11) hx hb d_MO_state_1 rfl (fun hc => ?_) (fun hc => ?_)
  · have h := cz_f hc h
    refine lv_iload_n hx hb d_MO_state_11 rfl (lv_at hl 1 rfl) ?_
    refine lv_iconst (v := 1) hx hb d_MO_state_12 (by decide) ?_
    refine lv_icmp_ne (tgt := 24) hx hb d_MO_state_13 rfl (fun hc => ?_) (fun hc => ?_)
    · have h := cz_f hc h
      refine lv_iload_n hx hb d_MO_state_24 rfl (lv_at hl 1 rfl) ?_
      refine lv_iconst (v := 2) hx hb d_MO_state_25 (by decide) ?_
      refine lv_icmp_ne (tgt := 37) hx hb d_MO_state_26 rfl (fun hc => ?_) (fun hc => ?_)
      · have h := cz_f hc h
        refine lv_iload_n hx hb d_MO_state_37 rfl (lv_at hl 1 rfl) ?_
        refine lv_iconst (v := 3) hx hb d_MO_state_38 (by decide) ?_
        refine lv_icmp_ne (tgt := 49) hx hb d_MO_state_39 rfl (fun hc => ?_) (fun hc => ?_)
        · have h := cz_f hc h
          refine lv_iload_n hx hb d_MO_state_49 rfl (lv_at hl 1 rfl) ?_
          refine lv_iconst (v := 4) hx hb d_MO_state_50 (by decide) ?_
          refine lv_icmp_ne (tgt := 61) hx hb d_MO_state_51 rfl (fun hc => ?_) (fun hc => ?_)
          · have h := cz_f hc h
            refine lv_iconst (v := -1) hx hb d_MO_state_61 (by decide) ?_
            exact cz_ireth S hr hlocks hP hS h d_MO_state_62
          have h := cz_t hc h
          refine lv_aload_n hx hb d_MO_state_54 rfl (lv_at hl 0 rfl) ?_
          refine gf_MO_193 S hP d_MO_state_55 ?_
          refine lv_goto (tgt := 62) hx hb d_MO_state_58 rfl ?_
          exact cz_ireth S hr hlocks hP hS h d_MO_state_62
        have h := cz_t hc h
        refine lv_aload_n hx hb d_MO_state_42 rfl (lv_at hl 0 rfl) ?_
        refine gf_MO_196 S hP d_MO_state_43 ?_
        refine lv_goto (tgt := 62) hx hb d_MO_state_46 rfl ?_
        exact cz_ireth S hr hlocks hP hS h d_MO_state_62
      have h := cz_t hc h
      refine lv_aload_n hx hb d_MO_state_29 rfl (lv_at hl 0 rfl) ?_
      refine lv_iconst (v := 1) hx hb d_MO_state_30 (by decide) ?_
      obtain ⟨r31, M31, hq31, h⟩ := cz_ubi h
      refine iv_MO_98 (rest := []) S hl.1 hP hS (c_MO_greatest l hD M (1 : Int32) hq31) ⟨Nat.le_of_ble_eq_true rfl, Nat.le_of_ble_eq_true rfl⟩ (Nat.le_of_ble_eq_true rfl) rfl d_MO_state_31 (fun H locs hP hS => ?_)
      refine lv_goto (tgt := 62) hx hb d_MO_state_34 rfl ?_
      exact cz_ireth S hr hlocks hP hS h d_MO_state_62
    have h := cz_t hc h
    refine lv_aload_n hx hb d_MO_state_16 rfl (lv_at hl 0 rfl) ?_
    refine lv_iconst (v := 0) hx hb d_MO_state_17 (by decide) ?_
    obtain ⟨r18, M18, hq18, h⟩ := cz_ubi h
    refine iv_MO_98 (rest := []) S hl.1 hP hS (c_MO_greatest l hD M (0 : Int32) hq18) ⟨Nat.le_of_ble_eq_true rfl, Nat.le_of_ble_eq_true rfl⟩ (Nat.le_of_ble_eq_true rfl) rfl d_MO_state_18 (fun H locs hP hS => ?_)
    refine lv_goto (tgt := 62) hx hb d_MO_state_21 rfl ?_
    exact cz_ireth S hr hlocks hP hS h d_MO_state_62
  have h := cz_t hc h
  refine lv_aload_n hx hb d_MO_state_4 rfl (lv_at hl 0 rfl) ?_
  refine gf_MO_71 S hP d_MO_state_5 ?_
  refine lv_goto (tgt := 62) hx hb d_MO_state_8 rfl ?_
  exact cz_ireth S hr hlocks hP hS h d_MO_state_62
