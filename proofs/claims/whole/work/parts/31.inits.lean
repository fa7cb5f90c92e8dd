theorem bl_ChainPeers : ∀ j, j < 11 → defaultValue (t_ChainPeers j) = vp_V [.int 0, .int 0, .null, .null, .null, .null, .null, .null, .null, .int 0, .int 0] j := by
  intro j hj
  match j, hj with
  | 0, _ => rfl
  | 1, _ => rfl
  | 2, _ => rfl
  | 3, _ => rfl
  | 4, _ => rfl
  | 5, _ => rfl
  | 6, _ => rfl
  | 7, _ => rfl
  | 8, _ => rfl
  | 9, _ => rfl
  | 10, _ => rfl
  | n + 11, h => omega
theorem bl_Bytes : ∀ j, j < 2 → defaultValue (t_Bytes j) = vp_V [.null, .int 0] j := by
  intro j hj
  match j, hj with
  | 0, _ => rfl
  | 1, _ => rfl
  | n + 2, h => omega
theorem bl_Peer : ∀ j, j < 10 → defaultValue (t_Peer j) = vp_V [.int 0, .int 0, .int 0, .int 0, .int 0, .int 0, .int 0, .int 0, .null, .int 0] j := by
  intro j hj
  match j, hj with
  | 0, _ => rfl
  | 1, _ => rfl
  | 2, _ => rfl
  | 3, _ => rfl
  | 4, _ => rfl
  | 5, _ => rfl
  | 6, _ => rfl
  | 7, _ => rfl
  | 8, _ => rfl
  | 9, _ => rfl
  | n + 10, h => omega
theorem bl_Message : ∀ j, j < 12 → defaultValue (t_Message j) = vp_V [.int 0, .int 0, .int 0, .int 0, .int 0, .int 0, .int 0, .int 0, .null, .null, .null, .int 0] j := by
  intro j hj
  match j, hj with
  | 0, _ => rfl
  | 1, _ => rfl
  | 2, _ => rfl
  | 3, _ => rfl
  | 4, _ => rfl
  | 5, _ => rfl
  | 6, _ => rfl
  | 7, _ => rfl
  | 8, _ => rfl
  | 9, _ => rfl
  | 10, _ => rfl
  | 11, _ => rfl
  | n + 12, h => omega
theorem bl_Blocks : ∀ j, j < 8 → defaultValue (t_Blocks j) = vp_V [.null, .null, .null, .null, .null, .null, .null, .int 0] j := by
  intro j hj
  match j, hj with
  | 0, _ => rfl
  | 1, _ => rfl
  | 2, _ => rfl
  | 3, _ => rfl
  | 4, _ => rfl
  | 5, _ => rfl
  | 6, _ => rfl
  | 7, _ => rfl
  | n + 8, h => omega
abbrev ct_tys (ca : Nat → ClassId) : List (ClassId × FieldType) := [(ca 0, .int), (ca 1, .boolean), (ca 2, .array .int), (ca 3, .object "ChainPeers$Peer"), (ca 4, .object "ChainPeers$Bytes")]
abbrev b_Bytes_init : ByteArray := prog_3_method_1_code
def y_Bytes_init : MethodName := ⟨"ChainPeers$Bytes", "<init>", "()V"⟩
def rm_Bytes_init : Room := { frames := 1, cells := 1, slots := 56, locals := 24 }
theorem Y_Bytes_init : cz_Y cz_T y_Bytes_init b_Bytes_init 1 none 0 := ⟨cz_goodT, mw_21, mw_2, by decide +kernel⟩
theorem d_Bytes_init_0 : decode b_Bytes_init 0 = .ok (.aload_n 0, 1) := by decide +kernel
theorem d_Bytes_init_1 : decode b_Bytes_init 1 = .ok (.invokespecial 3, 3) := by decide +kernel
theorem d_Bytes_init_4 : decode b_Bytes_init 4 = .ok (.aload_n 0, 1) := by decide +kernel
theorem d_Bytes_init_5 : decode b_Bytes_init 5 = .ok (.bipush 56, 2) := by decide +kernel
theorem d_Bytes_init_7 : decode b_Bytes_init 7 = .ok (.newarray .int, 2) := by decide +kernel
theorem d_Bytes_init_9 : decode b_Bytes_init 9 = .ok (.putfield 9, 3) := by decide +kernel
theorem d_Bytes_init_12 : decode b_Bytes_init 12 = .ok (.return_, 1) := by decide +kernel
def pw_Bytes_init (ca : Nat → ClassId) (h0 : Nat) (w : va_W) : Prop := ∃ q7 : Nat, w = (q7, .inl (ca 0, 56, .inl (fun _ => 0))) :: (h0, .inr (1, [.ref q7, .int 0])) :: []
set_option maxHeartbeats 4000000 in
set_option maxRecDepth 100000 in
theorem c_Bytes_init (l : Launch) (D : va_G) (ca : Nat → ClassId) (h0 : Nat) : ∀ sz, Met l y_Bytes_init (Cond.code y_Bytes_init b_Bytes_init 1 none :: cz_T) rm_Bytes_init (va_Pc [.ref h0] (fun U => U.heap.size = sz ∧ ct_AO U ∧ cz_Pw D cp_cl (ct_tys ca) cz_N [(h0, .inr (1, [.null, .int 0]))] U)) (ct_Q D cp_cl (pw_Bytes_init ca h0) (fun q => q = h0 ∨ sz ≤ q)) 1 56 (fun q => q = h0 ∨ sz ≤ q) := by
  refine ct_Met (by decide) (Nat.le_of_ble_eq_true rfl) ?_
  intro p e s m args below meth c hargs S hr hlocks hin hO hP ls hl
  have S : cz_Cx p m c b_Bytes_init 1 s args cz_T "ChainPeers$Bytes" D cp_cl (ct_tys ca) cz_N (fun _ => True) (fun _ => []) := S
  have hin : meth.name = "<init>" := hin
  have hx := S.1.1
  have hb := S.1.2.1
  generalize hAe : (fun q => q = h0 ∨ s.heap.size ≤ q) = A
  have hA : ∀ q, s.heap.size ≤ q → A q := fun q h => by rw [← hAe]; exact Or.inr h
  have hD : va_D A [(h0, .inr (1, [.null, .int 0]))] := by
    rw [ct_Diff]
    refine ⟨by simp, fun q hq => ?_⟩
    rw [List.mem_singleton.mp hq, ← hAe]
    exact Or.inl rfl
  have hS : va_S A s.heap s.heap [] := va_S.rf
  have hl : lv_has ls 1 [(0, .ref h0)] := hl
  refine lv_aload_n hx hb d_Bytes_init_0 rfl (lv_at hl 0 rfl) ?_
  refine ct_obj S hl.1 mw_22 mw_15 mw_16 (Nat.le_of_ble_eq_true rfl) (Nat.le_of_ble_eq_true rfl) d_Bytes_init_1 ?_
  refine lv_aload_n hx hb d_Bytes_init_4 rfl (lv_at hl 0 rfl) ?_
  refine lv_bipush (v := 56) hx hb d_Bytes_init_5 (by decide) ?_
  refine ct_newp (at_ := .int) (ty := .int) (cI := ca 0) (t0 := 0) (N' := 56) S hP hD hS hA rfl rfl rfl mw_32 (by decide) (by decide) (by decide) (by decide) (by decide) d_Bytes_init_7 (fun q7 H hP hD hS => ?_)
  have hP : va_P D cp_cl ((q7, .inl (ca 0, 56, .inl (fun _ => 0))) :: (h0, .inr (1, [.null, .int 0])) :: []) H := hP
  have hD : va_D A ((q7, .inl (ca 0, 56, .inl (fun _ => 0))) :: (h0, .inr (1, [.null, .int 0])) :: []) := hD
  refine va_putF (D := D) (ci := 1) (v := .ref q7) (ty := (.array .int)) (C := "ChainPeers$Bytes") (T := F_Bytes) (N := 2) hx hb S.1.2.2.2.2 in_Bytes t_Bytes t_Bytes_ok n_Bytes S.1.2.2.2.1 S.2.1 hP hD hS 1 rfl rfl 0 (by decide) (S.1.2.2.2.2 _ mw_23) (fun _ h9 => h9) rfl hin rfl (by decide +kernel) rfl rfl (Nat.le_of_ble_eq_true rfl) d_Bytes_init_9 (fun H locs hP hD hS => ?_)
  have hP : va_P D cp_cl ((q7, .inl (ca 0, 56, .inl (fun _ => 0))) :: (h0, .inr (1, [.ref q7, .int 0])) :: []) H := hP
  have hD : va_D A ((q7, .inl (ca 0, 56, .inl (fun _ => 0))) :: (h0, .inr (1, [.ref q7, .int 0])) :: []) := hD
  refine W.widen (k := 1) (n := 56) (by decide) (by decide) ?_
  exact ct_ret S hr hlocks hP hD hS ⟨q7, rfl⟩ d_Bytes_init_12

abbrev b_Peer_init : ByteArray := prog_5_method_1_code
def y_Peer_init : MethodName := ⟨"ChainPeers$Peer", "<init>", "()V"⟩
def rm_Peer_init : Room := { frames := 2, cells := 9, slots := 236, locals := 44 }
theorem Y_Peer_init : cz_Y cz_T y_Peer_init b_Peer_init 2 none 0 := ⟨cz_goodT, mw_148, mw_6, by decide +kernel⟩
theorem d_Peer_init_0 : decode b_Peer_init 0 = .ok (.aload_n 0, 1) := by decide +kernel
theorem d_Peer_init_1 : decode b_Peer_init 1 = .ok (.invokespecial 3, 3) := by decide +kernel
theorem d_Peer_init_4 : decode b_Peer_init 4 = .ok (.aload_n 0, 1) := by decide +kernel
theorem d_Peer_init_5 : decode b_Peer_init 5 = .ok (.iconst 0, 1) := by decide +kernel
theorem d_Peer_init_6 : decode b_Peer_init 6 = .ok (.putfield 9, 3) := by decide +kernel
theorem d_Peer_init_9 : decode b_Peer_init 9 = .ok (.aload_n 0, 1) := by decide +kernel
theorem d_Peer_init_10 : decode b_Peer_init 10 = .ok (.iconst 4, 1) := by decide +kernel
theorem d_Peer_init_11 : decode b_Peer_init 11 = .ok (.anewarray 15, 3) := by decide +kernel
theorem d_Peer_init_14 : decode b_Peer_init 14 = .ok (.putfield 17, 3) := by decide +kernel
theorem d_Peer_init_17 : decode b_Peer_init 17 = .ok (.iconst 0, 1) := by decide +kernel
theorem d_Peer_init_18 : decode b_Peer_init 18 = .ok (.istore_n 1, 1) := by decide +kernel
theorem d_Peer_init_19 : decode b_Peer_init 19 = .ok (.iload_n 1, 1) := by decide +kernel
theorem d_Peer_init_20 : decode b_Peer_init 20 = .ok (.iconst 4, 1) := by decide +kernel
theorem d_Peer_init_21 : decode b_Peer_init 21 = .ok (.if_icmp .ge 22, 3) := by decide +kernel
theorem d_Peer_init_24 : decode b_Peer_init 24 = .ok (.aload_n 0, 1) := by decide +kernel
theorem d_Peer_init_25 : decode b_Peer_init 25 = .ok (.getfield 17, 3) := by decide +kernel
theorem d_Peer_init_28 : decode b_Peer_init 28 = .ok (.iload_n 1, 1) := by decide +kernel
theorem d_Peer_init_29 : decode b_Peer_init 29 = .ok (.new 15, 3) := by decide +kernel
theorem d_Peer_init_32 : decode b_Peer_init 32 = .ok (.dup, 1) := by decide +kernel
theorem d_Peer_init_33 : decode b_Peer_init 33 = .ok (.invokespecial 21, 3) := by decide +kernel
theorem d_Peer_init_36 : decode b_Peer_init 36 = .ok (.aastore, 1) := by decide +kernel
theorem d_Peer_init_37 : decode b_Peer_init 37 = .ok (.iinc 1 1, 3) := by decide +kernel
theorem d_Peer_init_40 : decode b_Peer_init 40 = .ok (.goto (-21), 3) := by decide +kernel
theorem d_Peer_init_43 : decode b_Peer_init 43 = .ok (.return_, 1) := by decide +kernel
def pw_Peer_init (ca : Nat → ClassId) (h0 : Nat) (w : va_W) : Prop := ∃ q11 q29 q7_33 q29_1 q7_33_1 q29_2 q7_33_2 q29_3 q7_33_3 : Nat, w = (q7_33_3, .inl (ca 0, 56, .inl (fun _ => 0))) :: (q29_3, .inr (1, [.ref q7_33_3, .int 0])) :: (q7_33_2, .inl (ca 0, 56, .inl (fun _ => 0))) :: (q29_2, .inr (1, [.ref q7_33_2, .int 0])) :: (q7_33_1, .inl (ca 0, 56, .inl (fun _ => 0))) :: (q29_1, .inr (1, [.ref q7_33_1, .int 0])) :: (q7_33, .inl (ca 0, 56, .inl (fun _ => 0))) :: (q29, .inr (1, [.ref q7_33, .int 0])) :: (q11, .inl (ca 4, 4, .inr (.inr (.inr (.inr (va_up (va_up (va_up (va_up (fun _ => none) 0 (some q29)) 1 (some q29_1)) 2 (some q29_2)) 3 (some q29_3))))))) :: (h0, .inr (2, [.int (0 : Int32), .int 0, .int 0, .int 0, .int 0, .int 0, .int 0, .int 0, .ref q11, .int 0])) :: []
set_option maxHeartbeats 4000000 in
set_option maxRecDepth 100000 in
theorem c_Peer_init (l : Launch) (D : va_G) (ca : Nat → ClassId) (h0 : Nat) : ∀ sz, Met l y_Peer_init (Cond.code y_Peer_init b_Peer_init 2 none :: cz_T) rm_Peer_init (va_Pc [.ref h0] (fun U => U.heap.size = sz ∧ ct_AO U ∧ cz_Pw D cp_cl (ct_tys ca) cz_N [(h0, .inr (2, [.int 0, .int 0, .int 0, .int 0, .int 0, .int 0, .int 0, .int 0, .null, .int 0]))] U)) (ct_Q D cp_cl (pw_Peer_init ca h0) (fun q => q = h0 ∨ sz ≤ q)) 9 236 (fun q => q = h0 ∨ sz ≤ q) := by
  refine ct_Met (by decide) (Nat.le_of_ble_eq_true rfl) ?_
  intro p e s m args below meth c hargs S hr hlocks hin hO hP ls hl
  have S : cz_Cx p m c b_Peer_init 2 s args cz_T "ChainPeers$Peer" D cp_cl (ct_tys ca) cz_N (fun _ => True) (fun _ => []) := S
  have hin : meth.name = "<init>" := hin
  have hx := S.1.1
  have hb := S.1.2.1
  generalize hAe : (fun q => q = h0 ∨ s.heap.size ≤ q) = A
  have hA : ∀ q, s.heap.size ≤ q → A q := fun q h => by rw [← hAe]; exact Or.inr h
  have hD : va_D A [(h0, .inr (2, [.int 0, .int 0, .int 0, .int 0, .int 0, .int 0, .int 0, .int 0, .null, .int 0]))] := by
    rw [ct_Diff]
    refine ⟨by simp, fun q hq => ?_⟩
    rw [List.mem_singleton.mp hq, ← hAe]
    exact Or.inl rfl
  have hS : va_S A s.heap s.heap [] := va_S.rf
  have hl : lv_has ls 2 [(0, .ref h0)] := hl
  refine lv_aload_n hx hb d_Peer_init_0 rfl (lv_at hl 0 rfl) ?_
  refine ct_obj S hl.1 mw_149 mw_15 mw_16 (Nat.le_of_ble_eq_true rfl) (Nat.le_of_ble_eq_true rfl) d_Peer_init_1 ?_
  refine lv_aload_n hx hb d_Peer_init_4 rfl (lv_at hl 0 rfl) ?_
  refine lv_iconst (v := 0) hx hb d_Peer_init_5 (by decide) ?_
  refine va_put (D := D) (ci := 2) (v := .int (0 : Int32)) (ty := (.int)) (C := "ChainPeers$Peer") (T := F_Peer) (N := 10) hx hb S.1.2.2.2.2 in_Peer t_Peer t_Peer_ok n_Peer S.1.2.2.2.1 S.2.1 hP hD hS 0 rfl rfl 0 (by decide) (S.1.2.2.2.2 _ mw_153) (fun _ h9 => h9) rfl (by decide +kernel) rfl rfl (Nat.le_of_ble_eq_true rfl) d_Peer_init_6 (fun H locs hP hD hS => ?_)
  have hP : va_P D cp_cl ((h0, .inr (2, [.int (0 : Int32), .int 0, .int 0, .int 0, .int 0, .int 0, .int 0, .int 0, .null, .int 0])) :: []) H := hP
  have hD : va_D A ((h0, .inr (2, [.int (0 : Int32), .int 0, .int 0, .int 0, .int 0, .int 0, .int 0, .int 0, .null, .int 0])) :: []) := hD
  refine lv_aload_n hx hb d_Peer_init_9 rfl (lv_at hl 0 rfl) ?_
  refine lv_iconst (v := 4) hx hb d_Peer_init_10 (by decide) ?_
  refine ct_newo (C := "ChainPeers$Bytes") (cI := ca 4) (t0 := 4) (N' := 4) S hP hD hS hA rfl mw_150 hO.1 (by decide) (by decide) (by decide) (by decide) (by decide) d_Peer_init_11 (fun q11 H hP hD hS => ?_)
  have hP : va_P D cp_cl ((q11, .inl (ca 4, 4, .inr (.inr (.inr (.inr (fun _ => none)))))) :: (h0, .inr (2, [.int (0 : Int32), .int 0, .int 0, .int 0, .int 0, .int 0, .int 0, .int 0, .null, .int 0])) :: []) H := hP
  have hD : va_D A ((q11, .inl (ca 4, 4, .inr (.inr (.inr (.inr (fun _ => none)))))) :: (h0, .inr (2, [.int (0 : Int32), .int 0, .int 0, .int 0, .int 0, .int 0, .int 0, .int 0, .null, .int 0])) :: []) := hD
  refine va_putF (D := D) (ci := 2) (v := .ref q11) (ty := (.array (.object "ChainPeers$Bytes"))) (C := "ChainPeers$Peer") (T := F_Peer) (N := 10) hx hb S.1.2.2.2.2 in_Peer t_Peer t_Peer_ok n_Peer S.1.2.2.2.1 S.2.1 hP hD hS 1 rfl rfl 8 (by decide) (S.1.2.2.2.2 _ mw_165) (fun _ h9 => h9) rfl hin rfl (by decide +kernel) rfl rfl (Nat.le_of_ble_eq_true rfl) d_Peer_init_14 (fun H locs hP hD hS => ?_)
  have hP : va_P D cp_cl ((q11, .inl (ca 4, 4, .inr (.inr (.inr (.inr (fun _ => none)))))) :: (h0, .inr (2, [.int (0 : Int32), .int 0, .int 0, .int 0, .int 0, .int 0, .int 0, .int 0, .ref q11, .int 0])) :: []) H := hP
  have hD : va_D A ((q11, .inl (ca 4, 4, .inr (.inr (.inr (.inr (fun _ => none)))))) :: (h0, .inr (2, [.int (0 : Int32), .int 0, .int 0, .int 0, .int 0, .int 0, .int 0, .int 0, .ref q11, .int 0])) :: []) := hD
  refine lv_iconst (v := 0) hx hb d_Peer_init_17 (by decide) ?_
  refine lv_istore_n (lv' := [(1, .int (0 : Int32)), (0, .ref h0)]) hx hb d_Peer_init_18 rfl hl (by decide) rfl (fun ls hl => ?_)
  refine lv_iload_n hx hb d_Peer_init_19 rfl (lv_at hl 0 rfl) ?_
  refine lv_iconst (v := 4) hx hb d_Peer_init_20 (by decide) ?_
  refine lv_icmp_ge (tgt := 43) hx hb d_Peer_init_21 rfl (fun hc => absurd hc (by decide)) (fun hc => ?_)
  refine lv_aload_n hx hb d_Peer_init_24 rfl (lv_at hl 1 rfl) ?_
  refine va_get (D := D) (ci := 2) (v := .ref q11) (C := "ChainPeers$Peer") (T := F_Peer) (N := 10) hx hb S.1.2.2.2.2 in_Peer S.1.2.2.2.1 S.2.1 hP 1 rfl rfl 8 (by decide) (S.1.2.2.2.2 _ mw_165) (fun _ h9 => h9) rfl d_Peer_init_25 ?_
  refine lv_iload_n hx hb d_Peer_init_28 rfl (lv_at hl 0 rfl) ?_
  refine ct_new S hP hD hS hA in_Bytes t_Bytes t_Bytes_ok mw_150 mw_18 mw_2 (ci := 1) (fs := [.null, .int 0]) rfl bl_Bytes (by decide) (by decide) d_Peer_init_29 (fun q29 H hP hD hS => ?_)
  have hP : va_P D cp_cl ((q29, .inr (1, [.null, .int 0])) :: (q11, .inl (ca 4, 4, .inr (.inr (.inr (.inr (fun _ => none)))))) :: (h0, .inr (2, [.int (0 : Int32), .int 0, .int 0, .int 0, .int 0, .int 0, .int 0, .int 0, .ref q11, .int 0])) :: []) H := hP
  have hD : va_D A ((q29, .inr (1, [.null, .int 0])) :: (q11, .inl (ca 4, 4, .inr (.inr (.inr (.inr (fun _ => none)))))) :: (h0, .inr (2, [.int (0 : Int32), .int 0, .int 0, .int 0, .int 0, .int 0, .int 0, .int 0, .ref q11, .int 0])) :: []) := hD
  refine lv_dup hx hb d_Peer_init_32 rfl ?_
  refine ct_callN (rest := [.ref q29, .int (0 : Int32), .ref q11]) S hl.1 hP hD hS hA hO (c_Bytes_init l D ca q29) Y_Bytes_init rfl mw_152 mw_20 rfl rfl ⟨Nat.le_of_ble_eq_true rfl, Nat.le_of_ble_eq_true rfl⟩ rfl (Nat.le_of_ble_eq_true rfl) ⟨by decide, by decide⟩ rfl d_Peer_init_33 (fun w1 H locs hw hP hD hS => ?_)
  obtain ⟨q7_33, rfl⟩ := hw
  have hP : va_P D cp_cl ((q7_33, .inl (ca 0, 56, .inl (fun _ => 0))) :: (q29, .inr (1, [.ref q7_33, .int 0])) :: (q11, .inl (ca 4, 4, .inr (.inr (.inr (.inr (fun _ => none)))))) :: (h0, .inr (2, [.int (0 : Int32), .int 0, .int 0, .int 0, .int 0, .int 0, .int 0, .int 0, .ref q11, .int 0])) :: []) H := hP
  have hD : va_D A ((q7_33, .inl (ca 0, 56, .inl (fun _ => 0))) :: (q29, .inr (1, [.ref q7_33, .int 0])) :: (q11, .inl (ca 4, 4, .inr (.inr (.inr (.inr (fun _ => none)))))) :: (h0, .inr (2, [.int (0 : Int32), .int 0, .int 0, .int 0, .int 0, .int 0, .int 0, .int 0, .ref q11, .int 0])) :: []) := hD
  refine va_astq hx hb S.2.1 hP hD hS 2 4 1 1 rfl rfl rfl rfl (by unfold vp_in; decide) d_Peer_init_36 (fun H locs hP hD hS => ?_)
  have hP : va_P D cp_cl ((q7_33, .inl (ca 0, 56, .inl (fun _ => 0))) :: (q29, .inr (1, [.ref q7_33, .int 0])) :: (q11, .inl (ca 4, 4, .inr (.inr (.inr (.inr (va_up (fun _ => none) 0 (some q29))))))) :: (h0, .inr (2, [.int (0 : Int32), .int 0, .int 0, .int 0, .int 0, .int 0, .int 0, .int 0, .ref q11, .int 0])) :: []) H := hP
  have hD : va_D A ((q7_33, .inl (ca 0, 56, .inl (fun _ => 0))) :: (q29, .inr (1, [.ref q7_33, .int 0])) :: (q11, .inl (ca 4, 4, .inr (.inr (.inr (.inr (va_up (fun _ => none) 0 (some q29))))))) :: (h0, .inr (2, [.int (0 : Int32), .int 0, .int 0, .int 0, .int 0, .int 0, .int 0, .int 0, .ref q11, .int 0])) :: []) := hD
  refine lv_iinc (lv' := [(1, .int (1 : Int32)), (0, .ref h0)]) (v := (1 : Int32)) (k := 0) hx hb d_Peer_init_37 hl rfl (by decide) (by decide) rfl (fun ls hl => ?_)
  refine lv_goto (tgt := 19) hx hb d_Peer_init_40 rfl ?_
  refine lv_iload_n hx hb d_Peer_init_19 rfl (lv_at hl 0 rfl) ?_
  refine lv_iconst (v := 4) hx hb d_Peer_init_20 (by decide) ?_
  refine lv_icmp_ge (tgt := 43) hx hb d_Peer_init_21 rfl (fun hc => absurd hc (by decide)) (fun hc => ?_)
  refine lv_aload_n hx hb d_Peer_init_24 rfl (lv_at hl 1 rfl) ?_
  refine va_get (D := D) (ci := 2) (v := .ref q11) (C := "ChainPeers$Peer") (T := F_Peer) (N := 10) hx hb S.1.2.2.2.2 in_Peer S.1.2.2.2.1 S.2.1 hP 3 rfl rfl 8 (by decide) (S.1.2.2.2.2 _ mw_165) (fun _ h9 => h9) rfl d_Peer_init_25 ?_
  refine lv_iload_n hx hb d_Peer_init_28 rfl (lv_at hl 0 rfl) ?_
  refine ct_new S hP hD hS hA in_Bytes t_Bytes t_Bytes_ok mw_150 mw_18 mw_2 (ci := 1) (fs := [.null, .int 0]) rfl bl_Bytes (by decide) (by decide) d_Peer_init_29 (fun q29_1 H hP hD hS => ?_)
  have hP : va_P D cp_cl ((q29_1, .inr (1, [.null, .int 0])) :: (q7_33, .inl (ca 0, 56, .inl (fun _ => 0))) :: (q29, .inr (1, [.ref q7_33, .int 0])) :: (q11, .inl (ca 4, 4, .inr (.inr (.inr (.inr (va_up (fun _ => none) 0 (some q29))))))) :: (h0, .inr (2, [.int (0 : Int32), .int 0, .int 0, .int 0, .int 0, .int 0, .int 0, .int 0, .ref q11, .int 0])) :: []) H := hP
  have hD : va_D A ((q29_1, .inr (1, [.null, .int 0])) :: (q7_33, .inl (ca 0, 56, .inl (fun _ => 0))) :: (q29, .inr (1, [.ref q7_33, .int 0])) :: (q11, .inl (ca 4, 4, .inr (.inr (.inr (.inr (va_up (fun _ => none) 0 (some q29))))))) :: (h0, .inr (2, [.int (0 : Int32), .int 0, .int 0, .int 0, .int 0, .int 0, .int 0, .int 0, .ref q11, .int 0])) :: []) := hD
  refine lv_dup hx hb d_Peer_init_32 rfl ?_
  refine ct_callN (rest := [.ref q29_1, .int (1 : Int32), .ref q11]) S hl.1 hP hD hS hA hO (c_Bytes_init l D ca q29_1) Y_Bytes_init rfl mw_152 mw_20 rfl rfl ⟨Nat.le_of_ble_eq_true rfl, Nat.le_of_ble_eq_true rfl⟩ rfl (Nat.le_of_ble_eq_true rfl) ⟨by decide, by decide⟩ rfl d_Peer_init_33 (fun w1 H locs hw hP hD hS => ?_)
  obtain ⟨q7_33_1, rfl⟩ := hw
  have hP : va_P D cp_cl ((q7_33_1, .inl (ca 0, 56, .inl (fun _ => 0))) :: (q29_1, .inr (1, [.ref q7_33_1, .int 0])) :: (q7_33, .inl (ca 0, 56, .inl (fun _ => 0))) :: (q29, .inr (1, [.ref q7_33, .int 0])) :: (q11, .inl (ca 4, 4, .inr (.inr (.inr (.inr (va_up (fun _ => none) 0 (some q29))))))) :: (h0, .inr (2, [.int (0 : Int32), .int 0, .int 0, .int 0, .int 0, .int 0, .int 0, .int 0, .ref q11, .int 0])) :: []) H := hP
  have hD : va_D A ((q7_33_1, .inl (ca 0, 56, .inl (fun _ => 0))) :: (q29_1, .inr (1, [.ref q7_33_1, .int 0])) :: (q7_33, .inl (ca 0, 56, .inl (fun _ => 0))) :: (q29, .inr (1, [.ref q7_33, .int 0])) :: (q11, .inl (ca 4, 4, .inr (.inr (.inr (.inr (va_up (fun _ => none) 0 (some q29))))))) :: (h0, .inr (2, [.int (0 : Int32), .int 0, .int 0, .int 0, .int 0, .int 0, .int 0, .int 0, .ref q11, .int 0])) :: []) := hD
  refine va_astq hx hb S.2.1 hP hD hS 4 4 1 1 rfl rfl rfl rfl (by unfold vp_in; decide) d_Peer_init_36 (fun H locs hP hD hS => ?_)
  have hP : va_P D cp_cl ((q7_33_1, .inl (ca 0, 56, .inl (fun _ => 0))) :: (q29_1, .inr (1, [.ref q7_33_1, .int 0])) :: (q7_33, .inl (ca 0, 56, .inl (fun _ => 0))) :: (q29, .inr (1, [.ref q7_33, .int 0])) :: (q11, .inl (ca 4, 4, .inr (.inr (.inr (.inr (va_up (va_up (fun _ => none) 0 (some q29)) 1 (some q29_1))))))) :: (h0, .inr (2, [.int (0 : Int32), .int 0, .int 0, .int 0, .int 0, .int 0, .int 0, .int 0, .ref q11, .int 0])) :: []) H := hP
  have hD : va_D A ((q7_33_1, .inl (ca 0, 56, .inl (fun _ => 0))) :: (q29_1, .inr (1, [.ref q7_33_1, .int 0])) :: (q7_33, .inl (ca 0, 56, .inl (fun _ => 0))) :: (q29, .inr (1, [.ref q7_33, .int 0])) :: (q11, .inl (ca 4, 4, .inr (.inr (.inr (.inr (va_up (va_up (fun _ => none) 0 (some q29)) 1 (some q29_1))))))) :: (h0, .inr (2, [.int (0 : Int32), .int 0, .int 0, .int 0, .int 0, .int 0, .int 0, .int 0, .ref q11, .int 0])) :: []) := hD
  refine lv_iinc (lv' := [(1, .int (2 : Int32)), (0, .ref h0)]) (v := (2 : Int32)) (k := 0) hx hb d_Peer_init_37 hl rfl (by decide) (by decide) rfl (fun ls hl => ?_)
  refine lv_goto (tgt := 19) hx hb d_Peer_init_40 rfl ?_
  refine lv_iload_n hx hb d_Peer_init_19 rfl (lv_at hl 0 rfl) ?_
  refine lv_iconst (v := 4) hx hb d_Peer_init_20 (by decide) ?_
  refine lv_icmp_ge (tgt := 43) hx hb d_Peer_init_21 rfl (fun hc => absurd hc (by decide)) (fun hc => ?_)
  refine lv_aload_n hx hb d_Peer_init_24 rfl (lv_at hl 1 rfl) ?_
  refine va_get (D := D) (ci := 2) (v := .ref q11) (C := "ChainPeers$Peer") (T := F_Peer) (N := 10) hx hb S.1.2.2.2.2 in_Peer S.1.2.2.2.1 S.2.1 hP 5 rfl rfl 8 (by decide) (S.1.2.2.2.2 _ mw_165) (fun _ h9 => h9) rfl d_Peer_init_25 ?_
  refine lv_iload_n hx hb d_Peer_init_28 rfl (lv_at hl 0 rfl) ?_
  refine ct_new S hP hD hS hA in_Bytes t_Bytes t_Bytes_ok mw_150 mw_18 mw_2 (ci := 1) (fs := [.null, .int 0]) rfl bl_Bytes (by decide) (by decide) d_Peer_init_29 (fun q29_2 H hP hD hS => ?_)
  have hP : va_P D cp_cl ((q29_2, .inr (1, [.null, .int 0])) :: (q7_33_1, .inl (ca 0, 56, .inl (fun _ => 0))) :: (q29_1, .inr (1, [.ref q7_33_1, .int 0])) :: (q7_33, .inl (ca 0, 56, .inl (fun _ => 0))) :: (q29, .inr (1, [.ref q7_33, .int 0])) :: (q11, .inl (ca 4, 4, .inr (.inr (.inr (.inr (va_up (va_up (fun _ => none) 0 (some q29)) 1 (some q29_1))))))) :: (h0, .inr (2, [.int (0 : Int32), .int 0, .int 0, .int 0, .int 0, .int 0, .int 0, .int 0, .ref q11, .int 0])) :: []) H := hP
  have hD : va_D A ((q29_2, .inr (1, [.null, .int 0])) :: (q7_33_1, .inl (ca 0, 56, .inl (fun _ => 0))) :: (q29_1, .inr (1, [.ref q7_33_1, .int 0])) :: (q7_33, .inl (ca 0, 56, .inl (fun _ => 0))) :: (q29, .inr (1, [.ref q7_33, .int 0])) :: (q11, .inl (ca 4, 4, .inr (.inr (.inr (.inr (va_up (va_up (fun _ => none) 0 (some q29)) 1 (some q29_1))))))) :: (h0, .inr (2, [.int (0 : Int32), .int 0, .int 0, .int 0, .int 0, .int 0, .int 0, .int 0, .ref q11, .int 0])) :: []) := hD
  refine lv_dup hx hb d_Peer_init_32 rfl ?_
  refine ct_callN (rest := [.ref q29_2, .int (2 : Int32), .ref q11]) S hl.1 hP hD hS hA hO (c_Bytes_init l D ca q29_2) Y_Bytes_init rfl mw_152 mw_20 rfl rfl ⟨Nat.le_of_ble_eq_true rfl, Nat.le_of_ble_eq_true rfl⟩ rfl (Nat.le_of_ble_eq_true rfl) ⟨by decide, by decide⟩ rfl d_Peer_init_33 (fun w1 H locs hw hP hD hS => ?_)
  obtain ⟨q7_33_2, rfl⟩ := hw
  have hP : va_P D cp_cl ((q7_33_2, .inl (ca 0, 56, .inl (fun _ => 0))) :: (q29_2, .inr (1, [.ref q7_33_2, .int 0])) :: (q7_33_1, .inl (ca 0, 56, .inl (fun _ => 0))) :: (q29_1, .inr (1, [.ref q7_33_1, .int 0])) :: (q7_33, .inl (ca 0, 56, .inl (fun _ => 0))) :: (q29, .inr (1, [.ref q7_33, .int 0])) :: (q11, .inl (ca 4, 4, .inr (.inr (.inr (.inr (va_up (va_up (fun _ => none) 0 (some q29)) 1 (some q29_1))))))) :: (h0, .inr (2, [.int (0 : Int32), .int 0, .int 0, .int 0, .int 0, .int 0, .int 0, .int 0, .ref q11, .int 0])) :: []) H := hP
  have hD : va_D A ((q7_33_2, .inl (ca 0, 56, .inl (fun _ => 0))) :: (q29_2, .inr (1, [.ref q7_33_2, .int 0])) :: (q7_33_1, .inl (ca 0, 56, .inl (fun _ => 0))) :: (q29_1, .inr (1, [.ref q7_33_1, .int 0])) :: (q7_33, .inl (ca 0, 56, .inl (fun _ => 0))) :: (q29, .inr (1, [.ref q7_33, .int 0])) :: (q11, .inl (ca 4, 4, .inr (.inr (.inr (.inr (va_up (va_up (fun _ => none) 0 (some q29)) 1 (some q29_1))))))) :: (h0, .inr (2, [.int (0 : Int32), .int 0, .int 0, .int 0, .int 0, .int 0, .int 0, .int 0, .ref q11, .int 0])) :: []) := hD
  refine va_astq hx hb S.2.1 hP hD hS 6 4 1 1 rfl rfl rfl rfl (by unfold vp_in; decide) d_Peer_init_36 (fun H locs hP hD hS => ?_)
  have hP : va_P D cp_cl ((q7_33_2, .inl (ca 0, 56, .inl (fun _ => 0))) :: (q29_2, .inr (1, [.ref q7_33_2, .int 0])) :: (q7_33_1, .inl (ca 0, 56, .inl (fun _ => 0))) :: (q29_1, .inr (1, [.ref q7_33_1, .int 0])) :: (q7_33, .inl (ca 0, 56, .inl (fun _ => 0))) :: (q29, .inr (1, [.ref q7_33, .int 0])) :: (q11, .inl (ca 4, 4, .inr (.inr (.inr (.inr (va_up (va_up (va_up (fun _ => none) 0 (some q29)) 1 (some q29_1)) 2 (some q29_2))))))) :: (h0, .inr (2, [.int (0 : Int32), .int 0, .int 0, .int 0, .int 0, .int 0, .int 0, .int 0, .ref q11, .int 0])) :: []) H := hP
  have hD : va_D A ((q7_33_2, .inl (ca 0, 56, .inl (fun _ => 0))) :: (q29_2, .inr (1, [.ref q7_33_2, .int 0])) :: (q7_33_1, .inl (ca 0, 56, .inl (fun _ => 0))) :: (q29_1, .inr (1, [.ref q7_33_1, .int 0])) :: (q7_33, .inl (ca 0, 56, .inl (fun _ => 0))) :: (q29, .inr (1, [.ref q7_33, .int 0])) :: (q11, .inl (ca 4, 4, .inr (.inr (.inr (.inr (va_up (va_up (va_up (fun _ => none) 0 (some q29)) 1 (some q29_1)) 2 (some q29_2))))))) :: (h0, .inr (2, [.int (0 : Int32), .int 0, .int 0, .int 0, .int 0, .int 0, .int 0, .int 0, .ref q11, .int 0])) :: []) := hD
  refine lv_iinc (lv' := [(1, .int (3 : Int32)), (0, .ref h0)]) (v := (3 : Int32)) (k := 0) hx hb d_Peer_init_37 hl rfl (by decide) (by decide) rfl (fun ls hl => ?_)
  refine lv_goto (tgt := 19) hx hb d_Peer_init_40 rfl ?_
  refine lv_iload_n hx hb d_Peer_init_19 rfl (lv_at hl 0 rfl) ?_
  refine lv_iconst (v := 4) hx hb d_Peer_init_20 (by decide) ?_
  refine lv_icmp_ge (tgt := 43) hx hb d_Peer_init_21 rfl (fun hc => absurd hc (by decide)) (fun hc => ?_)
  refine lv_aload_n hx hb d_Peer_init_24 rfl (lv_at hl 1 rfl) ?_
  refine va_get (D := D) (ci := 2) (v := .ref q11) (C := "ChainPeers$Peer") (T := F_Peer) (N := 10) hx hb S.1.2.2.2.2 in_Peer S.1.2.2.2.1 S.2.1 hP 7 rfl rfl 8 (by decide) (S.1.2.2.2.2 _ mw_165) (fun _ h9 => h9) rfl d_Peer_init_25 ?_
  refine lv_iload_n hx hb d_Peer_init_28 rfl (lv_at hl 0 rfl) ?_
  refine ct_new S hP hD hS hA in_Bytes t_Bytes t_Bytes_ok mw_150 mw_18 mw_2 (ci := 1) (fs := [.null, .int 0]) rfl bl_Bytes (by decide) (by decide) d_Peer_init_29 (fun q29_3 H hP hD hS => ?_)
  have hP : va_P D cp_cl ((q29_3, .inr (1, [.null, .int 0])) :: (q7_33_2, .inl (ca 0, 56, .inl (fun _ => 0))) :: (q29_2, .inr (1, [.ref q7_33_2, .int 0])) :: (q7_33_1, .inl (ca 0, 56, .inl (fun _ => 0))) :: (q29_1, .inr (1, [.ref q7_33_1, .int 0])) :: (q7_33, .inl (ca 0, 56, .inl (fun _ => 0))) :: (q29, .inr (1, [.ref q7_33, .int 0])) :: (q11, .inl (ca 4, 4, .inr (.inr (.inr (.inr (va_up (va_up (va_up (fun _ => none) 0 (some q29)) 1 (some q29_1)) 2 (some q29_2))))))) :: (h0, .inr (2, [.int (0 : Int32), .int 0, .int 0, .int 0, .int 0, .int 0, .int 0, .int 0, .ref q11, .int 0])) :: []) H := hP
  have hD : va_D A ((q29_3, .inr (1, [.null, .int 0])) :: (q7_33_2, .inl (ca 0, 56, .inl (fun _ => 0))) :: (q29_2, .inr (1, [.ref q7_33_2, .int 0])) :: (q7_33_1, .inl (ca 0, 56, .inl (fun _ => 0))) :: (q29_1, .inr (1, [.ref q7_33_1, .int 0])) :: (q7_33, .inl (ca 0, 56, .inl (fun _ => 0))) :: (q29, .inr (1, [.ref q7_33, .int 0])) :: (q11, .inl (ca 4, 4, .inr (.inr (.inr (.inr (va_up (va_up (va_up (fun _ => none) 0 (some q29)) 1 (some q29_1)) 2 (some q29_2))))))) :: (h0, .inr (2, [.int (0 : Int32), .int 0, .int 0, .int 0, .int 0, .int 0, .int 0, .int 0, .ref q11, .int 0])) :: []) := hD
  refine lv_dup hx hb d_Peer_init_32 rfl ?_
  refine ct_callN (rest := [.ref q29_3, .int (3 : Int32), .ref q11]) S hl.1 hP hD hS hA hO (c_Bytes_init l D ca q29_3) Y_Bytes_init rfl mw_152 mw_20 rfl rfl ⟨Nat.le_of_ble_eq_true rfl, Nat.le_of_ble_eq_true rfl⟩ rfl (Nat.le_of_ble_eq_true rfl) ⟨by decide, by decide⟩ rfl d_Peer_init_33 (fun w1 H locs hw hP hD hS => ?_)
  obtain ⟨q7_33_3, rfl⟩ := hw
  have hP : va_P D cp_cl ((q7_33_3, .inl (ca 0, 56, .inl (fun _ => 0))) :: (q29_3, .inr (1, [.ref q7_33_3, .int 0])) :: (q7_33_2, .inl (ca 0, 56, .inl (fun _ => 0))) :: (q29_2, .inr (1, [.ref q7_33_2, .int 0])) :: (q7_33_1, .inl (ca 0, 56, .inl (fun _ => 0))) :: (q29_1, .inr (1, [.ref q7_33_1, .int 0])) :: (q7_33, .inl (ca 0, 56, .inl (fun _ => 0))) :: (q29, .inr (1, [.ref q7_33, .int 0])) :: (q11, .inl (ca 4, 4, .inr (.inr (.inr (.inr (va_up (va_up (va_up (fun _ => none) 0 (some q29)) 1 (some q29_1)) 2 (some q29_2))))))) :: (h0, .inr (2, [.int (0 : Int32), .int 0, .int 0, .int 0, .int 0, .int 0, .int 0, .int 0, .ref q11, .int 0])) :: []) H := hP
  have hD : va_D A ((q7_33_3, .inl (ca 0, 56, .inl (fun _ => 0))) :: (q29_3, .inr (1, [.ref q7_33_3, .int 0])) :: (q7_33_2, .inl (ca 0, 56, .inl (fun _ => 0))) :: (q29_2, .inr (1, [.ref q7_33_2, .int 0])) :: (q7_33_1, .inl (ca 0, 56, .inl (fun _ => 0))) :: (q29_1, .inr (1, [.ref q7_33_1, .int 0])) :: (q7_33, .inl (ca 0, 56, .inl (fun _ => 0))) :: (q29, .inr (1, [.ref q7_33, .int 0])) :: (q11, .inl (ca 4, 4, .inr (.inr (.inr (.inr (va_up (va_up (va_up (fun _ => none) 0 (some q29)) 1 (some q29_1)) 2 (some q29_2))))))) :: (h0, .inr (2, [.int (0 : Int32), .int 0, .int 0, .int 0, .int 0, .int 0, .int 0, .int 0, .ref q11, .int 0])) :: []) := hD
  refine va_astq hx hb S.2.1 hP hD hS 8 4 1 1 rfl rfl rfl rfl (by unfold vp_in; decide) d_Peer_init_36 (fun H locs hP hD hS => ?_)
  have hP : va_P D cp_cl ((q7_33_3, .inl (ca 0, 56, .inl (fun _ => 0))) :: (q29_3, .inr (1, [.ref q7_33_3, .int 0])) :: (q7_33_2, .inl (ca 0, 56, .inl (fun _ => 0))) :: (q29_2, .inr (1, [.ref q7_33_2, .int 0])) :: (q7_33_1, .inl (ca 0, 56, .inl (fun _ => 0))) :: (q29_1, .inr (1, [.ref q7_33_1, .int 0])) :: (q7_33, .inl (ca 0, 56, .inl (fun _ => 0))) :: (q29, .inr (1, [.ref q7_33, .int 0])) :: (q11, .inl (ca 4, 4, .inr (.inr (.inr (.inr (va_up (va_up (va_up (va_up (fun _ => none) 0 (some q29)) 1 (some q29_1)) 2 (some q29_2)) 3 (some q29_3))))))) :: (h0, .inr (2, [.int (0 : Int32), .int 0, .int 0, .int 0, .int 0, .int 0, .int 0, .int 0, .ref q11, .int 0])) :: []) H := hP
  have hD : va_D A ((q7_33_3, .inl (ca 0, 56, .inl (fun _ => 0))) :: (q29_3, .inr (1, [.ref q7_33_3, .int 0])) :: (q7_33_2, .inl (ca 0, 56, .inl (fun _ => 0))) :: (q29_2, .inr (1, [.ref q7_33_2, .int 0])) :: (q7_33_1, .inl (ca 0, 56, .inl (fun _ => 0))) :: (q29_1, .inr (1, [.ref q7_33_1, .int 0])) :: (q7_33, .inl (ca 0, 56, .inl (fun _ => 0))) :: (q29, .inr (1, [.ref q7_33, .int 0])) :: (q11, .inl (ca 4, 4, .inr (.inr (.inr (.inr (va_up (va_up (va_up (va_up (fun _ => none) 0 (some q29)) 1 (some q29_1)) 2 (some q29_2)) 3 (some q29_3))))))) :: (h0, .inr (2, [.int (0 : Int32), .int 0, .int 0, .int 0, .int 0, .int 0, .int 0, .int 0, .ref q11, .int 0])) :: []) := hD
  refine lv_iinc (lv' := [(1, .int (4 : Int32)), (0, .ref h0)]) (v := (4 : Int32)) (k := 0) hx hb d_Peer_init_37 hl rfl (by decide) (by decide) rfl (fun ls hl => ?_)
  refine lv_goto (tgt := 19) hx hb d_Peer_init_40 rfl ?_
  refine lv_iload_n hx hb d_Peer_init_19 rfl (lv_at hl 0 rfl) ?_
  refine lv_iconst (v := 4) hx hb d_Peer_init_20 (by decide) ?_
  refine lv_icmp_ge (tgt := 43) hx hb d_Peer_init_21 rfl (fun hc => ?_) (fun hc => absurd (by decide) hc)
  refine W.widen (k := 9) (n := 236) (by decide) (by decide) ?_
  exact ct_ret S hr hlocks hP hD hS ⟨q11, q29, q7_33, q29_1, q7_33_1, q29_2, q7_33_2, q29_3, q7_33_3, rfl⟩ d_Peer_init_43

abbrev b_Message_init : ByteArray := prog_4_method_1_code
def y_Message_init : MethodName := ⟨"ChainPeers$Message", "<init>", "()V"⟩
def rm_Message_init : Room := { frames := 2, cells := 12, slots := 114, locals := 44 }
theorem Y_Message_init : cz_Y cz_T y_Message_init b_Message_init 1 none 0 := ⟨cz_goodT, mw_37, mw_3, by decide +kernel⟩
theorem d_Message_init_0 : decode b_Message_init 0 = .ok (.aload_n 0, 1) := by decide +kernel
theorem d_Message_init_1 : decode b_Message_init 1 = .ok (.invokespecial 3, 3) := by decide +kernel
theorem d_Message_init_4 : decode b_Message_init 4 = .ok (.aload_n 0, 1) := by decide +kernel
theorem d_Message_init_5 : decode b_Message_init 5 = .ok (.bipush 8, 2) := by decide +kernel
theorem d_Message_init_7 : decode b_Message_init 7 = .ok (.iconst 5, 1) := by decide +kernel
theorem d_Message_init_8 : decode b_Message_init 8 = .ok (.multianewarray 9 2, 4) := by decide +kernel
theorem d_Message_init_12 : decode b_Message_init 12 = .ok (.putfield 11, 3) := by decide +kernel
theorem d_Message_init_15 : decode b_Message_init 15 = .ok (.aload_n 0, 1) := by decide +kernel
theorem d_Message_init_16 : decode b_Message_init 16 = .ok (.bipush 8, 2) := by decide +kernel
theorem d_Message_init_18 : decode b_Message_init 18 = .ok (.newarray .int, 2) := by decide +kernel
theorem d_Message_init_20 : decode b_Message_init 20 = .ok (.putfield 16, 3) := by decide +kernel
theorem d_Message_init_23 : decode b_Message_init 23 = .ok (.aload_n 0, 1) := by decide +kernel
theorem d_Message_init_24 : decode b_Message_init 24 = .ok (.new 20, 3) := by decide +kernel
theorem d_Message_init_27 : decode b_Message_init 27 = .ok (.dup, 1) := by decide +kernel
theorem d_Message_init_28 : decode b_Message_init 28 = .ok (.invokespecial 22, 3) := by decide +kernel
theorem d_Message_init_31 : decode b_Message_init 31 = .ok (.putfield 23, 3) := by decide +kernel
theorem d_Message_init_34 : decode b_Message_init 34 = .ok (.return_, 1) := by decide +kernel
def pw_Message_init (ca : Nat → ClassId) (h0 : Nat) (w : va_W) : Prop := ∃ q8 q18 q24 q7_28 : Nat, w = (q7_28, .inl (ca 0, 56, .inl (fun _ => 0))) :: (q24, .inr (1, [.ref q7_28, .int 0])) :: (q18, .inl (ca 0, 8, .inl (fun _ => 0))) :: (q8, .inl (ca 2, 8, .inr (.inr (.inr (.inr (fun j => some (q8 + 1 + j))))))) :: (((List.range 8).map (fun i => (q8 + 1 + i, .inl (ca 0, 5, .inl (fun _ => 0))))) ++ ((h0, .inr (3, [.int 0, .int 0, .int 0, .int 0, .int 0, .int 0, .int 0, .int 0, .ref q8, .ref q18, .ref q24, .int 0])) :: []))
set_option maxHeartbeats 4000000 in
set_option maxRecDepth 100000 in
theorem c_Message_init (l : Launch) (D : va_G) (ca : Nat → ClassId) (h0 : Nat) : ∀ sz, Met l y_Message_init (Cond.code y_Message_init b_Message_init 1 none :: cz_T) rm_Message_init (va_Pc [.ref h0] (fun U => U.heap.size = sz ∧ ct_AO U ∧ cz_Pw D cp_cl (ct_tys ca) cz_N [(h0, .inr (3, [.int 0, .int 0, .int 0, .int 0, .int 0, .int 0, .int 0, .int 0, .null, .null, .null, .int 0]))] U)) (ct_Q D cp_cl (pw_Message_init ca h0) (fun q => q = h0 ∨ sz ≤ q)) 12 114 (fun q => q = h0 ∨ sz ≤ q) := by
  refine ct_Met (by decide) (Nat.le_of_ble_eq_true rfl) ?_
  intro p e s m args below meth c hargs S hr hlocks hin hO hP ls hl
  have S : cz_Cx p m c b_Message_init 1 s args cz_T "ChainPeers$Message" D cp_cl (ct_tys ca) cz_N (fun _ => True) (fun _ => []) := S
  have hin : meth.name = "<init>" := hin
  have hx := S.1.1
  have hb := S.1.2.1
  generalize hAe : (fun q => q = h0 ∨ s.heap.size ≤ q) = A
  have hA : ∀ q, s.heap.size ≤ q → A q := fun q h => by rw [← hAe]; exact Or.inr h
  have hD : va_D A [(h0, .inr (3, [.int 0, .int 0, .int 0, .int 0, .int 0, .int 0, .int 0, .int 0, .null, .null, .null, .int 0]))] := by
    rw [ct_Diff]
    refine ⟨by simp, fun q hq => ?_⟩
    rw [List.mem_singleton.mp hq, ← hAe]
    exact Or.inl rfl
  have hS : va_S A s.heap s.heap [] := va_S.rf
  have hl : lv_has ls 1 [(0, .ref h0)] := hl
  refine lv_aload_n hx hb d_Message_init_0 rfl (lv_at hl 0 rfl) ?_
  refine ct_obj S hl.1 mw_38 mw_15 mw_16 (Nat.le_of_ble_eq_true rfl) (Nat.le_of_ble_eq_true rfl) d_Message_init_1 ?_
  refine lv_aload_n hx hb d_Message_init_4 rfl (lv_at hl 0 rfl) ?_
  refine lv_bipush (v := 8) hx hb d_Message_init_5 (by decide) ?_
  refine lv_iconst (v := 5) hx hb d_Message_init_7 (by decide) ?_
  refine ct_newg (index := 9) (cI := ca 0) (cG := ca 2) (t0 := 0) (t1 := 2) (N' := 8) (K' := 5) S hP hD hS hA rfl rfl mw_39 hO mw_32 (by decide) (by decide) (by decide) (by decide) (by decide) (by decide) (by decide) (by decide) d_Message_init_8 (fun q8 H hP hD hS => ?_)
  have hP : va_P D cp_cl ((q8, .inl (ca 2, 8, .inr (.inr (.inr (.inr (fun j => some (q8 + 1 + j))))))) :: (((List.range 8).map (fun i => (q8 + 1 + i, .inl (ca 0, 5, .inl (fun _ => 0))))) ++ ((h0, .inr (3, [.int 0, .int 0, .int 0, .int 0, .int 0, .int 0, .int 0, .int 0, .null, .null, .null, .int 0])) :: []))) H := hP
  have hD : va_D A ((q8, .inl (ca 2, 8, .inr (.inr (.inr (.inr (fun j => some (q8 + 1 + j))))))) :: (((List.range 8).map (fun i => (q8 + 1 + i, .inl (ca 0, 5, .inl (fun _ => 0))))) ++ ((h0, .inr (3, [.int 0, .int 0, .int 0, .int 0, .int 0, .int 0, .int 0, .int 0, .null, .null, .null, .int 0])) :: []))) := hD
  refine va_putF (D := D) (ci := 3) (v := .ref q8) (ty := (.array (.array .int))) (C := "ChainPeers$Message") (T := F_Message) (N := 12) hx hb S.1.2.2.2.2 in_Message t_Message t_Message_ok n_Message S.1.2.2.2.1 S.2.1 hP hD hS 9 rfl rfl 8 (by decide) (S.1.2.2.2.2 _ mw_59) (fun _ h9 => h9) rfl hin rfl (by decide +kernel) rfl rfl (Nat.le_of_ble_eq_true rfl) d_Message_init_12 (fun H locs hP hD hS => ?_)
  have hP : va_P D cp_cl ((q8, .inl (ca 2, 8, .inr (.inr (.inr (.inr (fun j => some (q8 + 1 + j))))))) :: (((List.range 8).map (fun i => (q8 + 1 + i, .inl (ca 0, 5, .inl (fun _ => 0))))) ++ ((h0, .inr (3, [.int 0, .int 0, .int 0, .int 0, .int 0, .int 0, .int 0, .int 0, .ref q8, .null, .null, .int 0])) :: []))) H := hP
  have hD : va_D A ((q8, .inl (ca 2, 8, .inr (.inr (.inr (.inr (fun j => some (q8 + 1 + j))))))) :: (((List.range 8).map (fun i => (q8 + 1 + i, .inl (ca 0, 5, .inl (fun _ => 0))))) ++ ((h0, .inr (3, [.int 0, .int 0, .int 0, .int 0, .int 0, .int 0, .int 0, .int 0, .ref q8, .null, .null, .int 0])) :: []))) := hD
  refine lv_aload_n hx hb d_Message_init_15 rfl (lv_at hl 0 rfl) ?_
  refine lv_bipush (v := 8) hx hb d_Message_init_16 (by decide) ?_
  refine ct_newp (at_ := .int) (ty := .int) (cI := ca 0) (t0 := 0) (N' := 8) S hP hD hS hA rfl rfl rfl mw_32 (by decide) (by decide) (by decide) (by decide) (by decide) d_Message_init_18 (fun q18 H hP hD hS => ?_)
  have hP : va_P D cp_cl ((q18, .inl (ca 0, 8, .inl (fun _ => 0))) :: (q8, .inl (ca 2, 8, .inr (.inr (.inr (.inr (fun j => some (q8 + 1 + j))))))) :: (((List.range 8).map (fun i => (q8 + 1 + i, .inl (ca 0, 5, .inl (fun _ => 0))))) ++ ((h0, .inr (3, [.int 0, .int 0, .int 0, .int 0, .int 0, .int 0, .int 0, .int 0, .ref q8, .null, .null, .int 0])) :: []))) H := hP
  have hD : va_D A ((q18, .inl (ca 0, 8, .inl (fun _ => 0))) :: (q8, .inl (ca 2, 8, .inr (.inr (.inr (.inr (fun j => some (q8 + 1 + j))))))) :: (((List.range 8).map (fun i => (q8 + 1 + i, .inl (ca 0, 5, .inl (fun _ => 0))))) ++ ((h0, .inr (3, [.int 0, .int 0, .int 0, .int 0, .int 0, .int 0, .int 0, .int 0, .ref q8, .null, .null, .int 0])) :: []))) := hD
  refine va_putF (D := D) (ci := 3) (v := .ref q18) (ty := (.array .int)) (C := "ChainPeers$Message") (T := F_Message) (N := 12) hx hb S.1.2.2.2.2 in_Message t_Message t_Message_ok n_Message S.1.2.2.2.1 S.2.1 hP hD hS 10 rfl rfl 9 (by decide) (S.1.2.2.2.2 _ mw_61) (fun _ h9 => h9) rfl hin rfl (by decide +kernel) rfl rfl (Nat.le_of_ble_eq_true rfl) d_Message_init_20 (fun H locs hP hD hS => ?_)
  have hP : va_P D cp_cl ((q18, .inl (ca 0, 8, .inl (fun _ => 0))) :: (q8, .inl (ca 2, 8, .inr (.inr (.inr (.inr (fun j => some (q8 + 1 + j))))))) :: (((List.range 8).map (fun i => (q8 + 1 + i, .inl (ca 0, 5, .inl (fun _ => 0))))) ++ ((h0, .inr (3, [.int 0, .int 0, .int 0, .int 0, .int 0, .int 0, .int 0, .int 0, .ref q8, .ref q18, .null, .int 0])) :: []))) H := hP
  have hD : va_D A ((q18, .inl (ca 0, 8, .inl (fun _ => 0))) :: (q8, .inl (ca 2, 8, .inr (.inr (.inr (.inr (fun j => some (q8 + 1 + j))))))) :: (((List.range 8).map (fun i => (q8 + 1 + i, .inl (ca 0, 5, .inl (fun _ => 0))))) ++ ((h0, .inr (3, [.int 0, .int 0, .int 0, .int 0, .int 0, .int 0, .int 0, .int 0, .ref q8, .ref q18, .null, .int 0])) :: []))) := hD
  refine lv_aload_n hx hb d_Message_init_23 rfl (lv_at hl 0 rfl) ?_
  refine ct_new S hP hD hS hA in_Bytes t_Bytes t_Bytes_ok mw_41 mw_18 mw_2 (ci := 1) (fs := [.null, .int 0]) rfl bl_Bytes (by decide) (by decide) d_Message_init_24 (fun q24 H hP hD hS => ?_)
  have hP : va_P D cp_cl ((q24, .inr (1, [.null, .int 0])) :: (q18, .inl (ca 0, 8, .inl (fun _ => 0))) :: (q8, .inl (ca 2, 8, .inr (.inr (.inr (.inr (fun j => some (q8 + 1 + j))))))) :: (((List.range 8).map (fun i => (q8 + 1 + i, .inl (ca 0, 5, .inl (fun _ => 0))))) ++ ((h0, .inr (3, [.int 0, .int 0, .int 0, .int 0, .int 0, .int 0, .int 0, .int 0, .ref q8, .ref q18, .null, .int 0])) :: []))) H := hP
  have hD : va_D A ((q24, .inr (1, [.null, .int 0])) :: (q18, .inl (ca 0, 8, .inl (fun _ => 0))) :: (q8, .inl (ca 2, 8, .inr (.inr (.inr (.inr (fun j => some (q8 + 1 + j))))))) :: (((List.range 8).map (fun i => (q8 + 1 + i, .inl (ca 0, 5, .inl (fun _ => 0))))) ++ ((h0, .inr (3, [.int 0, .int 0, .int 0, .int 0, .int 0, .int 0, .int 0, .int 0, .ref q8, .ref q18, .null, .int 0])) :: []))) := hD
  refine lv_dup hx hb d_Message_init_27 rfl ?_
  refine ct_callN (rest := [.ref q24, .ref h0]) S hl.1 hP hD hS hA hO (c_Bytes_init l D ca q24) Y_Bytes_init rfl mw_42 mw_20 rfl rfl ⟨Nat.le_of_ble_eq_true rfl, Nat.le_of_ble_eq_true rfl⟩ rfl (Nat.le_of_ble_eq_true rfl) ⟨by decide, by decide⟩ rfl d_Message_init_28 (fun w1 H locs hw hP hD hS => ?_)
  obtain ⟨q7_28, rfl⟩ := hw
  have hP : va_P D cp_cl ((q7_28, .inl (ca 0, 56, .inl (fun _ => 0))) :: (q24, .inr (1, [.ref q7_28, .int 0])) :: (q18, .inl (ca 0, 8, .inl (fun _ => 0))) :: (q8, .inl (ca 2, 8, .inr (.inr (.inr (.inr (fun j => some (q8 + 1 + j))))))) :: (((List.range 8).map (fun i => (q8 + 1 + i, .inl (ca 0, 5, .inl (fun _ => 0))))) ++ ((h0, .inr (3, [.int 0, .int 0, .int 0, .int 0, .int 0, .int 0, .int 0, .int 0, .ref q8, .ref q18, .null, .int 0])) :: []))) H := hP
  have hD : va_D A ((q7_28, .inl (ca 0, 56, .inl (fun _ => 0))) :: (q24, .inr (1, [.ref q7_28, .int 0])) :: (q18, .inl (ca 0, 8, .inl (fun _ => 0))) :: (q8, .inl (ca 2, 8, .inr (.inr (.inr (.inr (fun j => some (q8 + 1 + j))))))) :: (((List.range 8).map (fun i => (q8 + 1 + i, .inl (ca 0, 5, .inl (fun _ => 0))))) ++ ((h0, .inr (3, [.int 0, .int 0, .int 0, .int 0, .int 0, .int 0, .int 0, .int 0, .ref q8, .ref q18, .null, .int 0])) :: []))) := hD
  refine va_putF (D := D) (ci := 3) (v := .ref q24) (ty := (.object "ChainPeers$Bytes")) (C := "ChainPeers$Message") (T := F_Message) (N := 12) hx hb S.1.2.2.2.2 in_Message t_Message t_Message_ok n_Message S.1.2.2.2.1 S.2.1 hP hD hS 12 rfl rfl 10 (by decide) (S.1.2.2.2.2 _ mw_63) (fun _ h9 => h9) rfl hin rfl (by decide +kernel) rfl rfl (Nat.le_of_ble_eq_true rfl) d_Message_init_31 (fun H locs hP hD hS => ?_)
  have hP : va_P D cp_cl ((q7_28, .inl (ca 0, 56, .inl (fun _ => 0))) :: (q24, .inr (1, [.ref q7_28, .int 0])) :: (q18, .inl (ca 0, 8, .inl (fun _ => 0))) :: (q8, .inl (ca 2, 8, .inr (.inr (.inr (.inr (fun j => some (q8 + 1 + j))))))) :: (((List.range 8).map (fun i => (q8 + 1 + i, .inl (ca 0, 5, .inl (fun _ => 0))))) ++ ((h0, .inr (3, [.int 0, .int 0, .int 0, .int 0, .int 0, .int 0, .int 0, .int 0, .ref q8, .ref q18, .ref q24, .int 0])) :: []))) H := hP
  have hD : va_D A ((q7_28, .inl (ca 0, 56, .inl (fun _ => 0))) :: (q24, .inr (1, [.ref q7_28, .int 0])) :: (q18, .inl (ca 0, 8, .inl (fun _ => 0))) :: (q8, .inl (ca 2, 8, .inr (.inr (.inr (.inr (fun j => some (q8 + 1 + j))))))) :: (((List.range 8).map (fun i => (q8 + 1 + i, .inl (ca 0, 5, .inl (fun _ => 0))))) ++ ((h0, .inr (3, [.int 0, .int 0, .int 0, .int 0, .int 0, .int 0, .int 0, .int 0, .ref q8, .ref q18, .ref q24, .int 0])) :: []))) := hD
  refine W.widen (k := 12) (n := 114) (by decide) (by decide) ?_
  exact ct_ret S hr hlocks hP hD hS ⟨q8, q18, q24, q7_28, rfl⟩ d_Message_init_34
