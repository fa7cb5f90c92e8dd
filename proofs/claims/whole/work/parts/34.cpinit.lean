def cp_M0 (a b : Int32) : cz_M := (fun k => if k = 0 then (fun j => if j = 0 then cz_max a 0 else if j = 1 then cz_min (cz_max b 1) 30 else 0) else if k = 19 then (fun j => if j = 7 then 1 else 0) else if k = 21 then upd (fun _ => 0) 0 (hs_h (upd (fun _ => 0) 3 8)) else if k = 23 then upd (fun _ => 0) 0 8 else if k = 26 then upd (fun _ => 0) 0 (vp_nar .boolean 1) else if k = 69 then upd (fun _ => 0) 3 8 else fun _ => 0, fun k j => 29 + 8 * ((k - 3) / 2) + 2 * j)
def pw_CP_init (D : va_G) (ca : Nat → ClassId) (h0 : Nat) (a b : Int32) (w : va_W) : Prop := ∃ X : cz_X, X.1 = D ∧ X.2.2 = ca ∧ X.2.1 0 = h0 ∧ w = cp_wl X (cp_M0 a b)
theorem pw_Peer_head {ca : Nat → ClassId} {h : Nat} {w : va_W} (hw : pw_Peer_init ca h w) : ∃ (k : Nat) (fs : List Value), w[k]? = some (h, .inr (2, fs)) := by
  obtain ⟨q11_x, q29_x, q7_33_x, q29_1_x, q7_33_1_x, q29_2_x, q7_33_2_x, q29_3_x, q7_33_3_x, rfl⟩ := hw
  exact ⟨9, _, rfl⟩
theorem ct_idx4 {w g : va_W} {a b c d x : Nat × va_E} {k : Nat} (h : w[k]? = some x) : (a :: b :: c :: d :: (w ++ g))[k + 4]? = some x := by
  show (w ++ g)[k]? = some x
  rw [List.getElem?_append_left (List.getElem?_eq_some_iff.mp h).1]
  exact h
theorem ct_rea {D : va_G} {cl : List vw_C} {a n : Nat} {cA : ClassId} {f g : Nat → Option Nat} {H : Heap} (h : va_at D cl (a, .inl (cA, n, .inr (.inr (.inr (.inr f))))) H) (hfg : ∀ j, j < n → f j = g j) : va_at D cl (a, .inl (cA, n, .inr (.inr (.inr (.inr g))))) H := by
  show H[a]? = some (vp_cell cA (n, .inr (.inr (.inr (.inr g)))))
  rw [vp_cell_q, ← ct_arrV (f := fun j => va_rf (f j)) (fun j hj => by rw [hfg j hj]), ← vp_cell_q]
  exact h
theorem cz_Pof {D : va_G} {cl : List vw_C} {n : Nat} {ce : cz_M → Nat → va_E} {ad : Nat → Nat} {M : cz_M} {H : Heap} (h : ∀ k, k < n → va_at D cl (ad k, ce M k) H) : va_P D cl (cz_wl n ce ad M) H := by
  intro k q hk
  by_cases hn : k < n
  · simp [cz_wl, hn] at hk
    rw [← hk]
    exact h k hn
  · simp [cz_wl, hn] at hk
theorem cz_Dof {A : Nat → Prop} {n : Nat} {ce : cz_M → Nat → va_E} {ad σ : Nat → Nat} {M : cz_M} {ws : va_W} (hD : va_D A ws) (hi : ∀ i, i < n → ∀ j, j < n → σ i = σ j → i = j) (h : ∀ k, k < n → ∃ e, ws[σ k]? = some (ad k, e)) : va_D A (cz_wl n ce ad M) := by
  refine cz_D (fun i j hin hjn he => ?_) (fun i hin => ?_) M
  · obtain ⟨e1, h1⟩ := h i hin
    obtain ⟨e2, h2⟩ := h j hjn
    exact hi i hin j hjn (hD.1 _ _ _ _ h1 h2 he)
  · obtain ⟨e1, h1⟩ := h i hin
    exact hD.2 _ _ h1
theorem ct_fin {p : Program} {l : Launch} {e : Env} {R : Room} {s : State} {m : MethodId} {args : Array Value} {below : List Frame} {meth : Method} {c : Code} {H : Heap} {locs : List Loc} {cc : ByteArray} {pc nL : Nat} {ls : Array Slot} {D : va_G} {cl : List vw_C} {A A9 : Nat → Prop} {tys : List (ClassId × FieldType)} {N Ts : List Cond} {own : String} {wl : cz_M → va_W} {P : va_W → Prop} {w1 : va_W} {mc ms : Nat} (S : cz_Cx p m c cc nL s args Ts own D cl tys N A9 wl) (hr : meth.sig.returnType = none) (hlocks : meth.locks = false) (hP : va_P D cl w1 H) (hD : va_D A w1) (hS : va_S A s.heap H locs) (hd : decode cc pc = .ok (.return_, 1)) (hw : ∃ w2, P w2 ∧ va_P D cl w2 H ∧ va_D A w2) :
    W p l e R s m args below meth c H locs mc ms (MQ below (ct_Q D cl P A) args s mc ms A) (F0 m pc ls []) := by
  obtain ⟨w2, h1, h2, h3⟩ := hw
  exact ct_ret S hr hlocks h2 h3 hS h1 hd
abbrev b_CP_init : ByteArray := prog_1_method_1_code
def y_CP_init : MethodName := ⟨"ChainPeers", "<init>", "(II)V"⟩
def rm_CP_init : Room := { frames := 3, cells := 108, slots := 1644, locals := 65 }
theorem Y_CP_init : cz_Y cz_T y_CP_init b_CP_init 4 none 2 := ⟨cz_goodT, mw_13, mw_1, by decide +kernel⟩
theorem d_CP_init_0 : decode b_CP_init 0 = .ok (.aload_n 0, 1) := by decide +kernel
theorem d_CP_init_1 : decode b_CP_init 1 = .ok (.invokespecial 1, 3) := by decide +kernel
theorem d_CP_init_4 : decode b_CP_init 4 = .ok (.aload_n 0, 1) := by decide +kernel
theorem d_CP_init_5 : decode b_CP_init 5 = .ok (.new 7, 3) := by decide +kernel
theorem d_CP_init_8 : decode b_CP_init 8 = .ok (.dup, 1) := by decide +kernel
theorem d_CP_init_9 : decode b_CP_init 9 = .ok (.invokespecial 9, 3) := by decide +kernel
theorem d_CP_init_12 : decode b_CP_init 12 = .ok (.putfield 10, 3) := by decide +kernel
theorem d_CP_init_15 : decode b_CP_init 15 = .ok (.aload_n 0, 1) := by decide +kernel
theorem d_CP_init_16 : decode b_CP_init 16 = .ok (.new 7, 3) := by decide +kernel
theorem d_CP_init_19 : decode b_CP_init 19 = .ok (.dup, 1) := by decide +kernel
theorem d_CP_init_20 : decode b_CP_init 20 = .ok (.invokespecial 9, 3) := by decide +kernel
theorem d_CP_init_23 : decode b_CP_init 23 = .ok (.putfield 16, 3) := by decide +kernel
theorem d_CP_init_26 : decode b_CP_init 26 = .ok (.aload_n 0, 1) := by decide +kernel
theorem d_CP_init_27 : decode b_CP_init 27 = .ok (.new 19, 3) := by decide +kernel
theorem d_CP_init_30 : decode b_CP_init 30 = .ok (.dup, 1) := by decide +kernel
theorem d_CP_init_31 : decode b_CP_init 31 = .ok (.invokespecial 21, 3) := by decide +kernel
theorem d_CP_init_34 : decode b_CP_init 34 = .ok (.putfield 22, 3) := by decide +kernel
theorem d_CP_init_37 : decode b_CP_init 37 = .ok (.aload_n 0, 1) := by decide +kernel
theorem d_CP_init_38 : decode b_CP_init 38 = .ok (.new 26, 3) := by decide +kernel
theorem d_CP_init_41 : decode b_CP_init 41 = .ok (.dup, 1) := by decide +kernel
theorem d_CP_init_42 : decode b_CP_init 42 = .ok (.invokespecial 28, 3) := by decide +kernel
theorem d_CP_init_45 : decode b_CP_init 45 = .ok (.putfield 29, 3) := by decide +kernel
theorem d_CP_init_48 : decode b_CP_init 48 = .ok (.aload_n 0, 1) := by decide +kernel
theorem d_CP_init_49 : decode b_CP_init 49 = .ok (.iconst 4, 1) := by decide +kernel
theorem d_CP_init_50 : decode b_CP_init 50 = .ok (.anewarray 33, 3) := by decide +kernel
theorem d_CP_init_53 : decode b_CP_init 53 = .ok (.putfield 35, 3) := by decide +kernel
theorem d_CP_init_56 : decode b_CP_init 56 = .ok (.aload_n 0, 1) := by decide +kernel
theorem d_CP_init_57 : decode b_CP_init 57 = .ok (.iconst 5, 1) := by decide +kernel
theorem d_CP_init_58 : decode b_CP_init 58 = .ok (.newarray .int, 2) := by decide +kernel
theorem d_CP_init_60 : decode b_CP_init 60 = .ok (.putfield 39, 3) := by decide +kernel
theorem d_CP_init_63 : decode b_CP_init 63 = .ok (.aload_n 0, 1) := by decide +kernel
theorem d_CP_init_64 : decode b_CP_init 64 = .ok (.iconst 1, 1) := by decide +kernel
theorem d_CP_init_65 : decode b_CP_init 65 = .ok (.newarray .int, 2) := by decide +kernel
theorem d_CP_init_67 : decode b_CP_init 67 = .ok (.putfield 43, 3) := by decide +kernel
theorem d_CP_init_70 : decode b_CP_init 70 = .ok (.aload_n 0, 1) := by decide +kernel
theorem d_CP_init_71 : decode b_CP_init 71 = .ok (.iload_n 1, 1) := by decide +kernel
theorem d_CP_init_72 : decode b_CP_init 72 = .ok (.iconst 0, 1) := by decide +kernel
theorem d_CP_init_73 : decode b_CP_init 73 = .ok (.invokestatic 46, 3) := by decide +kernel
theorem d_CP_init_76 : decode b_CP_init 76 = .ok (.putfield 52, 3) := by decide +kernel
theorem d_CP_init_79 : decode b_CP_init 79 = .ok (.aload_n 0, 1) := by decide +kernel
theorem d_CP_init_80 : decode b_CP_init 80 = .ok (.iload_n 2, 1) := by decide +kernel
theorem d_CP_init_81 : decode b_CP_init 81 = .ok (.iconst 1, 1) := by decide +kernel
theorem d_CP_init_82 : decode b_CP_init 82 = .ok (.invokestatic 46, 3) := by decide +kernel
theorem d_CP_init_85 : decode b_CP_init 85 = .ok (.bipush 30, 2) := by decide +kernel
theorem d_CP_init_87 : decode b_CP_init 87 = .ok (.invokestatic 56, 3) := by decide +kernel
theorem d_CP_init_90 : decode b_CP_init 90 = .ok (.putfield 59, 3) := by decide +kernel
theorem d_CP_init_93 : decode b_CP_init 93 = .ok (.iconst 0, 1) := by decide +kernel
theorem d_CP_init_94 : decode b_CP_init 94 = .ok (.istore_n 3, 1) := by decide +kernel
theorem d_CP_init_95 : decode b_CP_init 95 = .ok (.iload_n 3, 1) := by decide +kernel
theorem d_CP_init_96 : decode b_CP_init 96 = .ok (.iconst 4, 1) := by decide +kernel
theorem d_CP_init_97 : decode b_CP_init 97 = .ok (.if_icmp .ge 22, 3) := by decide +kernel
theorem d_CP_init_100 : decode b_CP_init 100 = .ok (.aload_n 0, 1) := by decide +kernel
theorem d_CP_init_101 : decode b_CP_init 101 = .ok (.getfield 35, 3) := by decide +kernel
theorem d_CP_init_104 : decode b_CP_init 104 = .ok (.iload_n 3, 1) := by decide +kernel
theorem d_CP_init_105 : decode b_CP_init 105 = .ok (.new 33, 3) := by decide +kernel
theorem d_CP_init_108 : decode b_CP_init 108 = .ok (.dup, 1) := by decide +kernel
theorem d_CP_init_109 : decode b_CP_init 109 = .ok (.invokespecial 62, 3) := by decide +kernel
theorem d_CP_init_112 : decode b_CP_init 112 = .ok (.aastore, 1) := by decide +kernel
theorem d_CP_init_113 : decode b_CP_init 113 = .ok (.iinc 3 1, 3) := by decide +kernel
theorem d_CP_init_116 : decode b_CP_init 116 = .ok (.goto (-21), 3) := by decide +kernel
theorem d_CP_init_119 : decode b_CP_init 119 = .ok (.return_, 1) := by decide +kernel
set_option maxHeartbeats 4000000 in
set_option maxRecDepth 100000 in
theorem c_CP_init (l : Launch) (D : va_G) (ca : Nat → ClassId) (h0 : Nat) (a1 a2 : Int32) : ∀ sz, Met l y_CP_init (Cond.code y_CP_init b_CP_init 4 none :: cz_T) rm_CP_init (va_Pc [.ref h0, .int a1, .int a2] (fun U => U.heap.size = sz ∧ ct_AO U ∧ cz_Pw D cp_cl (ct_tys ca) cz_N [(h0, .inr (0, [.int 0, .int 0, .null, .null, .null, .null, .null, .null, .null, .int 0, .int 0]))] U)) (ct_Q D cp_cl (pw_CP_init D ca h0 a1 a2) (fun q => q = h0 ∨ sz ≤ q)) 108 1644 (fun q => q = h0 ∨ sz ≤ q) := by
  refine ct_Met (by decide) (Nat.le_of_ble_eq_true rfl) ?_
  intro p e s m args below meth c hargs S hr hlocks hin hO hP ls hl
  have S : cz_Cx p m c b_CP_init 4 s args cz_T "ChainPeers" D cp_cl (ct_tys ca) cz_N (fun _ => True) (fun _ => []) := S
  have hin : meth.name = "<init>" := hin
  have hx := S.1.1
  have hb := S.1.2.1
  generalize hAe : (fun q => q = h0 ∨ s.heap.size ≤ q) = A
  have hA : ∀ q, s.heap.size ≤ q → A q := fun q h => by rw [← hAe]; exact Or.inr h
  have hD : va_D A [(h0, .inr (0, [.int 0, .int 0, .null, .null, .null, .null, .null, .null, .null, .int 0, .int 0]))] := by
    rw [ct_Diff]
    refine ⟨by simp, fun q hq => ?_⟩
    rw [List.mem_singleton.mp hq, ← hAe]
    exact Or.inl rfl
  have hS : va_S A s.heap s.heap [] := va_S.rf
  have hl : lv_has ls 4 [(0, .ref h0), (1, .int a1), (2, .int a2)] := hl
  refine lv_aload_n hx hb d_CP_init_0 rfl (lv_at hl 0 rfl) ?_
  refine ct_obj S hl.1 mw_14 mw_15 mw_16 (Nat.le_of_ble_eq_true rfl) (Nat.le_of_ble_eq_true rfl) d_CP_init_1 ?_
  refine lv_aload_n hx hb d_CP_init_4 rfl (lv_at hl 0 rfl) ?_
  refine ct_new S hP hD hS hA in_Bytes t_Bytes t_Bytes_ok mw_17 mw_18 mw_2 (ci := 1) (fs := [.null, .int 0]) rfl bl_Bytes (by decide) (by decide) d_CP_init_5 (fun q5 H hP hD hS => ?_)
  have hP : va_P D cp_cl ((q5, .inr (1, [.null, .int 0])) :: (h0, .inr (0, [.int 0, .int 0, .null, .null, .null, .null, .null, .null, .null, .int 0, .int 0])) :: []) H := hP
  have hD : va_D A ((q5, .inr (1, [.null, .int 0])) :: (h0, .inr (0, [.int 0, .int 0, .null, .null, .null, .null, .null, .null, .null, .int 0, .int 0])) :: []) := hD
  refine lv_dup hx hb d_CP_init_8 rfl ?_
  refine ct_callN (rest := [.ref q5, .ref h0]) S hl.1 hP hD hS hA hO (c_Bytes_init l D ca q5) Y_Bytes_init rfl mw_19 mw_20 rfl rfl ⟨Nat.le_of_ble_eq_true rfl, Nat.le_of_ble_eq_true rfl⟩ rfl (Nat.le_of_ble_eq_true rfl) ⟨by decide, by decide⟩ rfl d_CP_init_9 (fun w9 H locs hw9 hP hD hS => ?_)
  have hP := ct_P hP (List.perm_append_comm_assoc [(h0, .inr (0, [.int 0, .int 0, .null, .null, .null, .null, .null, .null, .null, .int 0, .int 0]))] w9 ([]))
  have hD := ct_D hD (List.perm_append_comm_assoc [(h0, .inr (0, [.int 0, .int 0, .null, .null, .null, .null, .null, .null, .null, .int 0, .int 0]))] w9 ([]))
  have hP : va_P D cp_cl ((h0, .inr (0, [.int 0, .int 0, .null, .null, .null, .null, .null, .null, .null, .int 0, .int 0])) :: (w9 ++ [])) H := hP
  have hD : va_D A ((h0, .inr (0, [.int 0, .int 0, .null, .null, .null, .null, .null, .null, .null, .int 0, .int 0])) :: (w9 ++ [])) := hD
  refine va_putF (D := D) (ci := 0) (v := .ref q5) (ty := (.object "ChainPeers$Bytes")) (C := "ChainPeers") (T := F_ChainPeers) (N := 11) hx hb S.1.2.2.2.2 in_ChainPeers t_ChainPeers t_ChainPeers_ok n_ChainPeers S.1.2.2.2.1 S.2.1 hP hD hS 0 rfl rfl 2 (by decide) (S.1.2.2.2.2 _ mw_191) (fun _ h9 => h9) rfl hin rfl (by decide +kernel) rfl rfl (Nat.le_of_ble_eq_true rfl) d_CP_init_12 (fun H locs hP hD hS => ?_)
  have hP : va_P D cp_cl ((h0, .inr (0, [.int 0, .int 0, .ref q5, .null, .null, .null, .null, .null, .null, .int 0, .int 0])) :: (w9 ++ [])) H := hP
  have hD : va_D A ((h0, .inr (0, [.int 0, .int 0, .ref q5, .null, .null, .null, .null, .null, .null, .int 0, .int 0])) :: (w9 ++ [])) := hD
  refine lv_aload_n hx hb d_CP_init_15 rfl (lv_at hl 0 rfl) ?_
  refine ct_new S hP hD hS hA in_Bytes t_Bytes t_Bytes_ok mw_17 mw_18 mw_2 (ci := 1) (fs := [.null, .int 0]) rfl bl_Bytes (by decide) (by decide) d_CP_init_16 (fun q16 H hP hD hS => ?_)
  have hP : va_P D cp_cl ((q16, .inr (1, [.null, .int 0])) :: (h0, .inr (0, [.int 0, .int 0, .ref q5, .null, .null, .null, .null, .null, .null, .int 0, .int 0])) :: (w9 ++ [])) H := hP
  have hD : va_D A ((q16, .inr (1, [.null, .int 0])) :: (h0, .inr (0, [.int 0, .int 0, .ref q5, .null, .null, .null, .null, .null, .null, .int 0, .int 0])) :: (w9 ++ [])) := hD
  refine lv_dup hx hb d_CP_init_19 rfl ?_
  refine ct_callN (rest := [.ref q16, .ref h0]) S hl.1 hP hD hS hA hO (c_Bytes_init l D ca q16) Y_Bytes_init rfl mw_19 mw_20 rfl rfl ⟨Nat.le_of_ble_eq_true rfl, Nat.le_of_ble_eq_true rfl⟩ rfl (Nat.le_of_ble_eq_true rfl) ⟨by decide, by decide⟩ rfl d_CP_init_20 (fun w20 H locs hw20 hP hD hS => ?_)
  have hP := ct_P hP (List.perm_append_comm_assoc [(h0, .inr (0, [.int 0, .int 0, .ref q5, .null, .null, .null, .null, .null, .null, .int 0, .int 0]))] w20 ((w9 ++ [])))
  have hD := ct_D hD (List.perm_append_comm_assoc [(h0, .inr (0, [.int 0, .int 0, .ref q5, .null, .null, .null, .null, .null, .null, .int 0, .int 0]))] w20 ((w9 ++ [])))
  have hP : va_P D cp_cl ((h0, .inr (0, [.int 0, .int 0, .ref q5, .null, .null, .null, .null, .null, .null, .int 0, .int 0])) :: (w20 ++ (w9 ++ []))) H := hP
  have hD : va_D A ((h0, .inr (0, [.int 0, .int 0, .ref q5, .null, .null, .null, .null, .null, .null, .int 0, .int 0])) :: (w20 ++ (w9 ++ []))) := hD
  refine va_putF (D := D) (ci := 0) (v := .ref q16) (ty := (.object "ChainPeers$Bytes")) (C := "ChainPeers") (T := F_ChainPeers) (N := 11) hx hb S.1.2.2.2.2 in_ChainPeers t_ChainPeers t_ChainPeers_ok n_ChainPeers S.1.2.2.2.1 S.2.1 hP hD hS 0 rfl rfl 3 (by decide) (S.1.2.2.2.2 _ mw_192) (fun _ h9 => h9) rfl hin rfl (by decide +kernel) rfl rfl (Nat.le_of_ble_eq_true rfl) d_CP_init_23 (fun H locs hP hD hS => ?_)
  have hP : va_P D cp_cl ((h0, .inr (0, [.int 0, .int 0, .ref q5, .ref q16, .null, .null, .null, .null, .null, .int 0, .int 0])) :: (w20 ++ (w9 ++ []))) H := hP
  have hD : va_D A ((h0, .inr (0, [.int 0, .int 0, .ref q5, .ref q16, .null, .null, .null, .null, .null, .int 0, .int 0])) :: (w20 ++ (w9 ++ []))) := hD
  refine lv_aload_n hx hb d_CP_init_26 rfl (lv_at hl 0 rfl) ?_
  refine ct_new S hP hD hS hA in_Message t_Message t_Message_ok mw_33 mw_34 mw_3 (ci := 3) (fs := [.int 0, .int 0, .int 0, .int 0, .int 0, .int 0, .int 0, .int 0, .null, .null, .null, .int 0]) rfl bl_Message (by decide) (by decide) d_CP_init_27 (fun q27 H hP hD hS => ?_)
  have hP : va_P D cp_cl ((q27, .inr (3, [.int 0, .int 0, .int 0, .int 0, .int 0, .int 0, .int 0, .int 0, .null, .null, .null, .int 0])) :: (h0, .inr (0, [.int 0, .int 0, .ref q5, .ref q16, .null, .null, .null, .null, .null, .int 0, .int 0])) :: (w20 ++ (w9 ++ []))) H := hP
  have hD : va_D A ((q27, .inr (3, [.int 0, .int 0, .int 0, .int 0, .int 0, .int 0, .int 0, .int 0, .null, .null, .null, .int 0])) :: (h0, .inr (0, [.int 0, .int 0, .ref q5, .ref q16, .null, .null, .null, .null, .null, .int 0, .int 0])) :: (w20 ++ (w9 ++ []))) := hD
  refine lv_dup hx hb d_CP_init_30 rfl ?_
  refine ct_callN (rest := [.ref q27, .ref h0]) S hl.1 hP hD hS hA hO (c_Message_init l D ca q27) Y_Message_init rfl mw_35 mw_36 rfl rfl ⟨Nat.le_of_ble_eq_true rfl, Nat.le_of_ble_eq_true rfl⟩ rfl (Nat.le_of_ble_eq_true rfl) ⟨by decide, by decide⟩ rfl d_CP_init_31 (fun w31 H locs hw31 hP hD hS => ?_)
  have hP := ct_P hP (List.perm_append_comm_assoc [(h0, .inr (0, [.int 0, .int 0, .ref q5, .ref q16, .null, .null, .null, .null, .null, .int 0, .int 0]))] w31 ((w20 ++ (w9 ++ []))))
  have hD := ct_D hD (List.perm_append_comm_assoc [(h0, .inr (0, [.int 0, .int 0, .ref q5, .ref q16, .null, .null, .null, .null, .null, .int 0, .int 0]))] w31 ((w20 ++ (w9 ++ []))))
  have hP : va_P D cp_cl ((h0, .inr (0, [.int 0, .int 0, .ref q5, .ref q16, .null, .null, .null, .null, .null, .int 0, .int 0])) :: (w31 ++ (w20 ++ (w9 ++ [])))) H := hP
  have hD : va_D A ((h0, .inr (0, [.int 0, .int 0, .ref q5, .ref q16, .null, .null, .null, .null, .null, .int 0, .int 0])) :: (w31 ++ (w20 ++ (w9 ++ [])))) := hD
  refine va_putF (D := D) (ci := 0) (v := .ref q27) (ty := (.object "ChainPeers$Message")) (C := "ChainPeers") (T := F_ChainPeers) (N := 11) hx hb S.1.2.2.2.2 in_ChainPeers t_ChainPeers t_ChainPeers_ok n_ChainPeers S.1.2.2.2.1 S.2.1 hP hD hS 0 rfl rfl 4 (by decide) (S.1.2.2.2.2 _ mw_193) (fun _ h9 => h9) rfl hin rfl (by decide +kernel) rfl rfl (Nat.le_of_ble_eq_true rfl) d_CP_init_34 (fun H locs hP hD hS => ?_)
  have hP : va_P D cp_cl ((h0, .inr (0, [.int 0, .int 0, .ref q5, .ref q16, .ref q27, .null, .null, .null, .null, .int 0, .int 0])) :: (w31 ++ (w20 ++ (w9 ++ [])))) H := hP
  have hD : va_D A ((h0, .inr (0, [.int 0, .int 0, .ref q5, .ref q16, .ref q27, .null, .null, .null, .null, .int 0, .int 0])) :: (w31 ++ (w20 ++ (w9 ++ [])))) := hD
  refine lv_aload_n hx hb d_CP_init_37 rfl (lv_at hl 0 rfl) ?_
  refine ct_new S hP hD hS hA in_Blocks t_Blocks t_Blocks_ok mw_90 mw_91 mw_4 (ci := 4) (fs := [.null, .null, .null, .null, .null, .null, .null, .int 0]) rfl bl_Blocks (by decide) (by decide) d_CP_init_38 (fun q38 H hP hD hS => ?_)
  have hP : va_P D cp_cl ((q38, .inr (4, [.null, .null, .null, .null, .null, .null, .null, .int 0])) :: (h0, .inr (0, [.int 0, .int 0, .ref q5, .ref q16, .ref q27, .null, .null, .null, .null, .int 0, .int 0])) :: (w31 ++ (w20 ++ (w9 ++ [])))) H := hP
  have hD : va_D A ((q38, .inr (4, [.null, .null, .null, .null, .null, .null, .null, .int 0])) :: (h0, .inr (0, [.int 0, .int 0, .ref q5, .ref q16, .ref q27, .null, .null, .null, .null, .int 0, .int 0])) :: (w31 ++ (w20 ++ (w9 ++ [])))) := hD
  refine lv_dup hx hb d_CP_init_41 rfl ?_
  refine ct_callN (rest := [.ref q38, .ref h0]) S hl.1 hP hD hS hA hO (c_Blocks_init l D ca q38) Y_Blocks_init rfl mw_92 mw_93 rfl rfl ⟨Nat.le_of_ble_eq_true rfl, Nat.le_of_ble_eq_true rfl⟩ rfl (Nat.le_of_ble_eq_true rfl) ⟨by decide, by decide⟩ rfl d_CP_init_42 (fun w42 H locs hw42 hP hD hS => ?_)
  have hP := ct_P hP (List.perm_append_comm_assoc [(h0, .inr (0, [.int 0, .int 0, .ref q5, .ref q16, .ref q27, .null, .null, .null, .null, .int 0, .int 0]))] w42 ((w31 ++ (w20 ++ (w9 ++ [])))))
  have hD := ct_D hD (List.perm_append_comm_assoc [(h0, .inr (0, [.int 0, .int 0, .ref q5, .ref q16, .ref q27, .null, .null, .null, .null, .int 0, .int 0]))] w42 ((w31 ++ (w20 ++ (w9 ++ [])))))
  have hP : va_P D cp_cl ((h0, .inr (0, [.int 0, .int 0, .ref q5, .ref q16, .ref q27, .null, .null, .null, .null, .int 0, .int 0])) :: (w42 ++ (w31 ++ (w20 ++ (w9 ++ []))))) H := hP
  have hD : va_D A ((h0, .inr (0, [.int 0, .int 0, .ref q5, .ref q16, .ref q27, .null, .null, .null, .null, .int 0, .int 0])) :: (w42 ++ (w31 ++ (w20 ++ (w9 ++ []))))) := hD
  refine va_putF (D := D) (ci := 0) (v := .ref q38) (ty := (.object "ChainPeers$Blocks")) (C := "ChainPeers") (T := F_ChainPeers) (N := 11) hx hb S.1.2.2.2.2 in_ChainPeers t_ChainPeers t_ChainPeers_ok n_ChainPeers S.1.2.2.2.1 S.2.1 hP hD hS 0 rfl rfl 5 (by decide) (S.1.2.2.2.2 _ mw_194) (fun _ h9 => h9) rfl hin rfl (by decide +kernel) rfl rfl (Nat.le_of_ble_eq_true rfl) d_CP_init_45 (fun H locs hP hD hS => ?_)
  have hP : va_P D cp_cl ((h0, .inr (0, [.int 0, .int 0, .ref q5, .ref q16, .ref q27, .ref q38, .null, .null, .null, .int 0, .int 0])) :: (w42 ++ (w31 ++ (w20 ++ (w9 ++ []))))) H := hP
  have hD : va_D A ((h0, .inr (0, [.int 0, .int 0, .ref q5, .ref q16, .ref q27, .ref q38, .null, .null, .null, .int 0, .int 0])) :: (w42 ++ (w31 ++ (w20 ++ (w9 ++ []))))) := hD
  refine lv_aload_n hx hb d_CP_init_48 rfl (lv_at hl 0 rfl) ?_
  refine lv_iconst (v := 4) hx hb d_CP_init_49 (by decide) ?_
  refine ct_newo (C := "ChainPeers$Peer") (cI := ca 3) (t0 := 3) (N' := 4) S hP hD hS hA rfl mw_137 hO.2.1 (by decide) (by decide) (by decide) (by decide) (by decide) d_CP_init_50 (fun q50 H hP hD hS => ?_)
  have hP : va_P D cp_cl ((q50, .inl (ca 3, 4, .inr (.inr (.inr (.inr (fun _ => none)))))) :: (h0, .inr (0, [.int 0, .int 0, .ref q5, .ref q16, .ref q27, .ref q38, .null, .null, .null, .int 0, .int 0])) :: (w42 ++ (w31 ++ (w20 ++ (w9 ++ []))))) H := hP
  have hD : va_D A ((q50, .inl (ca 3, 4, .inr (.inr (.inr (.inr (fun _ => none)))))) :: (h0, .inr (0, [.int 0, .int 0, .ref q5, .ref q16, .ref q27, .ref q38, .null, .null, .null, .int 0, .int 0])) :: (w42 ++ (w31 ++ (w20 ++ (w9 ++ []))))) := hD
  refine va_putF (D := D) (ci := 0) (v := .ref q50) (ty := (.array (.object "ChainPeers$Peer"))) (C := "ChainPeers") (T := F_ChainPeers) (N := 11) hx hb S.1.2.2.2.2 in_ChainPeers t_ChainPeers t_ChainPeers_ok n_ChainPeers S.1.2.2.2.1 S.2.1 hP hD hS 1 rfl rfl 6 (by decide) (S.1.2.2.2.2 _ mw_195) (fun _ h9 => h9) rfl hin rfl (by decide +kernel) rfl rfl (Nat.le_of_ble_eq_true rfl) d_CP_init_53 (fun H locs hP hD hS => ?_)
  have hP : va_P D cp_cl ((q50, .inl (ca 3, 4, .inr (.inr (.inr (.inr (fun _ => none)))))) :: (h0, .inr (0, [.int 0, .int 0, .ref q5, .ref q16, .ref q27, .ref q38, .ref q50, .null, .null, .int 0, .int 0])) :: (w42 ++ (w31 ++ (w20 ++ (w9 ++ []))))) H := hP
  have hD : va_D A ((q50, .inl (ca 3, 4, .inr (.inr (.inr (.inr (fun _ => none)))))) :: (h0, .inr (0, [.int 0, .int 0, .ref q5, .ref q16, .ref q27, .ref q38, .ref q50, .null, .null, .int 0, .int 0])) :: (w42 ++ (w31 ++ (w20 ++ (w9 ++ []))))) := hD
  refine lv_aload_n hx hb d_CP_init_56 rfl (lv_at hl 0 rfl) ?_
  refine lv_iconst (v := 5) hx hb d_CP_init_57 (by decide) ?_
  refine ct_newp (at_ := .int) (ty := .int) (cI := ca 0) (t0 := 0) (N' := 5) S hP hD hS hA rfl rfl rfl mw_32 (by decide) (by decide) (by decide) (by decide) (by decide) d_CP_init_58 (fun q58 H hP hD hS => ?_)
  have hP : va_P D cp_cl ((q58, .inl (ca 0, 5, .inl (fun _ => 0))) :: (q50, .inl (ca 3, 4, .inr (.inr (.inr (.inr (fun _ => none)))))) :: (h0, .inr (0, [.int 0, .int 0, .ref q5, .ref q16, .ref q27, .ref q38, .ref q50, .null, .null, .int 0, .int 0])) :: (w42 ++ (w31 ++ (w20 ++ (w9 ++ []))))) H := hP
  have hD : va_D A ((q58, .inl (ca 0, 5, .inl (fun _ => 0))) :: (q50, .inl (ca 3, 4, .inr (.inr (.inr (.inr (fun _ => none)))))) :: (h0, .inr (0, [.int 0, .int 0, .ref q5, .ref q16, .ref q27, .ref q38, .ref q50, .null, .null, .int 0, .int 0])) :: (w42 ++ (w31 ++ (w20 ++ (w9 ++ []))))) := hD
  refine va_putF (D := D) (ci := 0) (v := .ref q58) (ty := (.array .int)) (C := "ChainPeers") (T := F_ChainPeers) (N := 11) hx hb S.1.2.2.2.2 in_ChainPeers t_ChainPeers t_ChainPeers_ok n_ChainPeers S.1.2.2.2.1 S.2.1 hP hD hS 2 rfl rfl 7 (by decide) (S.1.2.2.2.2 _ mw_196) (fun _ h9 => h9) rfl hin rfl (by decide +kernel) rfl rfl (Nat.le_of_ble_eq_true rfl) d_CP_init_60 (fun H locs hP hD hS => ?_)
  have hP : va_P D cp_cl ((q58, .inl (ca 0, 5, .inl (fun _ => 0))) :: (q50, .inl (ca 3, 4, .inr (.inr (.inr (.inr (fun _ => none)))))) :: (h0, .inr (0, [.int 0, .int 0, .ref q5, .ref q16, .ref q27, .ref q38, .ref q50, .ref q58, .null, .int 0, .int 0])) :: (w42 ++ (w31 ++ (w20 ++ (w9 ++ []))))) H := hP
  have hD : va_D A ((q58, .inl (ca 0, 5, .inl (fun _ => 0))) :: (q50, .inl (ca 3, 4, .inr (.inr (.inr (.inr (fun _ => none)))))) :: (h0, .inr (0, [.int 0, .int 0, .ref q5, .ref q16, .ref q27, .ref q38, .ref q50, .ref q58, .null, .int 0, .int 0])) :: (w42 ++ (w31 ++ (w20 ++ (w9 ++ []))))) := hD
  refine lv_aload_n hx hb d_CP_init_63 rfl (lv_at hl 0 rfl) ?_
  refine lv_iconst (v := 1) hx hb d_CP_init_64 (by decide) ?_
  refine ct_newp (at_ := .int) (ty := .int) (cI := ca 0) (t0 := 0) (N' := 1) S hP hD hS hA rfl rfl rfl mw_32 (by decide) (by decide) (by decide) (by decide) (by decide) d_CP_init_65 (fun q65 H hP hD hS => ?_)
  have hP : va_P D cp_cl ((q65, .inl (ca 0, 1, .inl (fun _ => 0))) :: (q58, .inl (ca 0, 5, .inl (fun _ => 0))) :: (q50, .inl (ca 3, 4, .inr (.inr (.inr (.inr (fun _ => none)))))) :: (h0, .inr (0, [.int 0, .int 0, .ref q5, .ref q16, .ref q27, .ref q38, .ref q50, .ref q58, .null, .int 0, .int 0])) :: (w42 ++ (w31 ++ (w20 ++ (w9 ++ []))))) H := hP
  have hD : va_D A ((q65, .inl (ca 0, 1, .inl (fun _ => 0))) :: (q58, .inl (ca 0, 5, .inl (fun _ => 0))) :: (q50, .inl (ca 3, 4, .inr (.inr (.inr (.inr (fun _ => none)))))) :: (h0, .inr (0, [.int 0, .int 0, .ref q5, .ref q16, .ref q27, .ref q38, .ref q50, .ref q58, .null, .int 0, .int 0])) :: (w42 ++ (w31 ++ (w20 ++ (w9 ++ []))))) := hD
  refine va_putF (D := D) (ci := 0) (v := .ref q65) (ty := (.array .int)) (C := "ChainPeers") (T := F_ChainPeers) (N := 11) hx hb S.1.2.2.2.2 in_ChainPeers t_ChainPeers t_ChainPeers_ok n_ChainPeers S.1.2.2.2.1 S.2.1 hP hD hS 3 rfl rfl 8 (by decide) (S.1.2.2.2.2 _ mw_197) (fun _ h9 => h9) rfl hin rfl (by decide +kernel) rfl rfl (Nat.le_of_ble_eq_true rfl) d_CP_init_67 (fun H locs hP hD hS => ?_)
  have hP : va_P D cp_cl ((q65, .inl (ca 0, 1, .inl (fun _ => 0))) :: (q58, .inl (ca 0, 5, .inl (fun _ => 0))) :: (q50, .inl (ca 3, 4, .inr (.inr (.inr (.inr (fun _ => none)))))) :: (h0, .inr (0, [.int 0, .int 0, .ref q5, .ref q16, .ref q27, .ref q38, .ref q50, .ref q58, .ref q65, .int 0, .int 0])) :: (w42 ++ (w31 ++ (w20 ++ (w9 ++ []))))) H := hP
  have hD : va_D A ((q65, .inl (ca 0, 1, .inl (fun _ => 0))) :: (q58, .inl (ca 0, 5, .inl (fun _ => 0))) :: (q50, .inl (ca 3, 4, .inr (.inr (.inr (.inr (fun _ => none)))))) :: (h0, .inr (0, [.int 0, .int 0, .ref q5, .ref q16, .ref q27, .ref q38, .ref q50, .ref q58, .ref q65, .int 0, .int 0])) :: (w42 ++ (w31 ++ (w20 ++ (w9 ++ []))))) := hD
  refine lv_aload_n hx hb d_CP_init_70 rfl (lv_at hl 0 rfl) ?_
  refine lv_iload_n hx hb d_CP_init_71 rfl (lv_at hl 1 rfl) ?_
  refine lv_iconst (v := 0) hx hb d_CP_init_72 (by decide) ?_
  refine va_mmax S.1.1 S.1.2.1 (by rw [hl.1]; exact S.1.2.2.1) S.1.2.2.2.1 (S.1.2.2.2.2 _ mw_139) (S.1.2.2.2.2 _ mw_140) (S.1.2.2.2.2 _ mw_5) (S.1.2.2.2.2 _ mw_141) (Nat.le_of_ble_eq_true rfl) (Nat.le_of_ble_eq_true rfl) (by decide) (by decide) d_CP_init_73 ?_
  refine W.eq (g2 := F0 m 76 ls [.int (cz_max a1 (0 : Int32)), .ref h0]) rfl ?_
  refine va_putF (D := D) (ci := 0) (v := .int (cz_max a1 (0 : Int32))) (ty := (.int)) (C := "ChainPeers") (T := F_ChainPeers) (N := 11) hx hb S.1.2.2.2.2 in_ChainPeers t_ChainPeers t_ChainPeers_ok n_ChainPeers S.1.2.2.2.1 S.2.1 hP hD hS 3 rfl rfl 0 (by decide) (S.1.2.2.2.2 _ mw_189) (fun _ h9 => h9) rfl hin rfl (by decide +kernel) rfl rfl (Nat.le_of_ble_eq_true rfl) d_CP_init_76 (fun H locs hP hD hS => ?_)
  have hP : va_P D cp_cl ((q65, .inl (ca 0, 1, .inl (fun _ => 0))) :: (q58, .inl (ca 0, 5, .inl (fun _ => 0))) :: (q50, .inl (ca 3, 4, .inr (.inr (.inr (.inr (fun _ => none)))))) :: (h0, .inr (0, [.int (cz_max a1 (0 : Int32)), .int 0, .ref q5, .ref q16, .ref q27, .ref q38, .ref q50, .ref q58, .ref q65, .int 0, .int 0])) :: (w42 ++ (w31 ++ (w20 ++ (w9 ++ []))))) H := hP
  have hD : va_D A ((q65, .inl (ca 0, 1, .inl (fun _ => 0))) :: (q58, .inl (ca 0, 5, .inl (fun _ => 0))) :: (q50, .inl (ca 3, 4, .inr (.inr (.inr (.inr (fun _ => none)))))) :: (h0, .inr (0, [.int (cz_max a1 (0 : Int32)), .int 0, .ref q5, .ref q16, .ref q27, .ref q38, .ref q50, .ref q58, .ref q65, .int 0, .int 0])) :: (w42 ++ (w31 ++ (w20 ++ (w9 ++ []))))) := hD
  refine lv_aload_n hx hb d_CP_init_79 rfl (lv_at hl 0 rfl) ?_
  refine lv_iload_n hx hb d_CP_init_80 rfl (lv_at hl 2 rfl) ?_
  refine lv_iconst (v := 1) hx hb d_CP_init_81 (by decide) ?_
  refine va_mmax S.1.1 S.1.2.1 (by rw [hl.1]; exact S.1.2.2.1) S.1.2.2.2.1 (S.1.2.2.2.2 _ mw_139) (S.1.2.2.2.2 _ mw_140) (S.1.2.2.2.2 _ mw_5) (S.1.2.2.2.2 _ mw_141) (Nat.le_of_ble_eq_true rfl) (Nat.le_of_ble_eq_true rfl) (by decide) (by decide) d_CP_init_82 ?_
  refine W.eq (g2 := F0 m 85 ls [.int (cz_max a2 (1 : Int32)), .ref h0]) rfl ?_
  refine lv_bipush (v := 30) hx hb d_CP_init_85 (by decide) ?_
  refine va_mmin S.1.1 S.1.2.1 (by rw [hl.1]; exact S.1.2.2.1) S.1.2.2.2.1 (S.1.2.2.2.2 _ mw_142) (S.1.2.2.2.2 _ mw_143) (S.1.2.2.2.2 _ mw_5) (S.1.2.2.2.2 _ mw_144) (Nat.le_of_ble_eq_true rfl) (Nat.le_of_ble_eq_true rfl) (by decide) (by decide) d_CP_init_87 ?_
  refine W.eq (g2 := F0 m 90 ls [.int (cz_min (cz_max a2 (1 : Int32)) (30 : Int32)), .ref h0]) rfl ?_
  refine va_putF (D := D) (ci := 0) (v := .int (cz_min (cz_max a2 (1 : Int32)) (30 : Int32))) (ty := (.int)) (C := "ChainPeers") (T := F_ChainPeers) (N := 11) hx hb S.1.2.2.2.2 in_ChainPeers t_ChainPeers t_ChainPeers_ok n_ChainPeers S.1.2.2.2.1 S.2.1 hP hD hS 3 rfl rfl 1 (by decide) (S.1.2.2.2.2 _ mw_190) (fun _ h9 => h9) rfl hin rfl (by decide +kernel) rfl rfl (Nat.le_of_ble_eq_true rfl) d_CP_init_90 (fun H locs hP hD hS => ?_)
  have hP : va_P D cp_cl ((q65, .inl (ca 0, 1, .inl (fun _ => 0))) :: (q58, .inl (ca 0, 5, .inl (fun _ => 0))) :: (q50, .inl (ca 3, 4, .inr (.inr (.inr (.inr (fun _ => none)))))) :: (h0, .inr (0, [.int (cz_max a1 (0 : Int32)), .int (cz_min (cz_max a2 (1 : Int32)) (30 : Int32)), .ref q5, .ref q16, .ref q27, .ref q38, .ref q50, .ref q58, .ref q65, .int 0, .int 0])) :: (w42 ++ (w31 ++ (w20 ++ (w9 ++ []))))) H := hP
  have hD : va_D A ((q65, .inl (ca 0, 1, .inl (fun _ => 0))) :: (q58, .inl (ca 0, 5, .inl (fun _ => 0))) :: (q50, .inl (ca 3, 4, .inr (.inr (.inr (.inr (fun _ => none)))))) :: (h0, .inr (0, [.int (cz_max a1 (0 : Int32)), .int (cz_min (cz_max a2 (1 : Int32)) (30 : Int32)), .ref q5, .ref q16, .ref q27, .ref q38, .ref q50, .ref q58, .ref q65, .int 0, .int 0])) :: (w42 ++ (w31 ++ (w20 ++ (w9 ++ []))))) := hD
  refine lv_iconst (v := 0) hx hb d_CP_init_93 (by decide) ?_
  refine lv_istore_n (lv' := [(3, .int (0 : Int32)), (0, .ref h0), (1, .int a1), (2, .int a2)]) hx hb d_CP_init_94 rfl hl (by decide) rfl (fun ls hl => ?_)
  refine lv_iload_n hx hb d_CP_init_95 rfl (lv_at hl 0 rfl) ?_
  refine lv_iconst (v := 4) hx hb d_CP_init_96 (by decide) ?_
  refine lv_icmp_ge (tgt := 119) hx hb d_CP_init_97 rfl (fun hc => absurd hc (by decide)) (fun hc => ?_)
  refine lv_aload_n hx hb d_CP_init_100 rfl (lv_at hl 1 rfl) ?_
  refine va_get (D := D) (ci := 0) (v := .ref q50) (C := "ChainPeers") (T := F_ChainPeers) (N := 11) hx hb S.1.2.2.2.2 in_ChainPeers S.1.2.2.2.1 S.2.1 hP 3 rfl rfl 6 (by decide) (S.1.2.2.2.2 _ mw_195) (fun _ h9 => h9) rfl d_CP_init_101 ?_
  refine lv_iload_n hx hb d_CP_init_104 rfl (lv_at hl 0 rfl) ?_
  refine ct_new S hP hD hS hA in_Peer t_Peer t_Peer_ok mw_137 mw_145 mw_6 (ci := 2) (fs := [.int 0, .int 0, .int 0, .int 0, .int 0, .int 0, .int 0, .int 0, .null, .int 0]) rfl bl_Peer (by decide) (by decide) d_CP_init_105 (fun q105 H hP hD hS => ?_)
  have hP : va_P D cp_cl ((q105, .inr (2, [.int 0, .int 0, .int 0, .int 0, .int 0, .int 0, .int 0, .int 0, .null, .int 0])) :: (q65, .inl (ca 0, 1, .inl (fun _ => 0))) :: (q58, .inl (ca 0, 5, .inl (fun _ => 0))) :: (q50, .inl (ca 3, 4, .inr (.inr (.inr (.inr (fun _ => none)))))) :: (h0, .inr (0, [.int (cz_max a1 (0 : Int32)), .int (cz_min (cz_max a2 (1 : Int32)) (30 : Int32)), .ref q5, .ref q16, .ref q27, .ref q38, .ref q50, .ref q58, .ref q65, .int 0, .int 0])) :: (w42 ++ (w31 ++ (w20 ++ (w9 ++ []))))) H := hP
  have hD : va_D A ((q105, .inr (2, [.int 0, .int 0, .int 0, .int 0, .int 0, .int 0, .int 0, .int 0, .null, .int 0])) :: (q65, .inl (ca 0, 1, .inl (fun _ => 0))) :: (q58, .inl (ca 0, 5, .inl (fun _ => 0))) :: (q50, .inl (ca 3, 4, .inr (.inr (.inr (.inr (fun _ => none)))))) :: (h0, .inr (0, [.int (cz_max a1 (0 : Int32)), .int (cz_min (cz_max a2 (1 : Int32)) (30 : Int32)), .ref q5, .ref q16, .ref q27, .ref q38, .ref q50, .ref q58, .ref q65, .int 0, .int 0])) :: (w42 ++ (w31 ++ (w20 ++ (w9 ++ []))))) := hD
  refine lv_dup hx hb d_CP_init_108 rfl ?_
  refine ct_callN (rest := [.ref q105, .int (0 : Int32), .ref q50]) S hl.1 hP hD hS hA hO (c_Peer_init l D ca q105) Y_Peer_init rfl mw_146 mw_147 rfl rfl ⟨Nat.le_of_ble_eq_true rfl, Nat.le_of_ble_eq_true rfl⟩ rfl (Nat.le_of_ble_eq_true rfl) ⟨by decide, by decide⟩ rfl d_CP_init_109 (fun w109 H locs hw109 hP hD hS => ?_)
  have hP := ct_P hP (List.perm_append_comm_assoc [(q65, .inl (ca 0, 1, .inl (fun _ => 0))), (q58, .inl (ca 0, 5, .inl (fun _ => 0))), (q50, .inl (ca 3, 4, .inr (.inr (.inr (.inr (fun _ => none)))))), (h0, .inr (0, [.int (cz_max a1 (0 : Int32)), .int (cz_min (cz_max a2 (1 : Int32)) (30 : Int32)), .ref q5, .ref q16, .ref q27, .ref q38, .ref q50, .ref q58, .ref q65, .int 0, .int 0]))] w109 ((w42 ++ (w31 ++ (w20 ++ (w9 ++ []))))))
  have hD := ct_D hD (List.perm_append_comm_assoc [(q65, .inl (ca 0, 1, .inl (fun _ => 0))), (q58, .inl (ca 0, 5, .inl (fun _ => 0))), (q50, .inl (ca 3, 4, .inr (.inr (.inr (.inr (fun _ => none)))))), (h0, .inr (0, [.int (cz_max a1 (0 : Int32)), .int (cz_min (cz_max a2 (1 : Int32)) (30 : Int32)), .ref q5, .ref q16, .ref q27, .ref q38, .ref q50, .ref q58, .ref q65, .int 0, .int 0]))] w109 ((w42 ++ (w31 ++ (w20 ++ (w9 ++ []))))))
  have hP : va_P D cp_cl ((q65, .inl (ca 0, 1, .inl (fun _ => 0))) :: (q58, .inl (ca 0, 5, .inl (fun _ => 0))) :: (q50, .inl (ca 3, 4, .inr (.inr (.inr (.inr (fun _ => none)))))) :: (h0, .inr (0, [.int (cz_max a1 (0 : Int32)), .int (cz_min (cz_max a2 (1 : Int32)) (30 : Int32)), .ref q5, .ref q16, .ref q27, .ref q38, .ref q50, .ref q58, .ref q65, .int 0, .int 0])) :: (w109 ++ (w42 ++ (w31 ++ (w20 ++ (w9 ++ [])))))) H := hP
  have hD : va_D A ((q65, .inl (ca 0, 1, .inl (fun _ => 0))) :: (q58, .inl (ca 0, 5, .inl (fun _ => 0))) :: (q50, .inl (ca 3, 4, .inr (.inr (.inr (.inr (fun _ => none)))))) :: (h0, .inr (0, [.int (cz_max a1 (0 : Int32)), .int (cz_min (cz_max a2 (1 : Int32)) (30 : Int32)), .ref q5, .ref q16, .ref q27, .ref q38, .ref q50, .ref q58, .ref q65, .int 0, .int 0])) :: (w109 ++ (w42 ++ (w31 ++ (w20 ++ (w9 ++ [])))))) := hD
  obtain ⟨k9, fs9, hk9⟩ := pw_Peer_head hw109
  refine va_astq (r := ("ChainPeers$Peer", F_Peer, 10)) hx hb S.2.1 hP hD hS 2 3 (k9 + 4) 2 rfl rfl (ct_idx4 hk9) rfl (by unfold vp_in; decide) d_CP_init_112 (fun H locs hP hD hS => ?_)
  have hP : va_P D cp_cl ((q65, .inl (ca 0, 1, .inl (fun _ => 0))) :: (q58, .inl (ca 0, 5, .inl (fun _ => 0))) :: (q50, .inl (ca 3, 4, .inr (.inr (.inr (.inr (va_up (fun _ => none) 0 (some q105))))))) :: (h0, .inr (0, [.int (cz_max a1 (0 : Int32)), .int (cz_min (cz_max a2 (1 : Int32)) (30 : Int32)), .ref q5, .ref q16, .ref q27, .ref q38, .ref q50, .ref q58, .ref q65, .int 0, .int 0])) :: (w109 ++ (w42 ++ (w31 ++ (w20 ++ (w9 ++ [])))))) H := hP
  have hD : va_D A ((q65, .inl (ca 0, 1, .inl (fun _ => 0))) :: (q58, .inl (ca 0, 5, .inl (fun _ => 0))) :: (q50, .inl (ca 3, 4, .inr (.inr (.inr (.inr (va_up (fun _ => none) 0 (some q105))))))) :: (h0, .inr (0, [.int (cz_max a1 (0 : Int32)), .int (cz_min (cz_max a2 (1 : Int32)) (30 : Int32)), .ref q5, .ref q16, .ref q27, .ref q38, .ref q50, .ref q58, .ref q65, .int 0, .int 0])) :: (w109 ++ (w42 ++ (w31 ++ (w20 ++ (w9 ++ [])))))) := hD
  refine lv_iinc (lv' := [(3, .int (1 : Int32)), (0, .ref h0), (1, .int a1), (2, .int a2)]) (v := (1 : Int32)) (k := 0) hx hb d_CP_init_113 hl rfl (by decide) (by decide) rfl (fun ls hl => ?_)
  refine lv_goto (tgt := 95) hx hb d_CP_init_116 rfl ?_
  refine lv_iload_n hx hb d_CP_init_95 rfl (lv_at hl 0 rfl) ?_
  refine lv_iconst (v := 4) hx hb d_CP_init_96 (by decide) ?_
  refine lv_icmp_ge (tgt := 119) hx hb d_CP_init_97 rfl (fun hc => absurd hc (by decide)) (fun hc => ?_)
  refine lv_aload_n hx hb d_CP_init_100 rfl (lv_at hl 1 rfl) ?_
  refine va_get (D := D) (ci := 0) (v := .ref q50) (C := "ChainPeers") (T := F_ChainPeers) (N := 11) hx hb S.1.2.2.2.2 in_ChainPeers S.1.2.2.2.1 S.2.1 hP 3 rfl rfl 6 (by decide) (S.1.2.2.2.2 _ mw_195) (fun _ h9 => h9) rfl d_CP_init_101 ?_
  refine lv_iload_n hx hb d_CP_init_104 rfl (lv_at hl 0 rfl) ?_
  refine ct_new S hP hD hS hA in_Peer t_Peer t_Peer_ok mw_137 mw_145 mw_6 (ci := 2) (fs := [.int 0, .int 0, .int 0, .int 0, .int 0, .int 0, .int 0, .int 0, .null, .int 0]) rfl bl_Peer (by decide) (by decide) d_CP_init_105 (fun q105_1 H hP hD hS => ?_)
  have hP : va_P D cp_cl ((q105_1, .inr (2, [.int 0, .int 0, .int 0, .int 0, .int 0, .int 0, .int 0, .int 0, .null, .int 0])) :: (q65, .inl (ca 0, 1, .inl (fun _ => 0))) :: (q58, .inl (ca 0, 5, .inl (fun _ => 0))) :: (q50, .inl (ca 3, 4, .inr (.inr (.inr (.inr (va_up (fun _ => none) 0 (some q105))))))) :: (h0, .inr (0, [.int (cz_max a1 (0 : Int32)), .int (cz_min (cz_max a2 (1 : Int32)) (30 : Int32)), .ref q5, .ref q16, .ref q27, .ref q38, .ref q50, .ref q58, .ref q65, .int 0, .int 0])) :: (w109 ++ (w42 ++ (w31 ++ (w20 ++ (w9 ++ [])))))) H := hP
  have hD : va_D A ((q105_1, .inr (2, [.int 0, .int 0, .int 0, .int 0, .int 0, .int 0, .int 0, .int 0, .null, .int 0])) :: (q65, .inl (ca 0, 1, .inl (fun _ => 0))) :: (q58, .inl (ca 0, 5, .inl (fun _ => 0))) :: (q50, .inl (ca 3, 4, .inr (.inr (.inr (.inr (va_up (fun _ => none) 0 (some q105))))))) :: (h0, .inr (0, [.int (cz_max a1 (0 : Int32)), .int (cz_min (cz_max a2 (1 : Int32)) (30 : Int32)), .ref q5, .ref q16, .ref q27, .ref q38, .ref q50, .ref q58, .ref q65, .int 0, .int 0])) :: (w109 ++ (w42 ++ (w31 ++ (w20 ++ (w9 ++ [])))))) := hD
  refine lv_dup hx hb d_CP_init_108 rfl ?_
  refine ct_callN (rest := [.ref q105_1, .int (1 : Int32), .ref q50]) S hl.1 hP hD hS hA hO (c_Peer_init l D ca q105_1) Y_Peer_init rfl mw_146 mw_147 rfl rfl ⟨Nat.le_of_ble_eq_true rfl, Nat.le_of_ble_eq_true rfl⟩ rfl (Nat.le_of_ble_eq_true rfl) ⟨by decide, by decide⟩ rfl d_CP_init_109 (fun w109_1 H locs hw109_1 hP hD hS => ?_)
  have hP := ct_P hP (List.perm_append_comm_assoc [(q65, .inl (ca 0, 1, .inl (fun _ => 0))), (q58, .inl (ca 0, 5, .inl (fun _ => 0))), (q50, .inl (ca 3, 4, .inr (.inr (.inr (.inr (va_up (fun _ => none) 0 (some q105))))))), (h0, .inr (0, [.int (cz_max a1 (0 : Int32)), .int (cz_min (cz_max a2 (1 : Int32)) (30 : Int32)), .ref q5, .ref q16, .ref q27, .ref q38, .ref q50, .ref q58, .ref q65, .int 0, .int 0]))] w109_1 ((w109 ++ (w42 ++ (w31 ++ (w20 ++ (w9 ++ [])))))))
  have hD := ct_D hD (List.perm_append_comm_assoc [(q65, .inl (ca 0, 1, .inl (fun _ => 0))), (q58, .inl (ca 0, 5, .inl (fun _ => 0))), (q50, .inl (ca 3, 4, .inr (.inr (.inr (.inr (va_up (fun _ => none) 0 (some q105))))))), (h0, .inr (0, [.int (cz_max a1 (0 : Int32)), .int (cz_min (cz_max a2 (1 : Int32)) (30 : Int32)), .ref q5, .ref q16, .ref q27, .ref q38, .ref q50, .ref q58, .ref q65, .int 0, .int 0]))] w109_1 ((w109 ++ (w42 ++ (w31 ++ (w20 ++ (w9 ++ [])))))))
  have hP : va_P D cp_cl ((q65, .inl (ca 0, 1, .inl (fun _ => 0))) :: (q58, .inl (ca 0, 5, .inl (fun _ => 0))) :: (q50, .inl (ca 3, 4, .inr (.inr (.inr (.inr (va_up (fun _ => none) 0 (some q105))))))) :: (h0, .inr (0, [.int (cz_max a1 (0 : Int32)), .int (cz_min (cz_max a2 (1 : Int32)) (30 : Int32)), .ref q5, .ref q16, .ref q27, .ref q38, .ref q50, .ref q58, .ref q65, .int 0, .int 0])) :: (w109_1 ++ (w109 ++ (w42 ++ (w31 ++ (w20 ++ (w9 ++ []))))))) H := hP
  have hD : va_D A ((q65, .inl (ca 0, 1, .inl (fun _ => 0))) :: (q58, .inl (ca 0, 5, .inl (fun _ => 0))) :: (q50, .inl (ca 3, 4, .inr (.inr (.inr (.inr (va_up (fun _ => none) 0 (some q105))))))) :: (h0, .inr (0, [.int (cz_max a1 (0 : Int32)), .int (cz_min (cz_max a2 (1 : Int32)) (30 : Int32)), .ref q5, .ref q16, .ref q27, .ref q38, .ref q50, .ref q58, .ref q65, .int 0, .int 0])) :: (w109_1 ++ (w109 ++ (w42 ++ (w31 ++ (w20 ++ (w9 ++ []))))))) := hD
  obtain ⟨k9, fs9, hk9⟩ := pw_Peer_head hw109_1
  refine va_astq (r := ("ChainPeers$Peer", F_Peer, 10)) hx hb S.2.1 hP hD hS 2 3 (k9 + 4) 2 rfl rfl (ct_idx4 hk9) rfl (by unfold vp_in; decide) d_CP_init_112 (fun H locs hP hD hS => ?_)
  have hP : va_P D cp_cl ((q65, .inl (ca 0, 1, .inl (fun _ => 0))) :: (q58, .inl (ca 0, 5, .inl (fun _ => 0))) :: (q50, .inl (ca 3, 4, .inr (.inr (.inr (.inr (va_up (va_up (fun _ => none) 0 (some q105)) 1 (some q105_1))))))) :: (h0, .inr (0, [.int (cz_max a1 (0 : Int32)), .int (cz_min (cz_max a2 (1 : Int32)) (30 : Int32)), .ref q5, .ref q16, .ref q27, .ref q38, .ref q50, .ref q58, .ref q65, .int 0, .int 0])) :: (w109_1 ++ (w109 ++ (w42 ++ (w31 ++ (w20 ++ (w9 ++ []))))))) H := hP
  have hD : va_D A ((q65, .inl (ca 0, 1, .inl (fun _ => 0))) :: (q58, .inl (ca 0, 5, .inl (fun _ => 0))) :: (q50, .inl (ca 3, 4, .inr (.inr (.inr (.inr (va_up (va_up (fun _ => none) 0 (some q105)) 1 (some q105_1))))))) :: (h0, .inr (0, [.int (cz_max a1 (0 : Int32)), .int (cz_min (cz_max a2 (1 : Int32)) (30 : Int32)), .ref q5, .ref q16, .ref q27, .ref q38, .ref q50, .ref q58, .ref q65, .int 0, .int 0])) :: (w109_1 ++ (w109 ++ (w42 ++ (w31 ++ (w20 ++ (w9 ++ []))))))) := hD
  refine lv_iinc (lv' := [(3, .int (2 : Int32)), (0, .ref h0), (1, .int a1), (2, .int a2)]) (v := (2 : Int32)) (k := 0) hx hb d_CP_init_113 hl rfl (by decide) (by decide) rfl (fun ls hl => ?_)
  refine lv_goto (tgt := 95) hx hb d_CP_init_116 rfl ?_
  refine lv_iload_n hx hb d_CP_init_95 rfl (lv_at hl 0 rfl) ?_
  refine lv_iconst (v := 4) hx hb d_CP_init_96 (by decide) ?_
  refine lv_icmp_ge (tgt := 119) hx hb d_CP_init_97 rfl (fun hc => absurd hc (by decide)) (fun hc => ?_)
  refine lv_aload_n hx hb d_CP_init_100 rfl (lv_at hl 1 rfl) ?_
  refine va_get (D := D) (ci := 0) (v := .ref q50) (C := "ChainPeers") (T := F_ChainPeers) (N := 11) hx hb S.1.2.2.2.2 in_ChainPeers S.1.2.2.2.1 S.2.1 hP 3 rfl rfl 6 (by decide) (S.1.2.2.2.2 _ mw_195) (fun _ h9 => h9) rfl d_CP_init_101 ?_
  refine lv_iload_n hx hb d_CP_init_104 rfl (lv_at hl 0 rfl) ?_
  refine ct_new S hP hD hS hA in_Peer t_Peer t_Peer_ok mw_137 mw_145 mw_6 (ci := 2) (fs := [.int 0, .int 0, .int 0, .int 0, .int 0, .int 0, .int 0, .int 0, .null, .int 0]) rfl bl_Peer (by decide) (by decide) d_CP_init_105 (fun q105_2 H hP hD hS => ?_)
  have hP : va_P D cp_cl ((q105_2, .inr (2, [.int 0, .int 0, .int 0, .int 0, .int 0, .int 0, .int 0, .int 0, .null, .int 0])) :: (q65, .inl (ca 0, 1, .inl (fun _ => 0))) :: (q58, .inl (ca 0, 5, .inl (fun _ => 0))) :: (q50, .inl (ca 3, 4, .inr (.inr (.inr (.inr (va_up (va_up (fun _ => none) 0 (some q105)) 1 (some q105_1))))))) :: (h0, .inr (0, [.int (cz_max a1 (0 : Int32)), .int (cz_min (cz_max a2 (1 : Int32)) (30 : Int32)), .ref q5, .ref q16, .ref q27, .ref q38, .ref q50, .ref q58, .ref q65, .int 0, .int 0])) :: (w109_1 ++ (w109 ++ (w42 ++ (w31 ++ (w20 ++ (w9 ++ []))))))) H := hP
  have hD : va_D A ((q105_2, .inr (2, [.int 0, .int 0, .int 0, .int 0, .int 0, .int 0, .int 0, .int 0, .null, .int 0])) :: (q65, .inl (ca 0, 1, .inl (fun _ => 0))) :: (q58, .inl (ca 0, 5, .inl (fun _ => 0))) :: (q50, .inl (ca 3, 4, .inr (.inr (.inr (.inr (va_up (va_up (fun _ => none) 0 (some q105)) 1 (some q105_1))))))) :: (h0, .inr (0, [.int (cz_max a1 (0 : Int32)), .int (cz_min (cz_max a2 (1 : Int32)) (30 : Int32)), .ref q5, .ref q16, .ref q27, .ref q38, .ref q50, .ref q58, .ref q65, .int 0, .int 0])) :: (w109_1 ++ (w109 ++ (w42 ++ (w31 ++ (w20 ++ (w9 ++ []))))))) := hD
  refine lv_dup hx hb d_CP_init_108 rfl ?_
  refine ct_callN (rest := [.ref q105_2, .int (2 : Int32), .ref q50]) S hl.1 hP hD hS hA hO (c_Peer_init l D ca q105_2) Y_Peer_init rfl mw_146 mw_147 rfl rfl ⟨Nat.le_of_ble_eq_true rfl, Nat.le_of_ble_eq_true rfl⟩ rfl (Nat.le_of_ble_eq_true rfl) ⟨by decide, by decide⟩ rfl d_CP_init_109 (fun w109_2 H locs hw109_2 hP hD hS => ?_)
  have hP := ct_P hP (List.perm_append_comm_assoc [(q65, .inl (ca 0, 1, .inl (fun _ => 0))), (q58, .inl (ca 0, 5, .inl (fun _ => 0))), (q50, .inl (ca 3, 4, .inr (.inr (.inr (.inr (va_up (va_up (fun _ => none) 0 (some q105)) 1 (some q105_1))))))), (h0, .inr (0, [.int (cz_max a1 (0 : Int32)), .int (cz_min (cz_max a2 (1 : Int32)) (30 : Int32)), .ref q5, .ref q16, .ref q27, .ref q38, .ref q50, .ref q58, .ref q65, .int 0, .int 0]))] w109_2 ((w109_1 ++ (w109 ++ (w42 ++ (w31 ++ (w20 ++ (w9 ++ []))))))))
  have hD := ct_D hD (List.perm_append_comm_assoc [(q65, .inl (ca 0, 1, .inl (fun _ => 0))), (q58, .inl (ca 0, 5, .inl (fun _ => 0))), (q50, .inl (ca 3, 4, .inr (.inr (.inr (.inr (va_up (va_up (fun _ => none) 0 (some q105)) 1 (some q105_1))))))), (h0, .inr (0, [.int (cz_max a1 (0 : Int32)), .int (cz_min (cz_max a2 (1 : Int32)) (30 : Int32)), .ref q5, .ref q16, .ref q27, .ref q38, .ref q50, .ref q58, .ref q65, .int 0, .int 0]))] w109_2 ((w109_1 ++ (w109 ++ (w42 ++ (w31 ++ (w20 ++ (w9 ++ []))))))))
  have hP : va_P D cp_cl ((q65, .inl (ca 0, 1, .inl (fun _ => 0))) :: (q58, .inl (ca 0, 5, .inl (fun _ => 0))) :: (q50, .inl (ca 3, 4, .inr (.inr (.inr (.inr (va_up (va_up (fun _ => none) 0 (some q105)) 1 (some q105_1))))))) :: (h0, .inr (0, [.int (cz_max a1 (0 : Int32)), .int (cz_min (cz_max a2 (1 : Int32)) (30 : Int32)), .ref q5, .ref q16, .ref q27, .ref q38, .ref q50, .ref q58, .ref q65, .int 0, .int 0])) :: (w109_2 ++ (w109_1 ++ (w109 ++ (w42 ++ (w31 ++ (w20 ++ (w9 ++ [])))))))) H := hP
  have hD : va_D A ((q65, .inl (ca 0, 1, .inl (fun _ => 0))) :: (q58, .inl (ca 0, 5, .inl (fun _ => 0))) :: (q50, .inl (ca 3, 4, .inr (.inr (.inr (.inr (va_up (va_up (fun _ => none) 0 (some q105)) 1 (some q105_1))))))) :: (h0, .inr (0, [.int (cz_max a1 (0 : Int32)), .int (cz_min (cz_max a2 (1 : Int32)) (30 : Int32)), .ref q5, .ref q16, .ref q27, .ref q38, .ref q50, .ref q58, .ref q65, .int 0, .int 0])) :: (w109_2 ++ (w109_1 ++ (w109 ++ (w42 ++ (w31 ++ (w20 ++ (w9 ++ [])))))))) := hD
  obtain ⟨k9, fs9, hk9⟩ := pw_Peer_head hw109_2
  refine va_astq (r := ("ChainPeers$Peer", F_Peer, 10)) hx hb S.2.1 hP hD hS 2 3 (k9 + 4) 2 rfl rfl (ct_idx4 hk9) rfl (by unfold vp_in; decide) d_CP_init_112 (fun H locs hP hD hS => ?_)
  have hP : va_P D cp_cl ((q65, .inl (ca 0, 1, .inl (fun _ => 0))) :: (q58, .inl (ca 0, 5, .inl (fun _ => 0))) :: (q50, .inl (ca 3, 4, .inr (.inr (.inr (.inr (va_up (va_up (va_up (fun _ => none) 0 (some q105)) 1 (some q105_1)) 2 (some q105_2))))))) :: (h0, .inr (0, [.int (cz_max a1 (0 : Int32)), .int (cz_min (cz_max a2 (1 : Int32)) (30 : Int32)), .ref q5, .ref q16, .ref q27, .ref q38, .ref q50, .ref q58, .ref q65, .int 0, .int 0])) :: (w109_2 ++ (w109_1 ++ (w109 ++ (w42 ++ (w31 ++ (w20 ++ (w9 ++ [])))))))) H := hP
  have hD : va_D A ((q65, .inl (ca 0, 1, .inl (fun _ => 0))) :: (q58, .inl (ca 0, 5, .inl (fun _ => 0))) :: (q50, .inl (ca 3, 4, .inr (.inr (.inr (.inr (va_up (va_up (va_up (fun _ => none) 0 (some q105)) 1 (some q105_1)) 2 (some q105_2))))))) :: (h0, .inr (0, [.int (cz_max a1 (0 : Int32)), .int (cz_min (cz_max a2 (1 : Int32)) (30 : Int32)), .ref q5, .ref q16, .ref q27, .ref q38, .ref q50, .ref q58, .ref q65, .int 0, .int 0])) :: (w109_2 ++ (w109_1 ++ (w109 ++ (w42 ++ (w31 ++ (w20 ++ (w9 ++ [])))))))) := hD
  refine lv_iinc (lv' := [(3, .int (3 : Int32)), (0, .ref h0), (1, .int a1), (2, .int a2)]) (v := (3 : Int32)) (k := 0) hx hb d_CP_init_113 hl rfl (by decide) (by decide) rfl (fun ls hl => ?_)
  refine lv_goto (tgt := 95) hx hb d_CP_init_116 rfl ?_
  refine lv_iload_n hx hb d_CP_init_95 rfl (lv_at hl 0 rfl) ?_
  refine lv_iconst (v := 4) hx hb d_CP_init_96 (by decide) ?_
  refine lv_icmp_ge (tgt := 119) hx hb d_CP_init_97 rfl (fun hc => absurd hc (by decide)) (fun hc => ?_)
  refine lv_aload_n hx hb d_CP_init_100 rfl (lv_at hl 1 rfl) ?_
  refine va_get (D := D) (ci := 0) (v := .ref q50) (C := "ChainPeers") (T := F_ChainPeers) (N := 11) hx hb S.1.2.2.2.2 in_ChainPeers S.1.2.2.2.1 S.2.1 hP 3 rfl rfl 6 (by decide) (S.1.2.2.2.2 _ mw_195) (fun _ h9 => h9) rfl d_CP_init_101 ?_
  refine lv_iload_n hx hb d_CP_init_104 rfl (lv_at hl 0 rfl) ?_
  refine ct_new S hP hD hS hA in_Peer t_Peer t_Peer_ok mw_137 mw_145 mw_6 (ci := 2) (fs := [.int 0, .int 0, .int 0, .int 0, .int 0, .int 0, .int 0, .int 0, .null, .int 0]) rfl bl_Peer (by decide) (by decide) d_CP_init_105 (fun q105_3 H hP hD hS => ?_)
  have hP : va_P D cp_cl ((q105_3, .inr (2, [.int 0, .int 0, .int 0, .int 0, .int 0, .int 0, .int 0, .int 0, .null, .int 0])) :: (q65, .inl (ca 0, 1, .inl (fun _ => 0))) :: (q58, .inl (ca 0, 5, .inl (fun _ => 0))) :: (q50, .inl (ca 3, 4, .inr (.inr (.inr (.inr (va_up (va_up (va_up (fun _ => none) 0 (some q105)) 1 (some q105_1)) 2 (some q105_2))))))) :: (h0, .inr (0, [.int (cz_max a1 (0 : Int32)), .int (cz_min (cz_max a2 (1 : Int32)) (30 : Int32)), .ref q5, .ref q16, .ref q27, .ref q38, .ref q50, .ref q58, .ref q65, .int 0, .int 0])) :: (w109_2 ++ (w109_1 ++ (w109 ++ (w42 ++ (w31 ++ (w20 ++ (w9 ++ [])))))))) H := hP
  have hD : va_D A ((q105_3, .inr (2, [.int 0, .int 0, .int 0, .int 0, .int 0, .int 0, .int 0, .int 0, .null, .int 0])) :: (q65, .inl (ca 0, 1, .inl (fun _ => 0))) :: (q58, .inl (ca 0, 5, .inl (fun _ => 0))) :: (q50, .inl (ca 3, 4, .inr (.inr (.inr (.inr (va_up (va_up (va_up (fun _ => none) 0 (some q105)) 1 (some q105_1)) 2 (some q105_2))))))) :: (h0, .inr (0, [.int (cz_max a1 (0 : Int32)), .int (cz_min (cz_max a2 (1 : Int32)) (30 : Int32)), .ref q5, .ref q16, .ref q27, .ref q38, .ref q50, .ref q58, .ref q65, .int 0, .int 0])) :: (w109_2 ++ (w109_1 ++ (w109 ++ (w42 ++ (w31 ++ (w20 ++ (w9 ++ [])))))))) := hD
  refine lv_dup hx hb d_CP_init_108 rfl ?_
  refine ct_callN (rest := [.ref q105_3, .int (3 : Int32), .ref q50]) S hl.1 hP hD hS hA hO (c_Peer_init l D ca q105_3) Y_Peer_init rfl mw_146 mw_147 rfl rfl ⟨Nat.le_of_ble_eq_true rfl, Nat.le_of_ble_eq_true rfl⟩ rfl (Nat.le_of_ble_eq_true rfl) ⟨by decide, by decide⟩ rfl d_CP_init_109 (fun w109_3 H locs hw109_3 hP hD hS => ?_)
  have hP := ct_P hP (List.perm_append_comm_assoc [(q65, .inl (ca 0, 1, .inl (fun _ => 0))), (q58, .inl (ca 0, 5, .inl (fun _ => 0))), (q50, .inl (ca 3, 4, .inr (.inr (.inr (.inr (va_up (va_up (va_up (fun _ => none) 0 (some q105)) 1 (some q105_1)) 2 (some q105_2))))))), (h0, .inr (0, [.int (cz_max a1 (0 : Int32)), .int (cz_min (cz_max a2 (1 : Int32)) (30 : Int32)), .ref q5, .ref q16, .ref q27, .ref q38, .ref q50, .ref q58, .ref q65, .int 0, .int 0]))] w109_3 ((w109_2 ++ (w109_1 ++ (w109 ++ (w42 ++ (w31 ++ (w20 ++ (w9 ++ [])))))))))
  have hD := ct_D hD (List.perm_append_comm_assoc [(q65, .inl (ca 0, 1, .inl (fun _ => 0))), (q58, .inl (ca 0, 5, .inl (fun _ => 0))), (q50, .inl (ca 3, 4, .inr (.inr (.inr (.inr (va_up (va_up (va_up (fun _ => none) 0 (some q105)) 1 (some q105_1)) 2 (some q105_2))))))), (h0, .inr (0, [.int (cz_max a1 (0 : Int32)), .int (cz_min (cz_max a2 (1 : Int32)) (30 : Int32)), .ref q5, .ref q16, .ref q27, .ref q38, .ref q50, .ref q58, .ref q65, .int 0, .int 0]))] w109_3 ((w109_2 ++ (w109_1 ++ (w109 ++ (w42 ++ (w31 ++ (w20 ++ (w9 ++ [])))))))))
  have hP : va_P D cp_cl ((q65, .inl (ca 0, 1, .inl (fun _ => 0))) :: (q58, .inl (ca 0, 5, .inl (fun _ => 0))) :: (q50, .inl (ca 3, 4, .inr (.inr (.inr (.inr (va_up (va_up (va_up (fun _ => none) 0 (some q105)) 1 (some q105_1)) 2 (some q105_2))))))) :: (h0, .inr (0, [.int (cz_max a1 (0 : Int32)), .int (cz_min (cz_max a2 (1 : Int32)) (30 : Int32)), .ref q5, .ref q16, .ref q27, .ref q38, .ref q50, .ref q58, .ref q65, .int 0, .int 0])) :: (w109_3 ++ (w109_2 ++ (w109_1 ++ (w109 ++ (w42 ++ (w31 ++ (w20 ++ (w9 ++ []))))))))) H := hP
  have hD : va_D A ((q65, .inl (ca 0, 1, .inl (fun _ => 0))) :: (q58, .inl (ca 0, 5, .inl (fun _ => 0))) :: (q50, .inl (ca 3, 4, .inr (.inr (.inr (.inr (va_up (va_up (va_up (fun _ => none) 0 (some q105)) 1 (some q105_1)) 2 (some q105_2))))))) :: (h0, .inr (0, [.int (cz_max a1 (0 : Int32)), .int (cz_min (cz_max a2 (1 : Int32)) (30 : Int32)), .ref q5, .ref q16, .ref q27, .ref q38, .ref q50, .ref q58, .ref q65, .int 0, .int 0])) :: (w109_3 ++ (w109_2 ++ (w109_1 ++ (w109 ++ (w42 ++ (w31 ++ (w20 ++ (w9 ++ []))))))))) := hD
  obtain ⟨k9, fs9, hk9⟩ := pw_Peer_head hw109_3
  refine va_astq (r := ("ChainPeers$Peer", F_Peer, 10)) hx hb S.2.1 hP hD hS 2 3 (k9 + 4) 2 rfl rfl (ct_idx4 hk9) rfl (by unfold vp_in; decide) d_CP_init_112 (fun H locs hP hD hS => ?_)
  have hP : va_P D cp_cl ((q65, .inl (ca 0, 1, .inl (fun _ => 0))) :: (q58, .inl (ca 0, 5, .inl (fun _ => 0))) :: (q50, .inl (ca 3, 4, .inr (.inr (.inr (.inr (va_up (va_up (va_up (va_up (fun _ => none) 0 (some q105)) 1 (some q105_1)) 2 (some q105_2)) 3 (some q105_3))))))) :: (h0, .inr (0, [.int (cz_max a1 (0 : Int32)), .int (cz_min (cz_max a2 (1 : Int32)) (30 : Int32)), .ref q5, .ref q16, .ref q27, .ref q38, .ref q50, .ref q58, .ref q65, .int 0, .int 0])) :: (w109_3 ++ (w109_2 ++ (w109_1 ++ (w109 ++ (w42 ++ (w31 ++ (w20 ++ (w9 ++ []))))))))) H := hP
  have hD : va_D A ((q65, .inl (ca 0, 1, .inl (fun _ => 0))) :: (q58, .inl (ca 0, 5, .inl (fun _ => 0))) :: (q50, .inl (ca 3, 4, .inr (.inr (.inr (.inr (va_up (va_up (va_up (va_up (fun _ => none) 0 (some q105)) 1 (some q105_1)) 2 (some q105_2)) 3 (some q105_3))))))) :: (h0, .inr (0, [.int (cz_max a1 (0 : Int32)), .int (cz_min (cz_max a2 (1 : Int32)) (30 : Int32)), .ref q5, .ref q16, .ref q27, .ref q38, .ref q50, .ref q58, .ref q65, .int 0, .int 0])) :: (w109_3 ++ (w109_2 ++ (w109_1 ++ (w109 ++ (w42 ++ (w31 ++ (w20 ++ (w9 ++ []))))))))) := hD
  refine lv_iinc (lv' := [(3, .int (4 : Int32)), (0, .ref h0), (1, .int a1), (2, .int a2)]) (v := (4 : Int32)) (k := 0) hx hb d_CP_init_113 hl rfl (by decide) (by decide) rfl (fun ls hl => ?_)
  refine lv_goto (tgt := 95) hx hb d_CP_init_116 rfl ?_
  refine lv_iload_n hx hb d_CP_init_95 rfl (lv_at hl 0 rfl) ?_
  refine lv_iconst (v := 4) hx hb d_CP_init_96 (by decide) ?_
  refine lv_icmp_ge (tgt := 119) hx hb d_CP_init_97 rfl (fun hc => ?_) (fun hc => absurd (by decide) hc)
  obtain ⟨q11_109_3, q29_109_3, q7_33_109_3, q29_1_109_3, q7_33_1_109_3, q29_2_109_3, q7_33_2_109_3, q29_3_109_3, q7_33_3_109_3, rfl⟩ := hw109_3
  obtain ⟨q11_109_2, q29_109_2, q7_33_109_2, q29_1_109_2, q7_33_1_109_2, q29_2_109_2, q7_33_2_109_2, q29_3_109_2, q7_33_3_109_2, rfl⟩ := hw109_2
  obtain ⟨q11_109_1, q29_109_1, q7_33_109_1, q29_1_109_1, q7_33_1_109_1, q29_2_109_1, q7_33_2_109_1, q29_3_109_1, q7_33_3_109_1, rfl⟩ := hw109_1
  obtain ⟨q11_109, q29_109, q7_33_109, q29_1_109, q7_33_1_109, q29_2_109, q7_33_2_109, q29_3_109, q7_33_3_109, rfl⟩ := hw109
  obtain ⟨q8_42, q18_42, q26_42, q34_42, q44_42, q54_42, q62_42, rfl⟩ := hw42
  obtain ⟨q8_31, q18_31, q24_31, q7_28_31, rfl⟩ := hw31
  obtain ⟨q7_20, rfl⟩ := hw20
  obtain ⟨q7_9, rfl⟩ := hw9
  have hS9 := hS
  refine W.widen (k := 108) (n := 1644) (by decide) (by decide) ?_
  refine ct_fin S hr hlocks hP hD hS d_CP_init_119 ?_
  refine ⟨cp_wl (D, (fun k => ([h0, q50, q105, q11_109, q105_1, q11_109_1, q105_2, q11_109_2, q105_3, q11_109_3, q5, q7_9, q16, q7_20, q24_31, q7_28_31, q27, q8_31, q18_31, q38, q8_42, q18_42, q26_42, q34_42, q44_42, q54_42, q62_42, q58, q65, q29_109, q7_33_109, q29_1_109, q7_33_1_109, q29_2_109, q7_33_2_109, q29_3_109, q7_33_3_109, q29_109_1, q7_33_109_1, q29_1_109_1, q7_33_1_109_1, q29_2_109_1, q7_33_2_109_1, q29_3_109_1, q7_33_3_109_1, q29_109_2, q7_33_109_2, q29_1_109_2, q7_33_1_109_2, q29_2_109_2, q7_33_2_109_2, q29_3_109_2, q7_33_3_109_2, q29_109_3, q7_33_109_3, q29_1_109_3, q7_33_1_109_3, q29_2_109_3, q7_33_2_109_3, q29_3_109_3, q7_33_3_109_3, q8_31 + 1 + 0, q8_31 + 1 + 1, q8_31 + 1 + 2, q8_31 + 1 + 3, q8_31 + 1 + 4, q8_31 + 1 + 5, q8_31 + 1 + 6, q8_31 + 1 + 7, q8_42 + 1 + 0, q8_42 + 1 + 1, q8_42 + 1 + 2, q8_42 + 1 + 3, q8_42 + 1 + 4, q8_42 + 1 + 5, q8_42 + 1 + 6, q8_42 + 1 + 7, q8_42 + 1 + 8, q8_42 + 1 + 9, q8_42 + 1 + 10, q8_42 + 1 + 11, q8_42 + 1 + 12, q8_42 + 1 + 13, q8_42 + 1 + 14, q8_42 + 1 + 15, q8_42 + 1 + 16, q8_42 + 1 + 17, q8_42 + 1 + 18, q8_42 + 1 + 19, q44_42 + 1 + 0, q44_42 + 1 + 1, q44_42 + 1 + 2, q44_42 + 1 + 3, q44_42 + 1 + 4, q44_42 + 1 + 5, q44_42 + 1 + 6, q44_42 + 1 + 7, q44_42 + 1 + 8, q44_42 + 1 + 9, q44_42 + 1 + 10, q44_42 + 1 + 11, q44_42 + 1 + 12, q44_42 + 1 + 13, q44_42 + 1 + 14, q44_42 + 1 + 15, q44_42 + 1 + 16, q44_42 + 1 + 17, q44_42 + 1 + 18, q44_42 + 1 + 19] : List Nat).getD k 0), ca) (cp_M0 a1 a2), ⟨_, rfl, rfl, rfl, rfl⟩, ?_, ?_⟩
  · refine cz_Pof (fun k hk => ?_)
    match k, hk with
    | 0, _ => exact hP 3 _ rfl
    | 1, _ => exact ct_rea (hP 2 _ rfl) (fun j hj => by
        match j, hj with
        | 0, _ => rfl
        | 1, _ => rfl
        | 2, _ => rfl
        | 3, _ => rfl
        | n + 4, h => exact absurd h (by omega))
    | 2, _ => exact hP 43 _ rfl
    | 3, _ => exact ct_rea (hP 42 _ rfl) (fun j hj => by
        match j, hj with
        | 0, _ => rfl
        | 1, _ => rfl
        | 2, _ => rfl
        | 3, _ => rfl
        | n + 4, h => exact absurd h (by omega))
    | 4, _ => exact hP 33 _ rfl
    | 5, _ => exact ct_rea (hP 32 _ rfl) (fun j hj => by
        match j, hj with
        | 0, _ => rfl
        | 1, _ => rfl
        | 2, _ => rfl
        | 3, _ => rfl
        | n + 4, h => exact absurd h (by omega))
    | 6, _ => exact hP 23 _ rfl
    | 7, _ => exact ct_rea (hP 22 _ rfl) (fun j hj => by
        match j, hj with
        | 0, _ => rfl
        | 1, _ => rfl
        | 2, _ => rfl
        | 3, _ => rfl
        | n + 4, h => exact absurd h (by omega))
    | 8, _ => exact hP 13 _ rfl
    | 9, _ => exact ct_rea (hP 12 _ rfl) (fun j hj => by
        match j, hj with
        | 0, _ => rfl
        | 1, _ => rfl
        | 2, _ => rfl
        | 3, _ => rfl
        | n + 4, h => exact absurd h (by omega))
    | 10, _ => exact hP 108 _ rfl
    | 11, _ => exact hP 107 _ rfl
    | 12, _ => exact hP 106 _ rfl
    | 13, _ => exact hP 105 _ rfl
    | 14, _ => exact hP 93 _ rfl
    | 15, _ => exact hP 92 _ rfl
    | 16, _ => exact hP 104 _ rfl
    | 17, _ => exact ct_rea (hP 95 _ rfl) (fun j hj => by
        match j, hj with
        | 0, _ => rfl
        | 1, _ => rfl
        | 2, _ => rfl
        | 3, _ => rfl
        | 4, _ => rfl
        | 5, _ => rfl
        | 6, _ => rfl
        | 7, _ => rfl
        | n + 8, h => exact absurd h (by omega))
    | 18, _ => exact hP 94 _ rfl
    | 19, _ => exact hP 91 _ rfl
    | 20, _ => exact ct_rea (hP 70 _ rfl) (fun j hj => by
        match j, hj with
        | 0, _ => rfl
        | 1, _ => rfl
        | 2, _ => rfl
        | 3, _ => rfl
        | 4, _ => rfl
        | 5, _ => rfl
        | 6, _ => rfl
        | 7, _ => rfl
        | 8, _ => rfl
        | 9, _ => rfl
        | 10, _ => rfl
        | 11, _ => rfl
        | 12, _ => rfl
        | 13, _ => rfl
        | 14, _ => rfl
        | 15, _ => rfl
        | 16, _ => rfl
        | 17, _ => rfl
        | 18, _ => rfl
        | 19, _ => rfl
        | n + 20, h => exact absurd h (by omega))
    | 21, _ => exact hP 69 _ rfl
    | 22, _ => exact hP 68 _ rfl
    | 23, _ => exact hP 67 _ rfl
    | 24, _ => exact ct_rea (hP 46 _ rfl) (fun j hj => by
        match j, hj with
        | 0, _ => rfl
        | 1, _ => rfl
        | 2, _ => rfl
        | 3, _ => rfl
        | 4, _ => rfl
        | 5, _ => rfl
        | 6, _ => rfl
        | 7, _ => rfl
        | 8, _ => rfl
        | 9, _ => rfl
        | 10, _ => rfl
        | 11, _ => rfl
        | 12, _ => rfl
        | 13, _ => rfl
        | 14, _ => rfl
        | 15, _ => rfl
        | 16, _ => rfl
        | 17, _ => rfl
        | 18, _ => rfl
        | 19, _ => rfl
        | n + 20, h => exact absurd h (by omega))
    | 25, _ => exact hP 45 _ rfl
    | 26, _ => exact hP 44 _ rfl
    | 27, _ => exact hP 1 _ rfl
    | 28, _ => exact hP 0 _ rfl
    | 29, _ => exact hP 41 _ rfl
    | 30, _ => exact hP 40 _ rfl
    | 31, _ => exact hP 39 _ rfl
    | 32, _ => exact hP 38 _ rfl
    | 33, _ => exact hP 37 _ rfl
    | 34, _ => exact hP 36 _ rfl
    | 35, _ => exact hP 35 _ rfl
    | 36, _ => exact hP 34 _ rfl
    | 37, _ => exact hP 31 _ rfl
    | 38, _ => exact hP 30 _ rfl
    | 39, _ => exact hP 29 _ rfl
    | 40, _ => exact hP 28 _ rfl
    | 41, _ => exact hP 27 _ rfl
    | 42, _ => exact hP 26 _ rfl
    | 43, _ => exact hP 25 _ rfl
    | 44, _ => exact hP 24 _ rfl
    | 45, _ => exact hP 21 _ rfl
    | 46, _ => exact hP 20 _ rfl
    | 47, _ => exact hP 19 _ rfl
    | 48, _ => exact hP 18 _ rfl
    | 49, _ => exact hP 17 _ rfl
    | 50, _ => exact hP 16 _ rfl
    | 51, _ => exact hP 15 _ rfl
    | 52, _ => exact hP 14 _ rfl
    | 53, _ => exact hP 11 _ rfl
    | 54, _ => exact hP 10 _ rfl
    | 55, _ => exact hP 9 _ rfl
    | 56, _ => exact hP 8 _ rfl
    | 57, _ => exact hP 7 _ rfl
    | 58, _ => exact hP 6 _ rfl
    | 59, _ => exact hP 5 _ rfl
    | 60, _ => exact hP 4 _ rfl
    | 61, _ => exact hP 96 _ rfl
    | 62, _ => exact hP 97 _ rfl
    | 63, _ => exact hP 98 _ rfl
    | 64, _ => exact hP 99 _ rfl
    | 65, _ => exact hP 100 _ rfl
    | 66, _ => exact hP 101 _ rfl
    | 67, _ => exact hP 102 _ rfl
    | 68, _ => exact hP 103 _ rfl
    | 69, _ => exact hP 71 _ rfl
    | 70, _ => exact hP 72 _ rfl
    | 71, _ => exact hP 73 _ rfl
    | 72, _ => exact hP 74 _ rfl
    | 73, _ => exact hP 75 _ rfl
    | 74, _ => exact hP 76 _ rfl
    | 75, _ => exact hP 77 _ rfl
    | 76, _ => exact hP 78 _ rfl
    | 77, _ => exact hP 79 _ rfl
    | 78, _ => exact hP 80 _ rfl
    | 79, _ => exact hP 81 _ rfl
    | 80, _ => exact hP 82 _ rfl
    | 81, _ => exact hP 83 _ rfl
    | 82, _ => exact hP 84 _ rfl
    | 83, _ => exact hP 85 _ rfl
    | 84, _ => exact hP 86 _ rfl
    | 85, _ => exact hP 87 _ rfl
    | 86, _ => exact hP 88 _ rfl
    | 87, _ => exact hP 89 _ rfl
    | 88, _ => exact hP 90 _ rfl
    | 89, _ => exact hP 47 _ rfl
    | 90, _ => exact hP 48 _ rfl
    | 91, _ => exact hP 49 _ rfl
    | 92, _ => exact hP 50 _ rfl
    | 93, _ => exact hP 51 _ rfl
    | 94, _ => exact hP 52 _ rfl
    | 95, _ => exact hP 53 _ rfl
    | 96, _ => exact hP 54 _ rfl
    | 97, _ => exact hP 55 _ rfl
    | 98, _ => exact hP 56 _ rfl
    | 99, _ => exact hP 57 _ rfl
    | 100, _ => exact hP 58 _ rfl
    | 101, _ => exact hP 59 _ rfl
    | 102, _ => exact hP 60 _ rfl
    | 103, _ => exact hP 61 _ rfl
    | 104, _ => exact hP 62 _ rfl
    | 105, _ => exact hP 63 _ rfl
    | 106, _ => exact hP 64 _ rfl
    | 107, _ => exact hP 65 _ rfl
    | 108, _ => exact hP 66 _ rfl
    | n + 109, h => exact absurd h (by omega)
  · refine cz_Dof (σ := fun k => ([3, 2, 43, 42, 33, 32, 23, 22, 13, 12, 108, 107, 106, 105, 93, 92, 104, 95, 94, 91, 70, 69, 68, 67, 46, 45, 44, 1, 0, 41, 40, 39, 38, 37, 36, 35, 34, 31, 30, 29, 28, 27, 26, 25, 24, 21, 20, 19, 18, 17, 16, 15, 14, 11, 10, 9, 8, 7, 6, 5, 4, 96, 97, 98, 99, 100, 101, 102, 103, 71, 72, 73, 74, 75, 76, 77, 78, 79, 80, 81, 82, 83, 84, 85, 86, 87, 88, 89, 90, 47, 48, 49, 50, 51, 52, 53, 54, 55, 56, 57, 58, 59, 60, 61, 62, 63, 64, 65, 66] : List Nat).getD k 0) hD (by decide +kernel) (fun k hk => ?_)
    match k, hk with
    | 0, _ => exact ⟨_, rfl⟩
    | 1, _ => exact ⟨_, rfl⟩
    | 2, _ => exact ⟨_, rfl⟩
    | 3, _ => exact ⟨_, rfl⟩
    | 4, _ => exact ⟨_, rfl⟩
    | 5, _ => exact ⟨_, rfl⟩
    | 6, _ => exact ⟨_, rfl⟩
    | 7, _ => exact ⟨_, rfl⟩
    | 8, _ => exact ⟨_, rfl⟩
    | 9, _ => exact ⟨_, rfl⟩
    | 10, _ => exact ⟨_, rfl⟩
    | 11, _ => exact ⟨_, rfl⟩
    | 12, _ => exact ⟨_, rfl⟩
    | 13, _ => exact ⟨_, rfl⟩
    | 14, _ => exact ⟨_, rfl⟩
    | 15, _ => exact ⟨_, rfl⟩
    | 16, _ => exact ⟨_, rfl⟩
    | 17, _ => exact ⟨_, rfl⟩
    | 18, _ => exact ⟨_, rfl⟩
    | 19, _ => exact ⟨_, rfl⟩
    | 20, _ => exact ⟨_, rfl⟩
    | 21, _ => exact ⟨_, rfl⟩
    | 22, _ => exact ⟨_, rfl⟩
    | 23, _ => exact ⟨_, rfl⟩
    | 24, _ => exact ⟨_, rfl⟩
    | 25, _ => exact ⟨_, rfl⟩
    | 26, _ => exact ⟨_, rfl⟩
    | 27, _ => exact ⟨_, rfl⟩
    | 28, _ => exact ⟨_, rfl⟩
    | 29, _ => exact ⟨_, rfl⟩
    | 30, _ => exact ⟨_, rfl⟩
    | 31, _ => exact ⟨_, rfl⟩
    | 32, _ => exact ⟨_, rfl⟩
    | 33, _ => exact ⟨_, rfl⟩
    | 34, _ => exact ⟨_, rfl⟩
    | 35, _ => exact ⟨_, rfl⟩
    | 36, _ => exact ⟨_, rfl⟩
    | 37, _ => exact ⟨_, rfl⟩
    | 38, _ => exact ⟨_, rfl⟩
    | 39, _ => exact ⟨_, rfl⟩
    | 40, _ => exact ⟨_, rfl⟩
    | 41, _ => exact ⟨_, rfl⟩
    | 42, _ => exact ⟨_, rfl⟩
    | 43, _ => exact ⟨_, rfl⟩
    | 44, _ => exact ⟨_, rfl⟩
    | 45, _ => exact ⟨_, rfl⟩
    | 46, _ => exact ⟨_, rfl⟩
    | 47, _ => exact ⟨_, rfl⟩
    | 48, _ => exact ⟨_, rfl⟩
    | 49, _ => exact ⟨_, rfl⟩
    | 50, _ => exact ⟨_, rfl⟩
    | 51, _ => exact ⟨_, rfl⟩
    | 52, _ => exact ⟨_, rfl⟩
    | 53, _ => exact ⟨_, rfl⟩
    | 54, _ => exact ⟨_, rfl⟩
    | 55, _ => exact ⟨_, rfl⟩
    | 56, _ => exact ⟨_, rfl⟩
    | 57, _ => exact ⟨_, rfl⟩
    | 58, _ => exact ⟨_, rfl⟩
    | 59, _ => exact ⟨_, rfl⟩
    | 60, _ => exact ⟨_, rfl⟩
    | 61, _ => exact ⟨_, rfl⟩
    | 62, _ => exact ⟨_, rfl⟩
    | 63, _ => exact ⟨_, rfl⟩
    | 64, _ => exact ⟨_, rfl⟩
    | 65, _ => exact ⟨_, rfl⟩
    | 66, _ => exact ⟨_, rfl⟩
    | 67, _ => exact ⟨_, rfl⟩
    | 68, _ => exact ⟨_, rfl⟩
    | 69, _ => exact ⟨_, rfl⟩
    | 70, _ => exact ⟨_, rfl⟩
    | 71, _ => exact ⟨_, rfl⟩
    | 72, _ => exact ⟨_, rfl⟩
    | 73, _ => exact ⟨_, rfl⟩
    | 74, _ => exact ⟨_, rfl⟩
    | 75, _ => exact ⟨_, rfl⟩
    | 76, _ => exact ⟨_, rfl⟩
    | 77, _ => exact ⟨_, rfl⟩
    | 78, _ => exact ⟨_, rfl⟩
    | 79, _ => exact ⟨_, rfl⟩
    | 80, _ => exact ⟨_, rfl⟩
    | 81, _ => exact ⟨_, rfl⟩
    | 82, _ => exact ⟨_, rfl⟩
    | 83, _ => exact ⟨_, rfl⟩
    | 84, _ => exact ⟨_, rfl⟩
    | 85, _ => exact ⟨_, rfl⟩
    | 86, _ => exact ⟨_, rfl⟩
    | 87, _ => exact ⟨_, rfl⟩
    | 88, _ => exact ⟨_, rfl⟩
    | 89, _ => exact ⟨_, rfl⟩
    | 90, _ => exact ⟨_, rfl⟩
    | 91, _ => exact ⟨_, rfl⟩
    | 92, _ => exact ⟨_, rfl⟩
    | 93, _ => exact ⟨_, rfl⟩
    | 94, _ => exact ⟨_, rfl⟩
    | 95, _ => exact ⟨_, rfl⟩
    | 96, _ => exact ⟨_, rfl⟩
    | 97, _ => exact ⟨_, rfl⟩
    | 98, _ => exact ⟨_, rfl⟩
    | 99, _ => exact ⟨_, rfl⟩
    | 100, _ => exact ⟨_, rfl⟩
    | 101, _ => exact ⟨_, rfl⟩
    | 102, _ => exact ⟨_, rfl⟩
    | 103, _ => exact ⟨_, rfl⟩
    | 104, _ => exact ⟨_, rfl⟩
    | 105, _ => exact ⟨_, rfl⟩
    | 106, _ => exact ⟨_, rfl⟩
    | 107, _ => exact ⟨_, rfl⟩
    | 108, _ => exact ⟨_, rfl⟩
    | n + 109, h => exact absurd h (by omega)
