/-! A world of one row of five ints: what the hash of a header reads, wherever the row lies. -/
abbrev ti_I (k : Nat) : Prop := k = 0
def ti_ln (_ : Nat) : Nat := 5
def ti_ce (X : cz_X) (M : cz_M) (k : Nat) : va_E := .inl (X.2.2 0, 5, .inl (M.1 k))
def ti_wl (X : cz_X) (M : cz_M) : va_W := cz_wl 1 (ti_ce X) X.2.1 M
abbrev ti_cl : List vw_C := cp_cl
abbrev ti_tys (X : cz_X) : List (ClassId × FieldType) := cp_tys X
theorem ti_wI (X : cz_X) (M : cz_M) {k : Nat} (h : ti_I k) : (ti_wl X M)[k]? = some (X.2.1 k, .inl (X.2.2 0, ti_ln k, .inl (M.1 k))) := by
  subst h
  exact cz_at (by decide) rfl
abbrev ti_Ct (l : Launch) (X : cz_X) (A : Nat → Prop) (y : MethodName) (ws : List Cond) (rm : Room) (av : List Value) (M : cz_M) (ret : Option Value) (M2 : cz_M) : Prop := Met l y ws rm (va_Pc av (cz_Pw X.1 ti_cl (ti_tys X) cz_N (ti_wl X M))) (cz_Qw X.1 ti_cl ret (ti_wl X M2) A) 0 0 A
theorem ti_ia {p : Program} {l : Launch} {e : Env} {R : Room} {s : State} {m : MethodId} {args : Array Value} {below : List Frame} {meth : Method} {c : Code} {H : Heap} {locs : List Loc} {cells slots : Nat} {Q : State → Prop} {cc : ByteArray} {pc nL : Nat} {ls : Array Slot} {rest : List Value} {X : cz_X} {A : Nat → Prop} {M : cz_M} {own : String} (S : cz_Cx p m c cc nL s args cz_T own X.1 ti_cl (ti_tys X) cz_N A (ti_wl X)) (hP : va_P X.1 ti_cl (ti_wl X M) H) {q : Nat} (hq : ti_I q) {i : Int32} (hin : ¬ (i < 0 ∨ ti_ln q ≤ i.toNatClampNeg)) (hd : decode cc pc = .ok (.iaload, 1))
    (kk : W p l e R s m args below meth c H locs cells slots Q (F0 m (pc + 1) ls (.int (M.1 q i.toNatClampNeg) :: rest))) : W p l e R s m args below meth c H locs cells slots Q (F0 m pc ls (.int i :: .ref (X.2.1 q) :: rest)) :=
  cz_iald S hP (ti_wI X M hq) (t0 := 0) rfl hin hd kk
theorem ti_al {p : Program} {l : Launch} {e : Env} {R : Room} {s : State} {m : MethodId} {args : Array Value} {below : List Frame} {meth : Method} {c : Code} {H : Heap} {locs : List Loc} {cells slots : Nat} {Q : State → Prop} {cc : ByteArray} {pc nL : Nat} {ls : Array Slot} {rest : List Value} {X : cz_X} {A : Nat → Prop} {M : cz_M} {own : String} (S : cz_Cx p m c cc nL s args cz_T own X.1 ti_cl (ti_tys X) cz_N A (ti_wl X)) (hP : va_P X.1 ti_cl (ti_wl X M) H) {q : Nat} (hq : ti_I q) (hd : decode cc pc = .ok (.arraylength, 1))
    (kk : W p l e R s m args below meth c H locs cells slots Q (F0 m (pc + 1) ls (.int (Int32.ofNat (ti_ln q)) :: rest))) : W p l e R s m args below meth c H locs cells slots Q (F0 m pc ls (.ref (X.2.1 q) :: rest)) :=
  cz_alen S hP (ti_wI X M hq) (t0 := 0) rfl hd kk
abbrev b_TI_mix : ByteArray := b_CP_mix
abbrev y_TI_mix : MethodName := y_CP_mix
abbrev rm_TI_mix : Room := rm_CP_mix
theorem Y_TI_mix : cz_Y cz_T y_TI_mix b_TI_mix 6 (some .int) 3 := Y_CP_mix
abbrev b_TI_hashOf : ByteArray := b_CP_hashOf
abbrev y_TI_hashOf : MethodName := y_CP_hashOf
abbrev rm_TI_hashOf : Room := rm_CP_hashOf
theorem Y_TI_hashOf : cz_Y cz_T y_TI_hashOf b_TI_hashOf 1 (some .int) 1 := Y_CP_hashOf
theorem iv_TI_190 {p : Program} {l : Launch} {e : Env} {R : Room} {s : State} {m : MethodId} {args : Array Value} {below : List Frame} {meth : Method} {c : Code} {H : Heap} {locs : List Loc} {Q : State → Prop} {cc : ByteArray} {pc nL : Nat} {ls : Array Slot} {rest : List Value} {X : cz_X} {A : Nat → Prop} {H0 : Heap} {M : cz_M} {M1 : cz_M} {ret : Option Value} {As st0 : List Value} (S : cz_Cx p m c cc nL s args cz_T "ChainPeers" X.1 ti_cl (ti_tys X) cz_N A (ti_wl X)) (hsz : ls.size = nL) (hP : va_P X.1 ti_cl (ti_wl X M) H) (hS : va_S A H0 H locs) (hM : Met l y_TI_mix (Cond.code y_TI_mix b_TI_mix 6 (some .int) :: cz_T) rm_TI_mix (va_Pc (As) (cz_Pw X.1 ti_cl (ti_tys X) cz_N (ti_wl X M))) (cz_Qw X.1 ti_cl ret (ti_wl X M1) A) 0 0 A) (hR : rm_TI_mix.frames + 1 ≤ R.frames ∧ 8 + (6 + 11) + rm_TI_mix.locals ≤ R.locals) (hrest : (rest.map fun v => v.category).sum ≤ 8) (hst : st0 = As.reverse ++ rest) (hd : decode cc pc = .ok (.invokestatic 190, 3)) (kk : ∀ (H : Heap) (locs : List Loc), va_P X.1 ti_cl (ti_wl X M1) H → va_S A H0 H locs → W p l e R s m args below meth c H locs 0 0 Q (F0 m (pc + 3) ls (ret.toList ++ rest))) (hn : As.length = 3 := by rfl) : W p l e R s m args below meth c H locs 0 0 Q (F0 m pc ls (st0)) :=
  cz_S S hsz hP hS hM Y_TI_mix mw_100 mw_101 rfl rfl hR hn hrest ⟨Nat.zero_le _, Nat.zero_le _⟩ hst hd kk
def l_TI_mix_5 (a0 : Int32) (a1 : Nat) (a2 : Int32) (rec5 : cz_M → Int32 → Int32 → Option (Int32 × cz_M)) (M : cz_M) (v3 : Int32) (v4 : Int32) : Option (Int32 × cz_M) :=
  (if a2 ≤ v4 then (some (v3, M))
  else ((if (Int32.ofNat (ti_ln a1)) ≤ v4 then (some (v3, M))
  else ((if v4 < 0 ∨ ti_ln a1 ≤ v4.toNatClampNeg then none else rec5 M ((((v3 ^^^ (M.1 a1 v4.toNatClampNeg)) * (16777619 : Int32)) ^^^ (cz_iushr ((v3 ^^^ (M.1 a1 v4.toNatClampNeg)) * (16777619 : Int32)) (15 : Int32))) &&& (2147483647 : Int32)) (v4 + 1))))))
def f_TI_mix (M : cz_M) (a0 : Int32) (a1 : Nat) (a2 : Int32) : Option (Int32 × cz_M) :=
  cz_lp3 (l_TI_mix_5 a0 a1 a2) 100 M a0 (0 : Int32)
def f_TI_hashOf (M : cz_M) (a0 : Nat) : Option (Int32 × cz_M) :=
  (cz_bi (f_TI_mix M (7 : Int32) a0 (5 : Int32)) (fun r4 M4 => some (r4, M4)))
set_option maxHeartbeats 4000000 in
set_option maxRecDepth 100000 in
theorem c_TI_mix (l : Launch) {X : cz_X} {A : Nat → Prop} (hD : ∀ M, va_D A (ti_wl X M)) (M : cz_M) (a0 : Int32) (a1 : Nat) (a2 : Int32) (k1 : ti_I a1) {r2 : Int32} {M2 : cz_M} (h : f_TI_mix M a0 a1 a2 = some (r2, M2)) : ti_Ct l X A y_TI_mix (Cond.code y_TI_mix b_TI_mix 6 (some .int) :: cz_T) rm_TI_mix [.int a0, .ref (X.2.1 a1), .int a2] M (some (.int r2)) M2 := by
  refine cz_Met (by decide) rfl (Nat.le_of_ble_eq_true rfl) hD ?_
  intro p e s m args below meth c hargs S hr hlocks hP ls hl
  have S : cz_Cx p m c b_TI_mix 6 s args cz_T "ChainPeers" X.1 ti_cl (ti_tys X) cz_N A (ti_wl X) := S
  have hx := S.1.1
  have hb := S.1.2.1
  have hS : va_S A s.heap s.heap [] := va_S.rf
  have hl : lv_has ls 6 [(0, .int a0), (1, .ref (X.2.1 a1)), (2, .int a2)] := hl
  have hb5 : ∀ (n : Nat) (M : cz_M) (v3 : Int32) (v4 : Int32), cz_lp3 (l_TI_mix_5 a0 a1 a2) n M v3 v4 = some (r2, M2) → ∀ (H : Heap) (locs : List Loc) (ls : Array Slot), va_P X.1 ti_cl (ti_wl X M) H → va_S A s.heap H locs → lv_has ls 6 [(1, .ref (X.2.1 a1)), (2, .int a2), (3, .int v3), (4, .int v4)] → W p l e rm_TI_mix s m args below meth c H locs 0 0 (MQ below (cz_Qw X.1 ti_cl (some (.int r2)) (ti_wl X M2) A) args s 0 0 A) (F0 m 5 ls []) := by
    refine cz_ind3 (fun rec5 ih5 M v3 v4 h H locs ls hP hS hl => ?_)
    refine lv_iload hx hb d_CP_mix_5 (lv_at hl 3 rfl) ?_
    refine lv_iload_n hx hb d_CP_mix_7 rfl (lv_at hl 1 rfl) ?_
    refine lv_icmp_ge (tgt := 47) hx hb d_CP_mix_8 rfl (fun hc => ?_) (fun hc => ?_)
    · have h := cz_t hc h
      refine lv_iload_n hx hb d_CP_mix_47 rfl (lv_at hl 2 rfl) ?_
      exact cz_ireth S hr hlocks hP hS h d_CP_mix_48
    have h := cz_f hc h
    refine lv_iload hx hb d_CP_mix_11 (lv_at hl 3 rfl) ?_
    refine lv_aload_n hx hb d_CP_mix_13 rfl (lv_at hl 0 rfl) ?_
    refine ti_al S hP k1 d_CP_mix_14 ?_
    refine lv_icmp_ge (tgt := 47) hx hb d_CP_mix_15 rfl (fun hc => ?_) (fun hc => ?_)
    · have h := cz_t hc h
      refine lv_iload_n hx hb d_CP_mix_47 rfl (lv_at hl 2 rfl) ?_
      exact cz_ireth S hr hlocks hP hS h d_CP_mix_48
    have h := cz_f hc h
    refine lv_iload_n hx hb d_CP_mix_18 rfl (lv_at hl 2 rfl) ?_
    refine lv_aload_n hx hb d_CP_mix_19 rfl (lv_at hl 0 rfl) ?_
    refine lv_iload hx hb d_CP_mix_20 (lv_at hl 3 rfl) ?_
    obtain ⟨hin22, h⟩ := cz_ck h
    refine ti_ia S hP k1 hin22 d_CP_mix_22 ?_
    refine lv_ixor hx hb d_CP_mix_23 ?_
    refine lv_ldc (v := 16777619) hx hb S.1.2.2.2.1 (S.1.2.2.2.2 _ mw_103) d_CP_mix_24 ?_
    refine lv_imul hx hb d_CP_mix_26 ?_
    refine lv_istore (lv' := [(5, .int ((v3 ^^^ (M.1 a1 v4.toNatClampNeg)) * (16777619 : Int32))), (1, .ref (X.2.1 a1)), (2, .int a2), (3, .int v3), (4, .int v4)]) hx hb d_CP_mix_27 hl (by decide) rfl (fun ls hl => ?_)
    refine lv_iload hx hb d_CP_mix_29 (lv_at hl 0 rfl) ?_
    refine lv_iload hx hb d_CP_mix_31 (lv_at hl 0 rfl) ?_
    refine lv_bipush (v := 15) hx hb d_CP_mix_33 (by decide) ?_
    refine lv_iushr (v := cz_iushr ((v3 ^^^ (M.1 a1 v4.toNatClampNeg)) * (16777619 : Int32)) (15 : Int32)) hx hb d_CP_mix_35 rfl ?_
    refine lv_ixor hx hb d_CP_mix_36 ?_
    refine lv_ldc (v := 2147483647) hx hb S.1.2.2.2.1 (S.1.2.2.2.2 _ mw_104) d_CP_mix_37 ?_
    refine lv_iand hx hb d_CP_mix_39 ?_
    refine lv_istore_n (lv' := [(3, .int ((((v3 ^^^ (M.1 a1 v4.toNatClampNeg)) * (16777619 : Int32)) ^^^ (cz_iushr ((v3 ^^^ (M.1 a1 v4.toNatClampNeg)) * (16777619 : Int32)) (15 : Int32))) &&& (2147483647 : Int32))), (5, .int ((v3 ^^^ (M.1 a1 v4.toNatClampNeg)) * (16777619 : Int32))), (1, .ref (X.2.1 a1)), (2, .int a2), (4, .int v4)]) hx hb d_CP_mix_40 rfl hl (by decide) rfl (fun ls hl => ?_)
    refine lv_iinc (lv' := [(4, .int (v4 + 1)), (3, .int ((((v3 ^^^ (M.1 a1 v4.toNatClampNeg)) * (16777619 : Int32)) ^^^ (cz_iushr ((v3 ^^^ (M.1 a1 v4.toNatClampNeg)) * (16777619 : Int32)) (15 : Int32))) &&& (2147483647 : Int32))), (5, .int ((v3 ^^^ (M.1 a1 v4.toNatClampNeg)) * (16777619 : Int32))), (1, .ref (X.2.1 a1)), (2, .int a2)]) (v := v4 + 1) (k := 4) hx hb d_CP_mix_41 hl rfl (cz_inc1 _) (by decide) rfl (fun ls hl => ?_)
    refine lv_goto (tgt := 5) hx hb d_CP_mix_44 rfl ?_
    exact ih5 M ((((v3 ^^^ (M.1 a1 v4.toNatClampNeg)) * (16777619 : Int32)) ^^^ (cz_iushr ((v3 ^^^ (M.1 a1 v4.toNatClampNeg)) * (16777619 : Int32)) (15 : Int32))) &&& (2147483647 : Int32)) (v4 + 1) h _ _ _ hP hS (lv_sub hl [3, 4, 1, 0] rfl)
  refine lv_iload_n hx hb d_CP_mix_0 rfl (lv_at hl 0 rfl) ?_
  refine lv_istore_n (lv' := [(3, .int a0), (0, .int a0), (1, .ref (X.2.1 a1)), (2, .int a2)]) hx hb d_CP_mix_1 rfl hl (by decide) rfl (fun ls hl => ?_)
  refine lv_iconst (v := 0) hx hb d_CP_mix_2 (by decide) ?_
  refine lv_istore (lv' := [(4, .int (0 : Int32)), (3, .int a0), (0, .int a0), (1, .ref (X.2.1 a1)), (2, .int a2)]) hx hb d_CP_mix_3 hl (by decide) rfl (fun ls hl => ?_)
  exact hb5 _ M a0 (0 : Int32) h _ _ _ hP hS (lv_sub hl [3, 4, 1, 0] rfl)
set_option maxHeartbeats 4000000 in
set_option maxRecDepth 100000 in
theorem c_TI_hashOf (l : Launch) {X : cz_X} {A : Nat → Prop} (hD : ∀ M, va_D A (ti_wl X M)) (M : cz_M) (a0 : Nat) (k0 : ti_I a0) {r2 : Int32} {M2 : cz_M} (h : f_TI_hashOf M a0 = some (r2, M2)) : ti_Ct l X A y_TI_hashOf (Cond.code y_TI_hashOf b_TI_hashOf 1 (some .int) :: cz_T) rm_TI_hashOf [.ref (X.2.1 a0)] M (some (.int r2)) M2 := by
  refine cz_Met (by decide) rfl (Nat.le_of_ble_eq_true rfl) hD ?_
  intro p e s m args below meth c hargs S hr hlocks hP ls hl
  have S : cz_Cx p m c b_TI_hashOf 1 s args cz_T "ChainPeers" X.1 ti_cl (ti_tys X) cz_N A (ti_wl X) := S
  have hx := S.1.1
  have hb := S.1.2.1
  have hS : va_S A s.heap s.heap [] := va_S.rf
  have hl : lv_has ls 1 [(0, .ref (X.2.1 a0))] := hl
  refine lv_bipush (v := 7) hx hb d_CP_hashOf_0 (by decide) ?_
  refine lv_aload_n hx hb d_CP_hashOf_2 rfl (lv_at hl 0 rfl) ?_
  refine lv_iconst (v := 5) hx hb d_CP_hashOf_3 (by decide) ?_
  obtain ⟨r4, M4, hq4, h⟩ := cz_ubi h
  refine iv_TI_190 (rest := []) S hl.1 hP hS (c_TI_mix l hD M (7 : Int32) a0 (5 : Int32) k0 hq4) ⟨Nat.le_of_ble_eq_true rfl, Nat.le_of_ble_eq_true rfl⟩ (Nat.le_of_ble_eq_true rfl) rfl d_CP_hashOf_4 (fun H locs hP hS => ?_)
  exact cz_ireth S hr hlocks hP hS h d_CP_hashOf_7
def hs_m (h v : Int32) : Int32 := (((h ^^^ v) * (16777619 : Int32)) ^^^ (cz_iushr ((h ^^^ v) * (16777619 : Int32)) (15 : Int32))) &&& (2147483647 : Int32)
/-- the hash of a header -/
def hs_h (r : Nat → Int32) : Int32 := hs_m (hs_m (hs_m (hs_m (hs_m 7 (r 0)) (r 1)) (r 2)) (r 3)) (r 4)
theorem ti_hash (M : cz_M) : f_TI_hashOf M 0 = some (hs_h (M.1 0), M) := rfl
