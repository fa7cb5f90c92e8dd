/-! The reference's world: 19 cells: 0 the object, 1 .. 18 its arrays. -/
def mo_ln (k : Nat) : Nat := if k = 1 then 100 else if k = 2 then 160 else if k = 3 then 20 else if k < 13 then 4 else if k = 13 then 16 else if k = 14 then 896 else if k = 15 then 56 else if k = 16 then 3 else 60
abbrev mo_I (k : Nat) : Prop := 1 ≤ k ∧ k < 19
def mo_ce (X : cz_X) (M : cz_M) (k : Nat) : va_E :=
  if k = 0 then .inr (0, [.int (M.1 k 0), .int (M.1 k 1), .int (M.1 k 2), .int (M.1 k 3), .int (M.1 k 4), .ref (X.2.1 1), .ref (X.2.1 2), .ref (X.2.1 3), .ref (X.2.1 4), .ref (X.2.1 5), .ref (X.2.1 6), .ref (X.2.1 7), .ref (X.2.1 8), .ref (X.2.1 9), .ref (X.2.1 10), .ref (X.2.1 11), .ref (X.2.1 12), .ref (X.2.1 13), .ref (X.2.1 14), .int (M.1 k 19), .ref (X.2.1 15), .int (M.1 k 21), .int (M.1 k 22), .ref (X.2.1 16), .int (M.1 k 24), .ref (X.2.1 17), .int (M.1 k 26), .ref (X.2.1 18)])
  else .inl (X.2.2 0, mo_ln k, .inl (M.1 k))
def mo_wl (X : cz_X) (M : cz_M) : va_W := cz_wl 19 (mo_ce X) X.2.1 M
abbrev mo_tys (X : cz_X) : List (ClassId × FieldType) := [(X.2.2 0, .int)]
theorem mo_ce_0 {X : cz_X} {M : cz_M} : mo_ce X M 0 = .inr (0, [.int (M.1 0 0), .int (M.1 0 1), .int (M.1 0 2), .int (M.1 0 3), .int (M.1 0 4), .ref (X.2.1 1), .ref (X.2.1 2), .ref (X.2.1 3), .ref (X.2.1 4), .ref (X.2.1 5), .ref (X.2.1 6), .ref (X.2.1 7), .ref (X.2.1 8), .ref (X.2.1 9), .ref (X.2.1 10), .ref (X.2.1 11), .ref (X.2.1 12), .ref (X.2.1 13), .ref (X.2.1 14), .int (M.1 0 19), .ref (X.2.1 15), .int (M.1 0 21), .int (M.1 0 22), .ref (X.2.1 16), .int (M.1 0 24), .ref (X.2.1 17), .int (M.1 0 26), .ref (X.2.1 18)]) := rfl
theorem mo_w0 (X : cz_X) (M : cz_M) : (mo_wl X M)[0]? = some (X.2.1 0, .inr (0, [.int (M.1 0 0), .int (M.1 0 1), .int (M.1 0 2), .int (M.1 0 3), .int (M.1 0 4), .ref (X.2.1 1), .ref (X.2.1 2), .ref (X.2.1 3), .ref (X.2.1 4), .ref (X.2.1 5), .ref (X.2.1 6), .ref (X.2.1 7), .ref (X.2.1 8), .ref (X.2.1 9), .ref (X.2.1 10), .ref (X.2.1 11), .ref (X.2.1 12), .ref (X.2.1 13), .ref (X.2.1 14), .int (M.1 0 19), .ref (X.2.1 15), .int (M.1 0 21), .int (M.1 0 22), .ref (X.2.1 16), .int (M.1 0 24), .ref (X.2.1 17), .int (M.1 0 26), .ref (X.2.1 18)])) := cz_at (by decide) rfl
theorem mo_ceI {X : cz_X} {M : cz_M} {k : Nat} (h : mo_I k) : mo_ce X M k = .inl (X.2.2 0, mo_ln k, .inl (M.1 k)) := by
  unfold mo_ce
  rw [if_neg (by omega)]
theorem mo_wI (X : cz_X) (M : cz_M) {k : Nat} (h : mo_I k) : (mo_wl X M)[k]? = some (X.2.1 k, .inl (X.2.2 0, mo_ln k, .inl (M.1 k))) := cz_at h.2 (mo_ceI h)
theorem mo_ce_congr {X : cz_X} {M M' : cz_M} {j : Nat} (h1 : M'.1 j = M.1 j) : mo_ce X M' j = mo_ce X M j := by
  simp only [mo_ce, h1]
theorem mo_ne_i {X : cz_X} {M : cz_M} {k i j : Nat} {v : Int32} (hj : j ≠ k) : mo_ce X (cz_i M k i v) j = mo_ce X M j := mo_ce_congr (by funext t; simp [cz_i, hj])
theorem mo_si {X : cz_X} {M : cz_M} {k i : Nat} {v : Int32} (h : mo_I k) : (mo_wl X M).set k (X.2.1 k, .inl (X.2.2 0, mo_ln k, .inl (upd (M.1 k) i v))) = mo_wl X (cz_i M k i v) :=
  cz_set (by rw [mo_ceI h, cz_i_row]) (fun j hj => mo_ne_i hj)
abbrev mo_Ct (l : Launch) (X : cz_X) (A : Nat → Prop) (y : MethodName) (ws : List Cond) (rm : Room) (av : List Value) (M : cz_M) (ret : Option Value) (M2 : cz_M) : Prop := Met l y ws rm (va_Pc av (cz_Pw X.1 mo_cl (mo_tys X) cz_N (mo_wl X M))) (cz_Qw X.1 mo_cl ret (mo_wl X M2) A) 0 0 A
theorem mo_k1 : mo_I 1 := by decide
theorem mo_k2 : mo_I 2 := by decide
theorem mo_k3 : mo_I 3 := by decide
theorem mo_k4 : mo_I 4 := by decide
theorem mo_k5 : mo_I 5 := by decide
theorem mo_k6 : mo_I 6 := by decide
theorem mo_k7 : mo_I 7 := by decide
theorem mo_k8 : mo_I 8 := by decide
theorem mo_k9 : mo_I 9 := by decide
theorem mo_k10 : mo_I 10 := by decide
theorem mo_k11 : mo_I 11 := by decide
theorem mo_k12 : mo_I 12 := by decide
theorem mo_k13 : mo_I 13 := by decide
theorem mo_k14 : mo_I 14 := by decide
theorem mo_k15 : mo_I 15 := by decide
theorem mo_k16 : mo_I 16 := by decide
theorem mo_k17 : mo_I 17 := by decide
theorem mo_k18 : mo_I 18 := by decide
theorem mo_ia {p : Program} {l : Launch} {e : Env} {R : Room} {s : State} {m : MethodId} {args : Array Value} {below : List Frame} {meth : Method} {c : Code} {H : Heap} {locs : List Loc} {cells slots : Nat} {Q : State → Prop} {cc : ByteArray} {pc nL : Nat} {ls : Array Slot} {rest : List Value} {X : cz_X} {A : Nat → Prop} {M : cz_M} {own : String} (S : cz_Cx p m c cc nL s args cz_T own X.1 mo_cl (mo_tys X) cz_N A (mo_wl X)) (hP : va_P X.1 mo_cl (mo_wl X M) H) {q : Nat} (hq : mo_I q) {i : Int32} (hin : ¬ (i < 0 ∨ mo_ln q ≤ i.toNatClampNeg)) (hd : decode cc pc = .ok (.iaload, 1))
    (kk : W p l e R s m args below meth c H locs cells slots Q (F0 m (pc + 1) ls (.int (M.1 q i.toNatClampNeg) :: rest))) : W p l e R s m args below meth c H locs cells slots Q (F0 m pc ls (.int i :: .ref (X.2.1 q) :: rest)) :=
  cz_iald S hP (mo_wI X M hq) (t0 := 0) rfl hin hd kk
theorem mo_is {p : Program} {l : Launch} {e : Env} {R : Room} {s : State} {m : MethodId} {args : Array Value} {below : List Frame} {meth : Method} {c : Code} {H : Heap} {locs : List Loc} {cells slots : Nat} {Q : State → Prop} {cc : ByteArray} {pc nL : Nat} {ls : Array Slot} {rest : List Value} {X : cz_X} {A : Nat → Prop} {H0 : Heap} {M : cz_M} {own : String} (S : cz_Cx p m c cc nL s args cz_T own X.1 mo_cl (mo_tys X) cz_N A (mo_wl X)) (hP : va_P X.1 mo_cl (mo_wl X M) H) (hS : va_S A H0 H locs) {q : Nat} (hq : mo_I q) {i x : Int32} (hin : ¬ (i < 0 ∨ mo_ln q ≤ i.toNatClampNeg)) (hd : decode cc pc = .ok (.iastore, 1))
    (kk : ∀ (H : Heap) (locs : List Loc), va_P X.1 mo_cl (mo_wl X (cz_i M q i.toNatClampNeg x)) H → va_S A H0 H locs → W p l e R s m args below meth c H locs cells slots Q (F0 m (pc + 1) ls (rest))) : W p l e R s m args below meth c H locs cells slots Q (F0 m pc ls (.int x :: .int i :: .ref (X.2.1 q) :: rest)) :=
  cz_iast S hP hS (mo_wI X M hq) (t0 := 0) rfl (mo_si hq) hin hd kk
theorem mo_al {p : Program} {l : Launch} {e : Env} {R : Room} {s : State} {m : MethodId} {args : Array Value} {below : List Frame} {meth : Method} {c : Code} {H : Heap} {locs : List Loc} {cells slots : Nat} {Q : State → Prop} {cc : ByteArray} {pc nL : Nat} {ls : Array Slot} {rest : List Value} {X : cz_X} {A : Nat → Prop} {M : cz_M} {own : String} (S : cz_Cx p m c cc nL s args cz_T own X.1 mo_cl (mo_tys X) cz_N A (mo_wl X)) (hP : va_P X.1 mo_cl (mo_wl X M) H) {q : Nat} (hq : mo_I q) (hd : decode cc pc = .ok (.arraylength, 1))
    (kk : W p l e R s m args below meth c H locs cells slots Q (F0 m (pc + 1) ls (.int (Int32.ofNat (mo_ln q)) :: rest))) : W p l e R s m args below meth c H locs cells slots Q (F0 m pc ls (.ref (X.2.1 q) :: rest)) :=
  cz_alen S hP (mo_wI X M hq) (t0 := 0) rfl hd kk
