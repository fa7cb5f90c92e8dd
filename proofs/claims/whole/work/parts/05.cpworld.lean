/-! The class's world: 109 cells. 0 the object; 1 its peers; 2, 4, 6, 8 a peer, behind it its outbox; 10, 12, 14 wire, draft and what is read, behind each its row; 16 the message, 17 its headers' rows (61 ..), 18 its body; 19 the blocks, 20 their headers' rows (69 ..), 21 hashes, 22 parents, 23 totals, 24 bodies' rows (89 ..), 25 their sizes, 26 imported; 27, 28 what seal fills; 29, 31 .. 59 the messages of the outboxes, behind each its row. -/
abbrev cz_X : Type := va_G × (Nat → Nat) × (Nat → ClassId)
def cp_ln (k : Nat) : Nat := if k < 16 then 56 else if k = 18 then 8 else if k = 27 then 5 else if k = 28 then 1 else if k < 29 then 20 else if k < 61 then 56 else if k < 89 then 5 else 8
abbrev cp_B (k : Nat) : Prop := (10 ≤ k ∧ k < 16 ∧ k % 2 = 0) ∨ (29 ≤ k ∧ k < 61 ∧ k % 2 = 1)
abbrev cp_Q (k : Nat) : Prop := 2 ≤ k ∧ k < 10 ∧ k % 2 = 0
abbrev cp_I (k : Nat) : Prop := (10 ≤ k ∧ k < 16 ∧ k % 2 = 1) ∨ k = 18 ∨ (21 ≤ k ∧ k ≤ 23) ∨ k = 25 ∨ k = 27 ∨ k = 28 ∨ (29 ≤ k ∧ k < 61 ∧ k % 2 = 0) ∨ (61 ≤ k ∧ k < 109)
def cp_oB (X : cz_X) (M : cz_M) (k : Nat) : va_E := .inr (1, [.ref (X.2.1 (k + 1)), .int (M.1 k 1)])
def cp_oQ (X : cz_X) (M : cz_M) (k : Nat) : va_E := .inr (2, [.int (M.1 k 0), .int (M.1 k 1), .int (M.1 k 2), .int (M.1 k 3), .int (M.1 k 4), .int (M.1 k 5), .int (M.1 k 6), .int (M.1 k 7), .ref (X.2.1 (k + 1)), .int (M.1 k 9)])
def cp_ce (X : cz_X) (M : cz_M) (k : Nat) : va_E :=
  if k = 0 then .inr (0, [.int (M.1 k 0), .int (M.1 k 1), .ref (X.2.1 10), .ref (X.2.1 12), .ref (X.2.1 16), .ref (X.2.1 19), .ref (X.2.1 1), .ref (X.2.1 27), .ref (X.2.1 28), .int (M.1 k 9), .int (M.1 k 10)])
  else if k = 1 then .inl (X.2.2 3, 4, .inr (.inr (.inr (.inr (fun j => some (X.2.1 (2 + 2 * j)))))))
  else if k < 10 then (if k % 2 = 0 then cp_oQ X M k else .inl (X.2.2 4, 4, .inr (.inr (.inr (.inr (fun j => some (X.2.1 (M.2 k j))))))))
  else if k < 16 then (if k % 2 = 0 then cp_oB X M k else .inl (X.2.2 0, cp_ln k, .inl (M.1 k)))
  else if k = 16 then .inr (3, [.int (M.1 k 0), .int (M.1 k 1), .int (M.1 k 2), .int (M.1 k 3), .int (M.1 k 4), .int (M.1 k 5), .int (M.1 k 6), .int (M.1 k 7), .ref (X.2.1 17), .ref (X.2.1 18), .ref (X.2.1 14), .int (M.1 k 11)])
  else if k = 17 then .inl (X.2.2 2, 8, .inr (.inr (.inr (.inr (fun j => some (X.2.1 (61 + j)))))))
  else if k = 19 then .inr (4, [.ref (X.2.1 20), .ref (X.2.1 21), .ref (X.2.1 22), .ref (X.2.1 23), .ref (X.2.1 24), .ref (X.2.1 25), .ref (X.2.1 26), .int (M.1 k 7)])
  else if k = 20 then .inl (X.2.2 2, 20, .inr (.inr (.inr (.inr (fun j => some (X.2.1 (69 + j)))))))
  else if k = 24 then .inl (X.2.2 2, 20, .inr (.inr (.inr (.inr (fun j => some (X.2.1 (89 + j)))))))
  else if k = 26 then .inl (X.2.2 1, 20, .inl (M.1 k))
  else if 29 ≤ k ∧ k < 61 ∧ k % 2 = 1 then cp_oB X M k
  else .inl (X.2.2 0, cp_ln k, .inl (M.1 k))
def cp_wl (X : cz_X) (M : cz_M) : va_W := cz_wl 109 (cp_ce X) X.2.1 M
abbrev cp_tys (X : cz_X) : List (ClassId × FieldType) := [(X.2.2 0, .int), (X.2.2 1, .boolean), (X.2.2 2, .array .int), (X.2.2 3, .object "ChainPeers$Peer"), (X.2.2 4, .object "ChainPeers$Bytes")]
theorem cp_ceB {X : cz_X} {M : cz_M} {k : Nat} (h : cp_B k) : cp_ce X M k = cp_oB X M k := by
  unfold cp_ce
  rcases h with h | h
  · rw [if_neg (by omega), if_neg (by omega), if_neg (by omega), if_pos (by omega), if_pos (by omega)]
  · rw [if_neg (by omega), if_neg (by omega), if_neg (by omega), if_neg (by omega), if_neg (by omega), if_neg (by omega), if_neg (by omega), if_neg (by omega), if_neg (by omega), if_neg (by omega), if_pos (by omega)]
theorem cp_ceQ {X : cz_X} {M : cz_M} {k : Nat} (h : cp_Q k) : cp_ce X M k = cp_oQ X M k := by
  unfold cp_ce
  rw [if_neg (by omega), if_neg (by omega), if_pos (by omega), if_pos (by omega)]
theorem cp_ceO {X : cz_X} {M : cz_M} {k : Nat} (h : cp_Q k) : cp_ce X M (k + 1) = .inl (X.2.2 4, 4, .inr (.inr (.inr (.inr (fun j => some (X.2.1 (M.2 (k + 1) j))))))) := by
  unfold cp_ce
  rw [if_neg (by omega), if_neg (by omega), if_pos (by omega), if_neg (by omega)]
theorem cp_ceI {X : cz_X} {M : cz_M} {k : Nat} (h : cp_I k) : cp_ce X M k = .inl (X.2.2 0, cp_ln k, .inl (M.1 k)) := by
  unfold cp_ce
  by_cases h1 : k < 16
  · rw [if_neg (by omega), if_neg (by omega), if_neg (by omega), if_pos (by omega), if_neg (by omega)]
  · rw [if_neg (by omega), if_neg (by omega), if_neg (by omega), if_neg (by omega), if_neg (by omega), if_neg (by omega), if_neg (by omega), if_neg (by omega), if_neg (by omega), if_neg (by omega), if_neg (by omega)]
theorem cp_ce_0 {X : cz_X} {M : cz_M} : cp_ce X M 0 = .inr (0, [.int (M.1 0 0), .int (M.1 0 1), .ref (X.2.1 10), .ref (X.2.1 12), .ref (X.2.1 16), .ref (X.2.1 19), .ref (X.2.1 1), .ref (X.2.1 27), .ref (X.2.1 28), .int (M.1 0 9), .int (M.1 0 10)]) := rfl
theorem cp_ce_16 {X : cz_X} {M : cz_M} : cp_ce X M 16 = .inr (3, [.int (M.1 16 0), .int (M.1 16 1), .int (M.1 16 2), .int (M.1 16 3), .int (M.1 16 4), .int (M.1 16 5), .int (M.1 16 6), .int (M.1 16 7), .ref (X.2.1 17), .ref (X.2.1 18), .ref (X.2.1 14), .int (M.1 16 11)]) := rfl
theorem cp_ce_19 {X : cz_X} {M : cz_M} : cp_ce X M 19 = .inr (4, [.ref (X.2.1 20), .ref (X.2.1 21), .ref (X.2.1 22), .ref (X.2.1 23), .ref (X.2.1 24), .ref (X.2.1 25), .ref (X.2.1 26), .int (M.1 19 7)]) := rfl
theorem cp_wB (X : cz_X) (M : cz_M) {k : Nat} (h : cp_B k) : (cp_wl X M)[k]? = some (X.2.1 k, .inr (1, [.ref (X.2.1 (k + 1)), .int (M.1 k 1)])) := cz_at (by omega) (cp_ceB h)
theorem cp_wQ (X : cz_X) (M : cz_M) {k : Nat} (h : cp_Q k) : (cp_wl X M)[k]? = some (X.2.1 k, .inr (2, [.int (M.1 k 0), .int (M.1 k 1), .int (M.1 k 2), .int (M.1 k 3), .int (M.1 k 4), .int (M.1 k 5), .int (M.1 k 6), .int (M.1 k 7), .ref (X.2.1 (k + 1)), .int (M.1 k 9)])) := cz_at (by omega) (cp_ceQ h)
theorem cp_wO (X : cz_X) (M : cz_M) {k : Nat} (h : cp_Q k) : (cp_wl X M)[k + 1]? = some (X.2.1 (k + 1), .inl (X.2.2 4, 4, .inr (.inr (.inr (.inr (fun j => some (X.2.1 (M.2 (k + 1) j)))))))) := cz_at (by omega) (cp_ceO h)
theorem cp_wI (X : cz_X) (M : cz_M) {k : Nat} (h : cp_I k) : (cp_wl X M)[k]? = some (X.2.1 k, .inl (X.2.2 0, cp_ln k, .inl (M.1 k))) := cz_at (by omega) (cp_ceI h)
theorem cp_w0 (X : cz_X) (M : cz_M) : (cp_wl X M)[0]? = some (X.2.1 0, .inr (0, [.int (M.1 0 0), .int (M.1 0 1), .ref (X.2.1 10), .ref (X.2.1 12), .ref (X.2.1 16), .ref (X.2.1 19), .ref (X.2.1 1), .ref (X.2.1 27), .ref (X.2.1 28), .int (M.1 0 9), .int (M.1 0 10)])) := cz_at (by decide) rfl
theorem cp_w1 (X : cz_X) (M : cz_M) : (cp_wl X M)[1]? = some (X.2.1 1, .inl (X.2.2 3, 4, .inr (.inr (.inr (.inr (fun j => some (X.2.1 (2 + 2 * j)))))))) := cz_at (by decide) rfl
theorem cp_w16 (X : cz_X) (M : cz_M) : (cp_wl X M)[16]? = some (X.2.1 16, .inr (3, [.int (M.1 16 0), .int (M.1 16 1), .int (M.1 16 2), .int (M.1 16 3), .int (M.1 16 4), .int (M.1 16 5), .int (M.1 16 6), .int (M.1 16 7), .ref (X.2.1 17), .ref (X.2.1 18), .ref (X.2.1 14), .int (M.1 16 11)])) := cz_at (by decide) rfl
theorem cp_w17 (X : cz_X) (M : cz_M) : (cp_wl X M)[17]? = some (X.2.1 17, .inl (X.2.2 2, 8, .inr (.inr (.inr (.inr (fun j => some (X.2.1 (61 + j)))))))) := cz_at (by decide) rfl
theorem cp_w19 (X : cz_X) (M : cz_M) : (cp_wl X M)[19]? = some (X.2.1 19, .inr (4, [.ref (X.2.1 20), .ref (X.2.1 21), .ref (X.2.1 22), .ref (X.2.1 23), .ref (X.2.1 24), .ref (X.2.1 25), .ref (X.2.1 26), .int (M.1 19 7)])) := cz_at (by decide) rfl
theorem cp_w20 (X : cz_X) (M : cz_M) : (cp_wl X M)[20]? = some (X.2.1 20, .inl (X.2.2 2, 20, .inr (.inr (.inr (.inr (fun j => some (X.2.1 (69 + j)))))))) := cz_at (by decide) rfl
theorem cp_w24 (X : cz_X) (M : cz_M) : (cp_wl X M)[24]? = some (X.2.1 24, .inl (X.2.2 2, 20, .inr (.inr (.inr (.inr (fun j => some (X.2.1 (89 + j)))))))) := cz_at (by decide) rfl
theorem cp_w26 (X : cz_X) (M : cz_M) : (cp_wl X M)[26]? = some (X.2.1 26, .inl (X.2.2 1, 20, .inl (M.1 26))) := cz_at (by decide) rfl
theorem cp_ce_congr {X : cz_X} {M M' : cz_M} {j : Nat} (h1 : M'.1 j = M.1 j) (h2 : M'.2 j = M.2 j) : cp_ce X M' j = cp_ce X M j := by
  simp only [cp_ce, cp_oB, cp_oQ, h1, h2]
theorem cp_ne_i {X : cz_X} {M : cz_M} {k i j : Nat} {v : Int32} (hj : j ≠ k) : cp_ce X (cz_i M k i v) j = cp_ce X M j := cp_ce_congr (by funext t; simp [cz_i, hj]) rfl
theorem cp_ne_a {X : cz_X} {M : cz_M} {k j : Nat} {f : Nat → Int32} (hj : j ≠ k) : cp_ce X (cz_a M k f) j = cp_ce X M j := cp_ce_congr (by funext t; simp [cz_a, hj]) rfl
theorem cp_ne_r {X : cz_X} {M : cz_M} {k i j v : Nat} (hj : j ≠ k) : cp_ce X (cz_r M k i v) j = cp_ce X M j := cp_ce_congr rfl (by funext t; simp [cz_r, hj])
theorem cz_i_row {M : cz_M} {k i : Nat} {v : Int32} : (cz_i M k i v).1 k = upd (M.1 k) i v := by
  funext t
  simp [cz_i, upd]
theorem cz_a_row {M : cz_M} {k : Nat} {f : Nat → Int32} : (cz_a M k f).1 k = f := by
  funext t
  simp [cz_a]
theorem cp_si {X : cz_X} {M : cz_M} {k i : Nat} {v : Int32} (h : cp_I k) : (cp_wl X M).set k (X.2.1 k, .inl (X.2.2 0, cp_ln k, .inl (upd (M.1 k) i v))) = cp_wl X (cz_i M k i v) :=
  cz_set (by rw [cp_ceI h, cz_i_row]) (fun j hj => cp_ne_i hj)
theorem cp_sa {X : cz_X} {M : cz_M} {k : Nat} {f : Nat → Int32} (h : cp_I k) : (cp_wl X M).set k (X.2.1 k, .inl (X.2.2 0, cp_ln k, .inl f)) = cp_wl X (cz_a M k f) :=
  cz_set (by rw [cp_ceI h, cz_a_row]) (fun j hj => cp_ne_a hj)
theorem cp_sz {X : cz_X} {M : cz_M} {i : Nat} {v : Int32} : (cp_wl X M).set 26 (X.2.1 26, .inl (X.2.2 1, 20, .inl (upd (M.1 26) i v))) = cp_wl X (cz_i M 26 i v) :=
  cz_set (by rw [← cz_i_row]; rfl) (fun j hj => cp_ne_i hj)
theorem cp_sr {X : cz_X} {M : cz_M} {k i v : Nat} (h : cp_Q k) : (cp_wl X M).set (k + 1) (X.2.1 (k + 1), .inl (X.2.2 4, 4, .inr (.inr (.inr (.inr (va_up (fun j => some (X.2.1 (M.2 (k + 1) j))) i (some (X.2.1 v)))))))) = cp_wl X (cz_r M (k + 1) i v) := by
  refine cz_set ?_ (fun j hj => cp_ne_r hj)
  rw [cp_ceO h]
  congr 7
  funext t
  by_cases ht : t = i
  · simp [cz_r, va_up, ht]
  · simp [cz_r, va_up, ht]
theorem cp_row {k : Nat} (h : cp_B k) : cp_I (k + 1) := by
  rcases h with h | h
  · exact Or.inl (by omega)
  · exact Or.inr (Or.inr (Or.inr (Or.inr (Or.inr (Or.inr (Or.inl (by omega)))))))
theorem cp_peer {i : Int32} (h : ¬ (i < 0 ∨ 4 ≤ i.toNatClampNeg)) : cp_Q (2 + 2 * i.toNatClampNeg) := by
  have h1 : i.toNatClampNeg < 4 := Nat.not_le.mp fun q => h (Or.inr q)
  exact ⟨by omega, by omega, by omega⟩
theorem cp_r61 {i : Int32} (h : ¬ (i < 0 ∨ 8 ≤ i.toNatClampNeg)) : cp_I (61 + i.toNatClampNeg) := by
  have h1 : i.toNatClampNeg < 8 := Nat.not_le.mp fun q => h (Or.inr q)
  exact Or.inr (Or.inr (Or.inr (Or.inr (Or.inr (Or.inr (Or.inr (by omega)))))))
theorem cp_r69 {i : Int32} (h : ¬ (i < 0 ∨ 20 ≤ i.toNatClampNeg)) : cp_I (69 + i.toNatClampNeg) := by
  have h1 : i.toNatClampNeg < 20 := Nat.not_le.mp fun q => h (Or.inr q)
  exact Or.inr (Or.inr (Or.inr (Or.inr (Or.inr (Or.inr (Or.inr (by omega)))))))
theorem cp_r89 {i : Int32} (h : ¬ (i < 0 ∨ 20 ≤ i.toNatClampNeg)) : cp_I (89 + i.toNatClampNeg) := by
  have h1 : i.toNatClampNeg < 20 := Nat.not_le.mp fun q => h (Or.inr q)
  exact Or.inr (Or.inr (Or.inr (Or.inr (Or.inr (Or.inr (Or.inr (by omega)))))))
abbrev cp_Ct (l : Launch) (X : cz_X) (A : Nat → Prop) (y : MethodName) (ws : List Cond) (rm : Room) (av : List Value) (M : cz_M) (ret : Option Value) (M2 : cz_M) : Prop := Met l y ws rm (va_Pc av (cz_Pw X.1 cp_cl (cp_tys X) cz_N (cp_wl X M))) (cz_Qw X.1 cp_cl ret (cp_wl X M2) A) 0 0 A
theorem cp_k10 : cp_B 10 := by decide
theorem cp_k12 : cp_B 12 := by decide
theorem cp_k14 : cp_B 14 := by decide
theorem cp_k18 : cp_I 18 := by decide
theorem cp_k21 : cp_I 21 := by decide
theorem cp_k22 : cp_I 22 := by decide
theorem cp_k23 : cp_I 23 := by decide
theorem cp_k25 : cp_I 25 := by decide
theorem cp_k27 : cp_I 27 := by decide
theorem cp_k28 : cp_I 28 := by decide
theorem cp_ia {p : Program} {l : Launch} {e : Env} {R : Room} {s : State} {m : MethodId} {args : Array Value} {below : List Frame} {meth : Method} {c : Code} {H : Heap} {locs : List Loc} {cells slots : Nat} {Q : State → Prop} {cc : ByteArray} {pc nL : Nat} {ls : Array Slot} {rest : List Value} {X : cz_X} {A : Nat → Prop} {M : cz_M} {own : String} (S : cz_Cx p m c cc nL s args cz_T own X.1 cp_cl (cp_tys X) cz_N A (cp_wl X)) (hP : va_P X.1 cp_cl (cp_wl X M) H) {q : Nat} (hq : cp_I q) {i : Int32} (hin : ¬ (i < 0 ∨ cp_ln q ≤ i.toNatClampNeg)) (hd : decode cc pc = .ok (.iaload, 1))
    (kk : W p l e R s m args below meth c H locs cells slots Q (F0 m (pc + 1) ls (.int (M.1 q i.toNatClampNeg) :: rest))) : W p l e R s m args below meth c H locs cells slots Q (F0 m pc ls (.int i :: .ref (X.2.1 q) :: rest)) :=
  cz_iald S hP (cp_wI X M hq) (t0 := 0) rfl hin hd kk
theorem cp_is {p : Program} {l : Launch} {e : Env} {R : Room} {s : State} {m : MethodId} {args : Array Value} {below : List Frame} {meth : Method} {c : Code} {H : Heap} {locs : List Loc} {cells slots : Nat} {Q : State → Prop} {cc : ByteArray} {pc nL : Nat} {ls : Array Slot} {rest : List Value} {X : cz_X} {A : Nat → Prop} {H0 : Heap} {M : cz_M} {own : String} (S : cz_Cx p m c cc nL s args cz_T own X.1 cp_cl (cp_tys X) cz_N A (cp_wl X)) (hP : va_P X.1 cp_cl (cp_wl X M) H) (hS : va_S A H0 H locs) {q : Nat} (hq : cp_I q) {i x : Int32} (hin : ¬ (i < 0 ∨ cp_ln q ≤ i.toNatClampNeg)) (hd : decode cc pc = .ok (.iastore, 1))
    (kk : ∀ (H : Heap) (locs : List Loc), va_P X.1 cp_cl (cp_wl X (cz_i M q i.toNatClampNeg x)) H → va_S A H0 H locs → W p l e R s m args below meth c H locs cells slots Q (F0 m (pc + 1) ls (rest))) : W p l e R s m args below meth c H locs cells slots Q (F0 m pc ls (.int x :: .int i :: .ref (X.2.1 q) :: rest)) :=
  cz_iast S hP hS (cp_wI X M hq) (t0 := 0) rfl (cp_si hq) hin hd kk
theorem cp_al {p : Program} {l : Launch} {e : Env} {R : Room} {s : State} {m : MethodId} {args : Array Value} {below : List Frame} {meth : Method} {c : Code} {H : Heap} {locs : List Loc} {cells slots : Nat} {Q : State → Prop} {cc : ByteArray} {pc nL : Nat} {ls : Array Slot} {rest : List Value} {X : cz_X} {A : Nat → Prop} {M : cz_M} {own : String} (S : cz_Cx p m c cc nL s args cz_T own X.1 cp_cl (cp_tys X) cz_N A (cp_wl X)) (hP : va_P X.1 cp_cl (cp_wl X M) H) {q : Nat} (hq : cp_I q) (hd : decode cc pc = .ok (.arraylength, 1))
    (kk : W p l e R s m args below meth c H locs cells slots Q (F0 m (pc + 1) ls (.int (Int32.ofNat (cp_ln q)) :: rest))) : W p l e R s m args below meth c H locs cells slots Q (F0 m pc ls (.ref (X.2.1 q) :: rest)) :=
  cz_alen S hP (cp_wI X M hq) (t0 := 0) rfl hd kk
theorem cp_za {p : Program} {l : Launch} {e : Env} {R : Room} {s : State} {m : MethodId} {args : Array Value} {below : List Frame} {meth : Method} {c : Code} {H : Heap} {locs : List Loc} {cells slots : Nat} {Q : State → Prop} {cc : ByteArray} {pc nL : Nat} {ls : Array Slot} {rest : List Value} {X : cz_X} {A : Nat → Prop} {M : cz_M} {own : String} (S : cz_Cx p m c cc nL s args cz_T own X.1 cp_cl (cp_tys X) cz_N A (cp_wl X)) (hP : va_P X.1 cp_cl (cp_wl X M) H) {i : Int32} (hin : ¬ (i < 0 ∨ 20 ≤ i.toNatClampNeg)) (hd : decode cc pc = .ok (.baload, 1))
    (kk : W p l e R s m args below meth c H locs cells slots Q (F0 m (pc + 1) ls (.int (M.1 26 i.toNatClampNeg) :: rest))) : W p l e R s m args below meth c H locs cells slots Q (F0 m pc ls (.int i :: .ref (X.2.1 26) :: rest)) :=
  cz_zald S hP (cp_w26 X M) (t0 := 1) rfl hin hd kk
theorem cp_zs {p : Program} {l : Launch} {e : Env} {R : Room} {s : State} {m : MethodId} {args : Array Value} {below : List Frame} {meth : Method} {c : Code} {H : Heap} {locs : List Loc} {cells slots : Nat} {Q : State → Prop} {cc : ByteArray} {pc nL : Nat} {ls : Array Slot} {rest : List Value} {X : cz_X} {A : Nat → Prop} {H0 : Heap} {M : cz_M} {own : String} (S : cz_Cx p m c cc nL s args cz_T own X.1 cp_cl (cp_tys X) cz_N A (cp_wl X)) (hP : va_P X.1 cp_cl (cp_wl X M) H) (hS : va_S A H0 H locs) {i x : Int32} (hin : ¬ (i < 0 ∨ 20 ≤ i.toNatClampNeg)) (hd : decode cc pc = .ok (.bastore, 1))
    (kk : ∀ (H : Heap) (locs : List Loc), va_P X.1 cp_cl (cp_wl X (cz_i M 26 i.toNatClampNeg (vp_nar .boolean x))) H → va_S A H0 H locs → W p l e R s m args below meth c H locs cells slots Q (F0 m (pc + 1) ls (rest))) : W p l e R s m args below meth c H locs cells slots Q (F0 m pc ls (.int x :: .int i :: .ref (X.2.1 26) :: rest)) :=
  cz_zast S hP hS (cp_w26 X M) (t0 := 1) rfl cp_sz hin hd kk
theorem cp_aaPA {p : Program} {l : Launch} {e : Env} {R : Room} {s : State} {m : MethodId} {args : Array Value} {below : List Frame} {meth : Method} {c : Code} {H : Heap} {locs : List Loc} {cells slots : Nat} {Q : State → Prop} {cc : ByteArray} {pc nL : Nat} {ls : Array Slot} {rest : List Value} {X : cz_X} {A : Nat → Prop} {M : cz_M} {own : String} (S : cz_Cx p m c cc nL s args cz_T own X.1 cp_cl (cp_tys X) cz_N A (cp_wl X)) (hP : va_P X.1 cp_cl (cp_wl X M) H) {i : Int32} (hin : ¬ (i < 0 ∨ 4 ≤ i.toNatClampNeg)) (hd : decode cc pc = .ok (.aaload, 1))
    (kk : W p l e R s m args below meth c H locs cells slots Q (F0 m (pc + 1) ls (.ref (X.2.1 (2 + 2 * i.toNatClampNeg)) :: rest))) : W p l e R s m args below meth c H locs cells slots Q (F0 m pc ls (.int i :: .ref (X.2.1 1) :: rest)) :=
  cz_aald S hP (cp_w1 X M) (t0 := 3) rfl rfl hin hd kk
theorem cp_aaG8 {p : Program} {l : Launch} {e : Env} {R : Room} {s : State} {m : MethodId} {args : Array Value} {below : List Frame} {meth : Method} {c : Code} {H : Heap} {locs : List Loc} {cells slots : Nat} {Q : State → Prop} {cc : ByteArray} {pc nL : Nat} {ls : Array Slot} {rest : List Value} {X : cz_X} {A : Nat → Prop} {M : cz_M} {own : String} (S : cz_Cx p m c cc nL s args cz_T own X.1 cp_cl (cp_tys X) cz_N A (cp_wl X)) (hP : va_P X.1 cp_cl (cp_wl X M) H) {i : Int32} (hin : ¬ (i < 0 ∨ 8 ≤ i.toNatClampNeg)) (hd : decode cc pc = .ok (.aaload, 1))
    (kk : W p l e R s m args below meth c H locs cells slots Q (F0 m (pc + 1) ls (.ref (X.2.1 (61 + i.toNatClampNeg)) :: rest))) : W p l e R s m args below meth c H locs cells slots Q (F0 m pc ls (.int i :: .ref (X.2.1 17) :: rest)) :=
  cz_aald S hP (cp_w17 X M) (t0 := 2) rfl rfl hin hd kk
theorem cp_aaGH {p : Program} {l : Launch} {e : Env} {R : Room} {s : State} {m : MethodId} {args : Array Value} {below : List Frame} {meth : Method} {c : Code} {H : Heap} {locs : List Loc} {cells slots : Nat} {Q : State → Prop} {cc : ByteArray} {pc nL : Nat} {ls : Array Slot} {rest : List Value} {X : cz_X} {A : Nat → Prop} {M : cz_M} {own : String} (S : cz_Cx p m c cc nL s args cz_T own X.1 cp_cl (cp_tys X) cz_N A (cp_wl X)) (hP : va_P X.1 cp_cl (cp_wl X M) H) {i : Int32} (hin : ¬ (i < 0 ∨ 20 ≤ i.toNatClampNeg)) (hd : decode cc pc = .ok (.aaload, 1))
    (kk : W p l e R s m args below meth c H locs cells slots Q (F0 m (pc + 1) ls (.ref (X.2.1 (69 + i.toNatClampNeg)) :: rest))) : W p l e R s m args below meth c H locs cells slots Q (F0 m pc ls (.int i :: .ref (X.2.1 20) :: rest)) :=
  cz_aald S hP (cp_w20 X M) (t0 := 2) rfl rfl hin hd kk
theorem cp_aaGB {p : Program} {l : Launch} {e : Env} {R : Room} {s : State} {m : MethodId} {args : Array Value} {below : List Frame} {meth : Method} {c : Code} {H : Heap} {locs : List Loc} {cells slots : Nat} {Q : State → Prop} {cc : ByteArray} {pc nL : Nat} {ls : Array Slot} {rest : List Value} {X : cz_X} {A : Nat → Prop} {M : cz_M} {own : String} (S : cz_Cx p m c cc nL s args cz_T own X.1 cp_cl (cp_tys X) cz_N A (cp_wl X)) (hP : va_P X.1 cp_cl (cp_wl X M) H) {i : Int32} (hin : ¬ (i < 0 ∨ 20 ≤ i.toNatClampNeg)) (hd : decode cc pc = .ok (.aaload, 1))
    (kk : W p l e R s m args below meth c H locs cells slots Q (F0 m (pc + 1) ls (.ref (X.2.1 (89 + i.toNatClampNeg)) :: rest))) : W p l e R s m args below meth c H locs cells slots Q (F0 m pc ls (.int i :: .ref (X.2.1 24) :: rest)) :=
  cz_aald S hP (cp_w24 X M) (t0 := 2) rfl rfl hin hd kk
theorem cp_aaOA {p : Program} {l : Launch} {e : Env} {R : Room} {s : State} {m : MethodId} {args : Array Value} {below : List Frame} {meth : Method} {c : Code} {H : Heap} {locs : List Loc} {cells slots : Nat} {Q : State → Prop} {cc : ByteArray} {pc nL : Nat} {ls : Array Slot} {rest : List Value} {X : cz_X} {A : Nat → Prop} {M : cz_M} {own : String} (S : cz_Cx p m c cc nL s args cz_T own X.1 cp_cl (cp_tys X) cz_N A (cp_wl X)) (hP : va_P X.1 cp_cl (cp_wl X M) H) {q : Nat} (hq : cp_Q q) {i : Int32} (hin : ¬ (i < 0 ∨ 4 ≤ i.toNatClampNeg)) (hd : decode cc pc = .ok (.aaload, 1))
    (kk : W p l e R s m args below meth c H locs cells slots Q (F0 m (pc + 1) ls (.ref (X.2.1 (M.2 (q + 1) i.toNatClampNeg)) :: rest))) : W p l e R s m args below meth c H locs cells slots Q (F0 m pc ls (.int i :: .ref (X.2.1 (q + 1)) :: rest)) :=
  cz_aald S hP (cp_wO X M hq) (t0 := 4) rfl rfl hin hd kk
theorem cp_asOA {p : Program} {l : Launch} {e : Env} {R : Room} {s : State} {m : MethodId} {args : Array Value} {below : List Frame} {meth : Method} {c : Code} {H : Heap} {locs : List Loc} {cells slots : Nat} {Q : State → Prop} {cc : ByteArray} {pc nL : Nat} {ls : Array Slot} {rest : List Value} {X : cz_X} {A : Nat → Prop} {H0 : Heap} {M : cz_M} {own : String} (S : cz_Cx p m c cc nL s args cz_T own X.1 cp_cl (cp_tys X) cz_N A (cp_wl X)) (hP : va_P X.1 cp_cl (cp_wl X M) H) (hS : va_S A H0 H locs) {q v : Nat} (hq : cp_Q q) (hv : cp_B v) {i : Int32} (hin : ¬ (i < 0 ∨ 4 ≤ i.toNatClampNeg)) (hd : decode cc pc = .ok (.aastore, 1))
    (kk : ∀ (H : Heap) (locs : List Loc), va_P X.1 cp_cl (cp_wl X (cz_r M (q + 1) i.toNatClampNeg v)) H → va_S A H0 H locs → W p l e R s m args below meth c H locs cells slots Q (F0 m (pc + 1) ls (rest))) : W p l e R s m args below meth c H locs cells slots Q (F0 m pc ls (.ref (X.2.1 v) :: .int i :: .ref (X.2.1 (q + 1)) :: rest)) :=
  cz_aast S hP hS (cp_wO X M hq) (t0 := 4) rfl (cp_wB X M hv) rfl (cp_sr hq) hin hd kk
