/-! The frame of this proof: ONE world for all methods of a side, at fixed places; its state is a memory (ints, and the few references that move); a method's contract says 'if its function answers some (r, M2) then it answers r and leaves M2'. -/
abbrev cz_M : Type := (Nat → Nat → Int32) × (Nat → Nat → Nat)
def cz_i (M : cz_M) (k j : Nat) (v : Int32) : cz_M := (fun k' j' => if k' = k ∧ j' = j then v else M.1 k' j', M.2)
def cz_r (M : cz_M) (k j v : Nat) : cz_M := (M.1, fun k' j' => if k' = k ∧ j' = j then v else M.2 k' j')
def cz_a (M : cz_M) (k : Nat) (f : Nat → Int32) : cz_M := (fun k' j' => if k' = k then f j' else M.1 k' j', M.2)
def cz_bi {ρ : Type} (x : Option (Int32 × cz_M)) (e : Int32 → cz_M → Option ρ) : Option ρ := match x with
  | none => none
  | some q => e q.1 q.2
def cz_bv {ρ : Type} (x : Option cz_M) (e : cz_M → Option ρ) : Option ρ := match x with
  | none => none
  | some q => e q
theorem cz_ubi {ρ : Type} {x : Option (Int32 × cz_M)} {e : Int32 → cz_M → Option ρ} {res : ρ} (h : cz_bi x e = some res) : ∃ (r : Int32) (M : cz_M), x = some (r, M) ∧ e r M = some res := by
  cases x with
  | none => cases h
  | some q => exact ⟨q.1, q.2, rfl, h⟩
theorem cz_ubv {ρ : Type} {x : Option cz_M} {e : cz_M → Option ρ} {res : ρ} (h : cz_bv x e = some res) : ∃ M : cz_M, x = some M ∧ e M = some res := by
  cases x with
  | none => cases h
  | some q => exact ⟨q, rfl, h⟩
theorem cz_t {ρ : Type} {c : Prop} [Decidable c] {a b : Option ρ} {r : ρ} (hc : c) (h : (if c then a else b) = some r) : a = some r := by rw [if_pos hc] at h; exact h
theorem cz_f {ρ : Type} {c : Prop} [Decidable c] {a b : Option ρ} {r : ρ} (hc : ¬ c) (h : (if c then a else b) = some r) : b = some r := by rw [if_neg hc] at h; exact h
theorem cz_ck {ρ : Type} {c : Prop} [Decidable c] {b : Option ρ} {r : ρ} (h : (if c then none else b) = some r) : ¬ c ∧ b = some r := by
  by_cases hc : c
  · rw [if_pos hc] at h; cases h
  · rw [if_neg hc] at h; exact ⟨hc, h⟩
theorem cz_ckp {ρ : Type} {c : Prop} [Decidable c] {b : Option ρ} {r : ρ} (h : (if c then b else none) = some r) : c ∧ b = some r := by
  by_cases hc : c
  · rw [if_pos hc] at h; exact ⟨hc, h⟩
  · rw [if_neg hc] at h; cases h
theorem cz_nb {v : Int32} (h : v = 0 ∨ v = 1) : narrow .boolean (.int v) = .int v := by
  rcases h with h | h <;> (subst h; rfl)
theorem cz_pair {a c : Int32} {b d : cz_M} (h : some (a, b) = some (c, d)) : a = c ∧ b = d := by cases h; exact ⟨rfl, rfl⟩
theorem cz_one {b d : cz_M} (h : some b = some d) : b = d := by cases h; rfl
def cz_iushr (x y : Int32) : Int32 := (x.toUInt32 >>> (y.toUInt32 &&& Int32.toUInt32 31)).toInt32
def cz_lushr (x : Int64) (y : Int32) : Int64 := (x.toUInt64 >>> (y.toInt64.toUInt64 &&& Int64.toUInt64 63)).toInt64
def cz_lshl (x : Int64) (y : Int32) : Int64 := x <<< (y.toInt64 &&& 63)
def cz_lshr (x : Int64) (y : Int32) : Int64 := x >>> (y.toInt64 &&& 63)
def cz_max (x y : Int32) : Int32 := if x < y then y else x
def cz_min (x y : Int32) : Int32 := if y < x then y else x
def cz_abs (x : Int32) : Int32 := if 0 ≤ x then x else 0 - x
theorem cz_inc1 (x : Int32) : x + Int32.ofInt 1 = x + 1 := rfl
theorem cz_inc4 (x : Int32) : x + Int32.ofInt 4 = x + 4 := rfl
theorem cz_inc5 (x : Int32) : x + Int32.ofInt 5 = x + 5 := rfl
theorem cz_incm1 (x : Int32) : x + Int32.ofInt (-1) = x - 1 := by
  rw [Int32.sub_eq_add_neg]
  rfl
/-! loops: a body that calls itself, so many times at the most -/
def cz_lp1 {α ρ : Type} (b : (α → Option ρ) → α → Option ρ) : Nat → α → Option ρ
  | 0 => fun _ => none
  | n + 1 => b (cz_lp1 b n)
theorem cz_ind1 {α ρ : Type} {b : (α → Option ρ) → α → Option ρ} {res : ρ} {P : α → Prop} (hs : ∀ rec : α → Option ρ, (∀ x, rec x = some res → P x) → ∀ x, b rec x = some res → P x) : ∀ (n : Nat) (x : α), cz_lp1 b n x = some res → P x
  | 0, _, h => by cases h
  | n + 1, x, h => hs (cz_lp1 b n) (cz_ind1 hs n) x h
def cz_lp2 {α β ρ : Type} (b : (α → β → Option ρ) → α → β → Option ρ) : Nat → α → β → Option ρ
  | 0 => fun _ _ => none
  | n + 1 => b (cz_lp2 b n)
theorem cz_ind2 {α β ρ : Type} {b : (α → β → Option ρ) → α → β → Option ρ} {res : ρ} {P : α → β → Prop} (hs : ∀ rec : α → β → Option ρ, (∀ x y, rec x y = some res → P x y) → ∀ x y, b rec x y = some res → P x y) : ∀ (n : Nat) (x : α) (y : β), cz_lp2 b n x y = some res → P x y
  | 0, _, _, h => by cases h
  | n + 1, x, y, h => hs (cz_lp2 b n) (cz_ind2 hs n) x y h
def cz_lp3 {α β γ ρ : Type} (b : (α → β → γ → Option ρ) → α → β → γ → Option ρ) : Nat → α → β → γ → Option ρ
  | 0 => fun _ _ _ => none
  | n + 1 => b (cz_lp3 b n)
theorem cz_ind3 {α β γ ρ : Type} {b : (α → β → γ → Option ρ) → α → β → γ → Option ρ} {res : ρ} {P : α → β → γ → Prop} (hs : ∀ rec : α → β → γ → Option ρ, (∀ x y z, rec x y z = some res → P x y z) → ∀ x y z, b rec x y z = some res → P x y z) : ∀ (n : Nat) (x : α) (y : β) (z : γ), cz_lp3 b n x y z = some res → P x y z
  | 0, _, _, _, h => by cases h
  | n + 1, x, y, z, h => hs (cz_lp3 b n) (cz_ind3 hs n) x y z h
def cz_lp4 {α β γ δ ρ : Type} (b : (α → β → γ → δ → Option ρ) → α → β → γ → δ → Option ρ) : Nat → α → β → γ → δ → Option ρ
  | 0 => fun _ _ _ _ => none
  | n + 1 => b (cz_lp4 b n)
theorem cz_ind4 {α β γ δ ρ : Type} {b : (α → β → γ → δ → Option ρ) → α → β → γ → δ → Option ρ} {res : ρ} {P : α → β → γ → δ → Prop} (hs : ∀ rec : α → β → γ → δ → Option ρ, (∀ x y z w, rec x y z w = some res → P x y z w) → ∀ x y z w, b rec x y z w = some res → P x y z w) : ∀ (n : Nat) (x : α) (y : β) (z : γ) (w : δ), cz_lp4 b n x y z w = some res → P x y z w
  | 0, _, _, _, _, h => by cases h
  | n + 1, x, y, z, w, h => hs (cz_lp4 b n) (cz_ind4 hs n) x y z w h
def cz_lp5 {α β γ δ ε ρ : Type} (b : (α → β → γ → δ → ε → Option ρ) → α → β → γ → δ → ε → Option ρ) : Nat → α → β → γ → δ → ε → Option ρ
  | 0 => fun _ _ _ _ _ => none
  | n + 1 => b (cz_lp5 b n)
theorem cz_ind5 {α β γ δ ε ρ : Type} {b : (α → β → γ → δ → ε → Option ρ) → α → β → γ → δ → ε → Option ρ} {res : ρ} {P : α → β → γ → δ → ε → Prop} (hs : ∀ rec : α → β → γ → δ → ε → Option ρ, (∀ x y z w v, rec x y z w v = some res → P x y z w v) → ∀ x y z w v, b rec x y z w v = some res → P x y z w v) : ∀ (n : Nat) (x : α) (y : β) (z : γ) (w : δ) (v : ε), cz_lp5 b n x y z w v = some res → P x y z w v
  | 0, _, _, _, _, _, h => by cases h
  | n + 1, x, y, z, w, v, h => hs (cz_lp5 b n) (cz_ind5 hs n) x y z w v h
def cz_lp6 {α β γ δ ε ζ ρ : Type} (b : (α → β → γ → δ → ε → ζ → Option ρ) → α → β → γ → δ → ε → ζ → Option ρ) : Nat → α → β → γ → δ → ε → ζ → Option ρ
  | 0 => fun _ _ _ _ _ _ => none
  | n + 1 => b (cz_lp6 b n)
theorem cz_ind6 {α β γ δ ε ζ ρ : Type} {b : (α → β → γ → δ → ε → ζ → Option ρ) → α → β → γ → δ → ε → ζ → Option ρ} {res : ρ} {P : α → β → γ → δ → ε → ζ → Prop} (hs : ∀ rec : α → β → γ → δ → ε → ζ → Option ρ, (∀ x y z w v u, rec x y z w v u = some res → P x y z w v u) → ∀ x y z w v u, b rec x y z w v u = some res → P x y z w v u) : ∀ (n : Nat) (x : α) (y : β) (z : γ) (w : δ) (v : ε) (u : ζ), cz_lp6 b n x y z w v u = some res → P x y z w v u
  | 0, _, _, _, _, _, _, h => by cases h
  | n + 1, x, y, z, w, v, u, h => hs (cz_lp6 b n) (cz_ind6 hs n) x y z w v u h
/-! the world: n cells at addresses ad; ce says what cell k holds at memory M -/
def cz_wl (n : Nat) (ce : cz_M → Nat → va_E) (ad : Nat → Nat) (M : cz_M) : va_W := (List.range n).map (fun k => (ad k, ce M k))
theorem cz_at {n : Nat} {ce : cz_M → Nat → va_E} {ad : Nat → Nat} {M : cz_M} {k : Nat} (h : k < n) {e : va_E} (he : ce M k = e) : (cz_wl n ce ad M)[k]? = some (ad k, e) := by
  rw [← he]
  simp [cz_wl, h]
theorem cz_set {n : Nat} {ce : cz_M → Nat → va_E} {ad : Nat → Nat} {M M' : cz_M} {k : Nat} {e : va_E} (h1 : ce M' k = e) (h2 : ∀ j, j ≠ k → ce M' j = ce M j) : (cz_wl n ce ad M).set k (ad k, e) = cz_wl n ce ad M' := by
  refine List.ext_getElem? fun j => ?_
  by_cases hj : j = k
  · subst hj
    by_cases hn : j < n
    · rw [List.getElem?_set_self (by simp [cz_wl, hn])]
      simp [cz_wl, hn, h1]
    · simp [cz_wl, hn]
  · rw [List.getElem?_set_ne (Ne.symm hj)]
    by_cases hn : j < n
    · simp [cz_wl, hn, h2 j hj]
    · simp [cz_wl, hn]
theorem cz_D {n : Nat} {ce : cz_M → Nat → va_E} {ad : Nat → Nat} {A : Nat → Prop} (hi : ∀ i j, i < n → j < n → ad i = ad j → i = j) (hA : ∀ i, i < n → A (ad i)) (M : cz_M) : va_D A (cz_wl n ce ad M) := by
  have key : ∀ (k : Nat) (q : Nat × va_E), (cz_wl n ce ad M)[k]? = some q → k < n ∧ q.1 = ad k := by
    intro k q h
    by_cases hk : k < n
    · simp [cz_wl, hk] at h
      exact ⟨hk, by rw [← h]⟩
    · simp [cz_wl, hk] at h
  refine ⟨fun i j x y hx hy hxy => ?_, fun k q h => ?_⟩
  · obtain ⟨a1, a2⟩ := key i x hx
    obtain ⟨b1, b2⟩ := key j y hy
    exact hi i j a1 b1 (a2.symm.trans (hxy.trans b2))
  · obtain ⟨a1, a2⟩ := key k q h
    rw [a2]
    exact hA k a1
/-! links between nest mates: facts of the tables that move along -/
def cz_isN : Cond → Bool
  | .fieldLinkNest .. => true
  | .methodLinkNest .. => true
  | _ => false
def cz_Nz (N : List Cond) (U : State) : Prop := ∀ w ∈ N, cz_isN w = true ∧ va_Nw w U
theorem cz_Nz.warm {N : List Cond} {s U : State} (hW : s.WarmedH U.vm) (h : cz_Nz N s) : cz_Nz N U := by
  intro w hw
  obtain ⟨h1, h2⟩ := h w hw
  refine ⟨h1, ?_⟩
  cases w <;> first | (simp [cz_isN] at h1; done) | exact va_Nw.warmF hW h2 | exact va_Nw.warmM hW h2
theorem cz_Nz.same {N : List Cond} {s U : State} (hv : s.vm = U.vm) (h : cz_Nz N s) : cz_Nz N U := by
  intro w hw
  obtain ⟨h1, h2⟩ := h w hw
  refine ⟨h1, ?_⟩
  cases w <;> first | (simp [cz_isN] at h1; done) | exact va_Nw.same rfl hv h2
theorem cz_Nz.use {N : List Cond} {s : State} (h : cz_Nz N s) {w : Cond} (hw : w ∈ N) {args : Array Value} : w.before args s = true := by
  obtain ⟨h1, h2⟩ := h w hw
  cases w <;> first | (simp [cz_isN] at h1; done) | exact va_Nw.use rfl h2
def cz_Pw (D : va_G) (cl : List vw_C) (tys : List (ClassId × FieldType)) (N : List Cond) (ws : va_W) (U : State) : Prop := va_P D cl ws U.heap ∧ va_K D cl tys U ∧ cz_Nz N U
def cz_Qw (D : va_G) (cl : List vw_C) (ret : Option Value) (ws : va_W) (A : Nat → Prop) : Array Value → State → Outcome → State → Prop := fun _ st oc t => (oc = .returned ret ∧ va_P D cl ws t.heap) ∧ va_F A st t
theorem cz_blind {D : va_G} {cl : List vw_C} {tys : List (ClassId × FieldType)} {N : List Cond} {ws : va_W} {av : List Value} : FrameBlind (va_Pc av (cz_Pw D cl tys N ws)) := by
  intro a U g mk h
  obtain ⟨h0, h1, h2, h3⟩ := h
  exact ⟨h0, h1, va_K.moved (u := U) (U := U.calling g mk a) (Vm.Alike.refl U.vm) h2, cz_Nz.same (s := U) (U := U.calling g mk a) rfl h3⟩
section CZ
variable {p : Program} {l : Launch} {e : Env} {R : Room} {s : State} {m : MethodId} {args : Array Value} {below : List Frame} {meth : Method} {c : Code} {H : Heap} {locs : List Loc} {cells slots : Nat} {Q : State → Prop}
variable {cc : ByteArray} {pc nL : Nat} {ls : Array Slot} {rest : List Value} {D : va_G} {cl : List vw_C} {A : Nat → Prop} {a : Nat} {tys : List (ClassId × FieldType)} {N Ts : List Cond} {own : String} {H0 : Heap} {wl : cz_M → va_W} {M : cz_M}
def cz_Cx (p : Program) (m : MethodId) (c : Code) (cc : ByteArray) (nL : Nat) (s : State) (args : Array Value) (Ts : List Cond) (own : String) (D : va_G) (cl : List vw_C) (tys : List (ClassId × FieldType)) (N : List Cond) (A : Nat → Prop) (wl : cz_M → va_W) : Prop :=
  CallFix p m c cc nL s args Ts own ∧ va_K D cl tys s ∧ cz_Nz N s ∧ ∀ M, va_D A (wl M)
theorem cz_Met {y : MethodName} {ws ws' : List Cond} {rm : Room} {maxL : Nat} {ret : Option FieldType} {av : List Value} {ws0 : va_W} {Qc : Array Value → State → Outcome → State → Prop} {mc ms : Nat} {free : Addr → Prop}
    (hy : plainName y.cls = true) (hw : ws = Cond.code y cc maxL ret :: ws') (hlen : (lg_sl av).length ≤ maxL) (hD : ∀ M, va_D A (wl M))
    (body : ∀ p e s m args below meth c, args = av.toArray → cz_Cx p m c cc maxL s args ws' y.cls D cl tys N A wl → meth.sig.returnType = ret → meth.locks = false → va_P D cl ws0 s.heap → ∀ ls : Array Slot, lv_has ls maxL (lv_args 0 av) →
      W p l e rm s m args below meth c s.heap [] 0 0 (MQ below Qc args s mc ms free) (F0 m 0 ls [])) : Met l y ws rm (va_Pc av (cz_Pw D cl tys N ws0)) Qc mc ms free := by
  refine Met.ofW hy hw ?_
  intro p e s m args below meth c s₁ B hml hv
  obtain ⟨ha, hP, hK, hN⟩ := hv
  have hl := lv_entry av (n := maxL) hlen
  have hts := atoms_spec (ws := ws) B.pre
  have h := body p e s m args below meth c ha ⟨⟨B.exec, B.bytes, hml, findClass_of_methodNamed B.named, fun w h => hts w (by rw [hw]; exact List.mem_cons_of_mem _ h)⟩, hK, hN, hD⟩ B.returns B.notSynchronized hP _ hl
  subst ha
  rw [lg_entry_eq]
  exact h
theorem cz_iret {v : Int32} {ret : Option Value} {ws1 : va_W} (S : cz_Cx p m c cc nL s args Ts own D cl tys N A wl) (hr : meth.sig.returnType = some .int) (hlocks : meth.locks = false) (hP : va_P D cl ws1 H) (hS : va_S A s.heap H locs) (hv : ret = some (.int v)) (hd : decode cc pc = .ok (.ireturn, 1)) :
    W p l e R s m args below meth c H locs 0 0 (MQ below (cz_Qw D cl ret ws1 A) args s 0 0 A) (F0 m pc ls [.int v]) :=
  W.iret S.1.1 S.1.2.1 hr (fun t ht _ => ⟨⟨by rw [hv], by rw [ht]; exact hP⟩, hS.F ht⟩) hS.2.2 hd hlocks
theorem cz_zret {v : Int32} {ret : Option Value} {ws1 : va_W} (S : cz_Cx p m c cc nL s args Ts own D cl tys N A wl) (hr : meth.sig.returnType = some .boolean) (hlocks : meth.locks = false) (hP : va_P D cl ws1 H) (hS : va_S A s.heap H locs) (hv : ret = some (.int v)) (hn : narrow .boolean (.int v) = .int v) (hd : decode cc pc = .ok (.ireturn, 1)) :
    W p l e R s m args below meth c H locs 0 0 (MQ below (cz_Qw D cl ret ws1 A) args s 0 0 A) (F0 m pc ls [.int v]) :=
  W.zret S.1.1 S.1.2.1 hr hn (fun t ht _ => ⟨⟨by rw [hv], by rw [ht]; exact hP⟩, hS.F ht⟩) hS.2.2 hd hlocks
theorem cz_vret {ret : Option Value} {ws1 : va_W} (S : cz_Cx p m c cc nL s args Ts own D cl tys N A wl) (hr : meth.sig.returnType = none) (hlocks : meth.locks = false) (hP : va_P D cl ws1 H) (hS : va_S A s.heap H locs) (hv : ret = none) (hd : decode cc pc = .ok (.return_, 1)) :
    W p l e R s m args below meth c H locs 0 0 (MQ below (cz_Qw D cl ret ws1 A) args s 0 0 A) (F0 m pc ls []) :=
  W.vret S.1.1 S.1.2.1 hr (fun t ht _ => ⟨⟨by rw [hv], by rw [ht]; exact hP⟩, hS.F ht⟩) hS.2.2 hd hlocks
theorem cz_ireth {v r : Int32} {M1 : cz_M} (S : cz_Cx p m c cc nL s args Ts own D cl tys N A wl) (hr : meth.sig.returnType = some .int) (hlocks : meth.locks = false) (hP : va_P D cl (wl M) H) (hS : va_S A s.heap H locs) (h : some (v, M) = some (r, M1)) (hd : decode cc pc = .ok (.ireturn, 1)) :
    W p l e R s m args below meth c H locs 0 0 (MQ below (cz_Qw D cl (some (.int r)) (wl M1) A) args s 0 0 A) (F0 m pc ls [.int v]) := by
  obtain ⟨e1, e2⟩ := cz_pair h
  subst e1
  subst e2
  exact cz_iret S hr hlocks hP hS rfl hd
theorem cz_zreth {v r : Int32} {M1 : cz_M} (S : cz_Cx p m c cc nL s args Ts own D cl tys N A wl) (hr : meth.sig.returnType = some .boolean) (hlocks : meth.locks = false) (hP : va_P D cl (wl M) H) (hS : va_S A s.heap H locs) (h : some (v, M) = some (r, M1)) (hn : narrow .boolean (.int v) = .int v) (hd : decode cc pc = .ok (.ireturn, 1)) :
    W p l e R s m args below meth c H locs 0 0 (MQ below (cz_Qw D cl (some (.int r)) (wl M1) A) args s 0 0 A) (F0 m pc ls [.int v]) := by
  obtain ⟨e1, e2⟩ := cz_pair h
  subst e1
  subst e2
  exact cz_zret S hr hlocks hP hS rfl hn hd
theorem cz_vreth {M1 : cz_M} (S : cz_Cx p m c cc nL s args Ts own D cl tys N A wl) (hr : meth.sig.returnType = none) (hlocks : meth.locks = false) (hP : va_P D cl (wl M) H) (hS : va_S A s.heap H locs) (h : some M = some M1) (hd : decode cc pc = .ok (.return_, 1)) :
    W p l e R s m args below meth c H locs 0 0 (MQ below (cz_Qw D cl none (wl M1) A) args s 0 0 A) (F0 m pc ls []) := by
  have e2 := cz_one h
  subst e2
  exact cz_vret S hr hlocks hP hS rfl hd
/-! fields -/
theorem cz_get (S : cz_Cx p m c cc nL s args Ts own D cl tys N A wl) (hP : va_P D cl (wl M) H) {ref C : String} {T : u_T} {Nf ci index k q : Nat} {fs : List Value} {v : Value} (hin : ∀ w ∈ u_ws C T Nf, w ∈ Ts) (he : (wl M)[q]? = some (a, .inr (ci, fs))) (hc : cl[ci]? = some (C, T, Nf)) (hk : k < Nf)
    (hl : Cond.fieldLink own index ref (T k).2.1 (T k).2.2.1 ∈ Ts) (hsame : (T k).1 = ref) (hv : fs[k]? = some v) (hd : decode cc pc = .ok (.getfield index, 3))
    (kk : W p l e R s m args below meth c H locs cells slots Q (F0 m (pc + 3) ls (v :: rest))) : W p l e R s m args below meth c H locs cells slots Q (F0 m pc ls (.ref a :: rest)) :=
  va_get S.1.1 S.1.2.1 S.1.2.2.2.2 hin S.1.2.2.2.1 S.2.1 hP q he hc k hk (S.1.2.2.2.2 _ hl) (fun _ h => hsame ▸ h) hv hd kk
theorem cz_getN (S : cz_Cx p m c cc nL s args Ts own D cl tys N A wl) (hP : va_P D cl (wl M) H) {ref C host : String} {T : u_T} {Nf ci index k q : Nat} {fs : List Value} {v : Value} (hin : ∀ w ∈ u_ws C T Nf, w ∈ Ts) (he : (wl M)[q]? = some (a, .inr (ci, fs))) (hc : cl[ci]? = some (C, T, Nf)) (hk : k < Nf)
    (hl : Cond.fieldLinkNest own index ref (T k).2.1 (T k).2.2.1 host ∈ N) (hsame : (T k).1 = ref) (hv : fs[k]? = some v) (hd : decode cc pc = .ok (.getfield index, 3))
    (kk : W p l e R s m args below meth c H locs cells slots Q (F0 m (pc + 3) ls (v :: rest))) : W p l e R s m args below meth c H locs cells slots Q (F0 m pc ls (.ref a :: rest)) :=
  va_getN S.1.1 S.1.2.1 S.1.2.2.2.2 hin S.1.2.2.2.1 S.2.1 hP q he hc k hk (S.2.2.1.use hl) (fun _ h => hsame ▸ h) hv hd kk
theorem cz_put (S : cz_Cx p m c cc nL s args Ts own D cl tys N A wl) (hP : va_P D cl (wl M) H) (hS : va_S A H0 H locs) {ref C : String} {T : u_T} {Nf ci index k q : Nat} {fs : List Value} {v : Int32} {M' : cz_M} (hin : ∀ w ∈ u_ws C T Nf, w ∈ Ts) (t0 : Nat → FieldType) (hty : ∀ k, k < Nf → parseFieldDescriptor (T k).2.2.1 = some (t0 k)) (hnm : ∀ a, a < Nf → ∀ b, b < Nf → a ≠ b → (T a).2.1 ≠ (T b).2.1)
    (he : (wl M)[q]? = some (a, .inr (ci, fs))) (hc : cl[ci]? = some (C, T, Nf)) (hk : k < Nf) (hl : Cond.fieldLink own index ref (T k).2.1 (T k).2.2.1 ∈ Ts) (hsame : (T k).1 = ref) (hfin : (T k).2.2.2 = false) (hd : parseFieldDescriptor (T k).2.2.1 = some .int) (hlen : k < fs.length) (hM : (wl M).set q (a, .inr (ci, fs.set k (.int v))) = wl M') (hdg : decode cc pc = .ok (.putfield index, 3))
    (kk : ∀ (H1 : Heap) (locs1 : List Loc), va_P D cl (wl M') H1 → va_S A H0 H1 locs1 → W p l e R s m args below meth c H1 locs1 cells slots Q (F0 m (pc + 3) ls rest)) : W p l e R s m args below meth c H locs cells slots Q (F0 m pc ls (.int v :: .ref a :: rest)) :=
  va_put S.1.1 S.1.2.1 S.1.2.2.2.2 hin t0 hty hnm S.1.2.2.2.1 S.2.1 hP (S.2.2.2 M) hS q he hc k hk (S.1.2.2.2.2 _ hl) (fun _ h => hsame ▸ h) hfin hd rfl rfl hlen hdg (fun H1 locs1 hP1 _ hS1 => kk H1 locs1 (hM ▸ hP1) hS1)
theorem cz_putN (S : cz_Cx p m c cc nL s args Ts own D cl tys N A wl) (hP : va_P D cl (wl M) H) (hS : va_S A H0 H locs) {ref C host : String} {T : u_T} {Nf ci index k q : Nat} {fs : List Value} {v : Int32} {M' : cz_M} (hin : ∀ w ∈ u_ws C T Nf, w ∈ Ts) (t0 : Nat → FieldType) (hty : ∀ k, k < Nf → parseFieldDescriptor (T k).2.2.1 = some (t0 k)) (hnm : ∀ a, a < Nf → ∀ b, b < Nf → a ≠ b → (T a).2.1 ≠ (T b).2.1)
    (he : (wl M)[q]? = some (a, .inr (ci, fs))) (hc : cl[ci]? = some (C, T, Nf)) (hk : k < Nf) (hl : Cond.fieldLinkNest own index ref (T k).2.1 (T k).2.2.1 host ∈ N) (hsame : (T k).1 = ref) (hfin : (T k).2.2.2 = false) (hd : parseFieldDescriptor (T k).2.2.1 = some .int) (hlen : k < fs.length) (hM : (wl M).set q (a, .inr (ci, fs.set k (.int v))) = wl M') (hdg : decode cc pc = .ok (.putfield index, 3))
    (kk : ∀ (H1 : Heap) (locs1 : List Loc), va_P D cl (wl M') H1 → va_S A H0 H1 locs1 → W p l e R s m args below meth c H1 locs1 cells slots Q (F0 m (pc + 3) ls rest)) : W p l e R s m args below meth c H locs cells slots Q (F0 m pc ls (.int v :: .ref a :: rest)) :=
  va_putN S.1.1 S.1.2.1 S.1.2.2.2.2 hin t0 hty hnm S.1.2.2.2.1 S.2.1 hP (S.2.2.2 M) hS q he hc k hk (S.2.2.1.use hl) (fun _ h => hsame ▸ h) hfin hd rfl rfl hlen hdg (fun H1 locs1 hP1 _ hS1 => kk H1 locs1 (hM ▸ hP1) hS1)
/-! arrays -/
theorem cz_iald (S : cz_Cx p m c cc nL s args Ts own D cl tys N A wl) (hP : va_P D cl (wl M) H) {q t0 n : Nat} {cA : ClassId} {f : Nat → Int32} (ha : (wl M)[q]? = some (a, .inl (cA, n, .inl f))) (ht : tys[t0]? = some (cA, .int)) {i : Int32} (hin : ¬ (i < 0 ∨ n ≤ i.toNatClampNeg)) (hd : decode cc pc = .ok (.iaload, 1))
    (kk : W p l e R s m args below meth c H locs cells slots Q (F0 m (pc + 1) ls (.int (f i.toNatClampNeg) :: rest))) : W p l e R s m args below meth c H locs cells slots Q (F0 m pc ls (.int i :: .ref a :: rest)) :=
  va_iald S.1.1 S.1.2.1 S.2.1 hP q t0 ha ht hin hd kk
theorem cz_zald (S : cz_Cx p m c cc nL s args Ts own D cl tys N A wl) (hP : va_P D cl (wl M) H) {q t0 n : Nat} {cA : ClassId} {f : Nat → Int32} (ha : (wl M)[q]? = some (a, .inl (cA, n, .inl f))) (ht : tys[t0]? = some (cA, .boolean)) {i : Int32} (hin : ¬ (i < 0 ∨ n ≤ i.toNatClampNeg)) (hd : decode cc pc = .ok (.baload, 1))
    (kk : W p l e R s m args below meth c H locs cells slots Q (F0 m (pc + 1) ls (.int (f i.toNatClampNeg) :: rest))) : W p l e R s m args below meth c H locs cells slots Q (F0 m pc ls (.int i :: .ref a :: rest)) :=
  va_zald S.1.1 S.1.2.1 S.2.1 hP q t0 ha ht hin hd kk
theorem cz_alen (S : cz_Cx p m c cc nL s args Ts own D cl tys N A wl) (hP : va_P D cl (wl M) H) {q t0 n : Nat} {cA : ClassId} {f : Nat → Int32} (ha : (wl M)[q]? = some (a, .inl (cA, n, .inl f))) {ty : FieldType} (ht : tys[t0]? = some (cA, ty)) (hd : decode cc pc = .ok (.arraylength, 1))
    (kk : W p l e R s m args below meth c H locs cells slots Q (F0 m (pc + 1) ls (.int (Int32.ofNat n) :: rest))) : W p l e R s m args below meth c H locs cells slots Q (F0 m pc ls (.ref a :: rest)) :=
  va_alen S.1.1 S.1.2.1 S.2.1 hP q t0 ha ht rfl hd kk
theorem cz_iast (S : cz_Cx p m c cc nL s args Ts own D cl tys N A wl) (hP : va_P D cl (wl M) H) (hS : va_S A H0 H locs) {q t0 n : Nat} {cA : ClassId} {f : Nat → Int32} {M' : cz_M} {i x : Int32} (ha : (wl M)[q]? = some (a, .inl (cA, n, .inl f))) (ht : tys[t0]? = some (cA, .int)) (hM : (wl M).set q (a, .inl (cA, n, .inl (upd f i.toNatClampNeg x))) = wl M') (hin : ¬ (i < 0 ∨ n ≤ i.toNatClampNeg)) (hd : decode cc pc = .ok (.iastore, 1))
    (kk : ∀ (H1 : Heap) (locs1 : List Loc), va_P D cl (wl M') H1 → va_S A H0 H1 locs1 → W p l e R s m args below meth c H1 locs1 cells slots Q (F0 m (pc + 1) ls rest)) : W p l e R s m args below meth c H locs cells slots Q (F0 m pc ls (.int x :: .int i :: .ref a :: rest)) :=
  va_iast S.1.1 S.1.2.1 S.2.1 hP (S.2.2.2 M) hS q t0 ha ht hin hd (fun H1 locs1 hP1 _ hS1 => kk H1 locs1 (hM ▸ hP1) hS1)
theorem cz_zast (S : cz_Cx p m c cc nL s args Ts own D cl tys N A wl) (hP : va_P D cl (wl M) H) (hS : va_S A H0 H locs) {q t0 n : Nat} {cA : ClassId} {f : Nat → Int32} {M' : cz_M} {i x : Int32} (ha : (wl M)[q]? = some (a, .inl (cA, n, .inl f))) (ht : tys[t0]? = some (cA, .boolean)) (hM : (wl M).set q (a, .inl (cA, n, .inl (upd f i.toNatClampNeg (vp_nar .boolean x)))) = wl M') (hin : ¬ (i < 0 ∨ n ≤ i.toNatClampNeg)) (hd : decode cc pc = .ok (.bastore, 1))
    (kk : ∀ (H1 : Heap) (locs1 : List Loc), va_P D cl (wl M') H1 → va_S A H0 H1 locs1 → W p l e R s m args below meth c H1 locs1 cells slots Q (F0 m (pc + 1) ls rest)) : W p l e R s m args below meth c H locs cells slots Q (F0 m pc ls (.int x :: .int i :: .ref a :: rest)) :=
  va_zast S.1.1 S.1.2.1 S.2.1 hP (S.2.2.2 M) hS q t0 ha ht hin hd (fun H1 locs1 hP1 _ hS1 => kk H1 locs1 (hM ▸ hP1) hS1)
/-- a reference out of an array of references (objects or rows) -/
theorem cz_aald (S : cz_Cx p m c cc nL s args Ts own D cl tys N A wl) (hP : va_P D cl (wl M) H) {q t0 n : Nat} {cA : ClassId} {ty : FieldType} {f : Nat → Nat} (ha : (wl M)[q]? = some (a, .inl (cA, n, .inr (.inr (.inr (.inr (fun j => some (f j)))))))) (ht : tys[t0]? = some (cA, ty)) (hty : ty.isReference = true) {i : Int32} (hin : ¬ (i < 0 ∨ n ≤ i.toNatClampNeg)) (hd : decode cc pc = .ok (.aaload, 1))
    (kk : W p l e R s m args below meth c H locs cells slots Q (F0 m (pc + 1) ls (.ref (f i.toNatClampNeg) :: rest))) : W p l e R s m args below meth c H locs cells slots Q (F0 m pc ls (.int i :: .ref a :: rest)) := by
  have hlt : i.toNatClampNeg < n := Nat.not_le.mp fun q => hin (Or.inr q)
  exact W.aald (v := .ref (f i.toNatClampNeg)) (ty := ty) S.1.1 S.1.2.1 (hP q _ ha) ((S.2.1.2 t0 _ ht).1 n (fun j => .ref (f j))) hty (fun q => by cases q) (by show ¬ (i < 0 ∨ (arrV _ _ _).slots.size ≤ _); rw [arrV_size]; exact hin) (by show (arrV _ _ _).slots[_]? = _; rw [arrV_read _ _ hlt]; rfl) rfl rfl hd kk
theorem cz_aast (S : cz_Cx p m c cc nL s args Ts own D cl tys N A wl) (hP : va_P D cl (wl M) H) (hS : va_S A H0 H locs) {q t0 qk ci n v : Nat} {cA : ClassId} {r : vw_C} {vs : List Value} {f : Nat → Option Nat} {M' : cz_M} {i : Int32} (ha : (wl M)[q]? = some (a, .inl (cA, n, .inr (.inr (.inr (.inr f)))))) (ht : tys[t0]? = some (cA, .object r.1)) (hv : (wl M)[qk]? = some (v, .inr (ci, vs))) (hc : cl[ci]? = some r) (hM : (wl M).set q (a, .inl (cA, n, .inr (.inr (.inr (.inr (va_up f i.toNatClampNeg (some v))))))) = wl M') (hin : ¬ (i < 0 ∨ n ≤ i.toNatClampNeg)) (hd : decode cc pc = .ok (.aastore, 1))
    (kk : ∀ (H1 : Heap) (locs1 : List Loc), va_P D cl (wl M') H1 → va_S A H0 H1 locs1 → W p l e R s m args below meth c H1 locs1 cells slots Q (F0 m (pc + 1) ls rest)) : W p l e R s m args below meth c H locs cells slots Q (F0 m pc ls (.ref v :: .int i :: .ref a :: rest)) :=
  va_astq S.1.1 S.1.2.1 S.2.1 hP (S.2.2.2 M) hS q t0 qk ci ha ht hv hc hin hd (fun H1 locs1 hP1 _ hS1 => kk H1 locs1 (hM ▸ hP1) hS1)
theorem cz_copy (S : cz_Cx p m c cc nL s args Ts own D cl tys N A wl) (hsz : ls.size = nL) (hP : va_P D cl (wl M) H) (hS : va_S A H0 H locs) {index q0 q1 t0 n0 n1 a0 : Nat} {cA : ClassId} {f g : Nat → Int32} {M' : cz_M} {sp dp n : Int32} (hl : Cond.methodLink own index arraycopyName ∈ Ts) (hnat : Cond.native arraycopyName ∈ Ts) (hstat : Cond.static arraycopyName ∈ Ts) (hini : Cond.initialized "java/lang/System" ∈ Ts)
    (ha0 : (wl M)[q0]? = some (a0, .inl (cA, n0, .inl f))) (ha1 : (wl M)[q1]? = some (a, .inl (cA, n1, .inl g))) (ht : tys[t0]? = some (cA, .int))
    (hM : (wl M).set q1 (a, .inl (cA, n1, .inl (va_cpy f g sp.toNatClampNeg dp.toNatClampNeg n.toNatClampNeg))) = wl M') (hin : ¬ (sp < 0 ∨ dp < 0 ∨ n < 0 ∨ n0 < sp.toNatClampNeg + n.toNatClampNeg ∨ n1 < dp.toNatClampNeg + n.toNatClampNeg))
    (hframes : 1 ≤ R.frames) (hlocals : (rest.map fun v => v.category).sum + (nativeFrameWords "java/lang/System" "arraycopy" 5 + 11) ≤ R.locals) (hd : decode cc pc = .ok (.invokestatic index, 3))
    (kk : ∀ (H1 : Heap) (locs1 : List Loc), va_P D cl (wl M') H1 → va_S A H0 H1 locs1 → W p l e R s m args below meth c H1 locs1 cells slots Q (F0 m (pc + 3) ls rest)) : W p l e R s m args below meth c H locs cells slots Q (F0 m pc ls (.int n :: .int dp :: .ref a :: .int sp :: .ref a0 :: rest)) := by
  have hin' : ¬ sp < 0 ∧ ¬ dp < 0 ∧ ¬ n < 0 ∧ sp.toNatClampNeg + n.toNatClampNeg ≤ n0 ∧ dp.toNatClampNeg + n.toNatClampNeg ≤ n1 := by
    simp only [not_or, Nat.not_lt] at hin
    exact hin
  obtain ⟨h1, h2, h3, h4, h5⟩ := hin'
  exact va_copyi S.1.1 S.1.2.1 (by rw [hsz]; exact S.1.2.2.1) S.1.2.2.2.1 (S.1.2.2.2.2 _ hl) (S.1.2.2.2.2 _ hnat) (S.1.2.2.2.2 _ hstat) (S.1.2.2.2.2 _ hini) S.2.1 hP (S.2.2.2 M) hS q0 q1 t0 t0 ha0 ha1 ht ht rfl h1 h2 h3 h4 h5 (fun _ _ => rfl) hframes hlocals hd (fun H1 locs1 hP1 _ hS1 => kk H1 locs1 (hM ▸ hP1) hS1)
/-! calls -/
theorem cz_call {ret : Option Value} {ws1 : va_W} {av : Array Value} {st0 : List Value} (hr : va_Run p l e R s m args below meth c H locs cells slots 0 0 (F0 m pc ls st0) rest (cz_Qw D cl ret ws1 A av) A) (hS : va_S A H0 H locs)
    (kk : ∀ (H1 : Heap) (locs1 : List Loc), va_P D cl ws1 H1 → va_S A H0 H1 locs1 → W p l e R s m args below meth c H1 locs1 cells slots Q (F0 m (pc + 3) ls (ret.toList ++ rest))) : W p l e R s m args below meth c H locs cells slots Q (F0 m pc ls st0) := by
  intro T hT X
  obtain ⟨v, st₀, t, T', L, h0, X', hL, e1, e2, ⟨⟨hv, hp⟩, hz, hk⟩, st⟩ := hr T hT X
  cases hv
  rw [h0] at hz hk
  obtain ⟨t2, a1, b1⟩ := kk T'.heap (locs ++ L) (by rw [e1]; exact hp)
    ⟨Nat.le_trans hS.1 (by rw [e1]; exact hz), fun q h1 h2 => by rw [e1, hk q (Nat.lt_of_lt_of_le h1 hS.1) h2]; exact hS.2.1 q h1 h2, fun q hq => by
      rcases List.mem_append.mp hq with h | h
      · exact hS.2.2 q h
      · exact hL q h⟩ T' rfl X'
  exact ⟨t2, st t2 a1, b1⟩
theorem cz_preS {av : List Value} {ws0 : va_W} (S : cz_Cx p m c cc nL s args Ts own D cl tys N A wl) (hP : va_P D cl ws0 H) : PreS s H (va_Pc av (cz_Pw D cl tys N ws0)) av :=
  ⟨cz_blind, fun U hU hW => ⟨rfl, by rw [hU]; exact hP, va_K.moved hW.alike S.2.1, cz_Nz.warm hW S.2.2.1⟩⟩
theorem cz_preV {As : List Value} {ws0 : va_W} {q ci : Nat} {fs : List Value} {r : vw_C} {b : Nat} (S : cz_Cx p m c cc nL s args Ts own D cl tys N A wl) (hP : va_P D cl ws0 H) (he : ws0[q]? = some (b, .inr (ci, fs))) (hc : cl[ci]? = some r) : PreV s H r.1 b (va_Pc (.ref b :: As) (cz_Pw D cl tys N ws0)) As :=
  ⟨cz_blind, va_recv S.2.1 hP hc he, fun U hU hW => ⟨rfl, by rw [hU]; exact hP, va_K.moved hW.alike S.2.1, cz_Nz.warm hW S.2.2.1⟩⟩
variable {y : MethodName} {bytes : ByteArray} {maxL n index : Nat} {rt : Option FieldType} {ws : List Cond} {rm : Room} {ret : Option Value} {ws0 ws1 : va_W} {As : List Value}
theorem cz_good (hG : ∀ w ∈ Ts, goodWord w = true) (hc : Cond.code y bytes maxL rt ∈ Ts) : GoodIn Ts (Cond.code y bytes maxL rt :: Ts) := by
  intro w hw
  rcases List.mem_cons.mp hw with h | h
  · rw [h]
    exact ⟨hc, good_of_word (hG _ hc)⟩
  · exact ⟨h, good_of_word (hG _ h)⟩
/-- what a call needs of y: proved once a method -/
def cz_Y (Ts : List Cond) (y : MethodName) (bytes : ByteArray) (maxL : Nat) (rt : Option FieldType) (n : Nat) : Prop :=
  (∀ w ∈ Ts, goodWord w = true) ∧ Cond.code y bytes maxL rt ∈ Ts ∧ Cond.initialized y.cls ∈ Ts ∧ (y.cls ≠ "java/lang/invoke/MethodHandle" ∧ y.cls ≠ "java/lang/invoke/VarHandle" ∧ (parseMethodDescriptor y.desc).map (fun d => d.parameters.length) = some n)
theorem cz_CB (S : cz_Cx p m c cc nL s args Ts own D cl tys N A wl) (hY : cz_Y Ts y bytes maxL rt n) (hl : Cond.methodLink own index y ∈ Ts) (hrc : rm.cells = 0) (hrs : rm.slots = 0) (hR : rm.frames + 1 ≤ R.frames ∧ 8 + (maxL + 11) + rm.locals ≤ R.locals) : CallB R s args own index y bytes maxL rt (Cond.code y bytes maxL rt :: Ts) rm 0 0 n :=
  callB_of n S.1.2.2.2.2 (cz_good hY.1 hY.2.1) rfl hrc hrs (S.1.2.2.2.2 _ hY.2.2.1) (S.1.2.2.2.2 _ hl) hY.2.2.2 hR
theorem cz_CN {host : String} (S : cz_Cx p m c cc nL s args Ts own D cl tys N A wl) (hY : cz_Y Ts y bytes maxL rt n) (hl : Cond.methodLinkNest own index y host ∈ N) (hrc : rm.cells = 0) (hrs : rm.slots = 0) (hR : rm.frames + 1 ≤ R.frames ∧ 8 + (maxL + 11) + rm.locals ≤ R.locals) : va_CN R s args own index y host bytes maxL rt (Cond.code y bytes maxL rt :: Ts) rm 0 0 n :=
  va_cnB n S.1.2.2.2.2 (cz_good hY.1 hY.2.1) rfl hrc hrs (S.2.2.1 _ hl).2 (S.1.2.2.2.2 _ hY.2.2.1) hY.2.2.2 hR
/-- a method of the same class, or a public one -/
theorem cz_V {q ci b : Nat} {fs : List Value} {r : vw_C} (S : cz_Cx p m c cc nL s args Ts own D cl tys N A wl) (hsz : ls.size = nL) (hP : va_P D cl ws0 H) (hS : va_S A H0 H locs) (hM : Met l y (Cond.code y bytes maxL rt :: Ts) rm (va_Pc (.ref b :: As) (cz_Pw D cl tys N ws0)) (cz_Qw D cl ret ws1 A) 0 0 A)
    (hY : cz_Y Ts y bytes maxL rt n) (hl : Cond.methodLink own index y ∈ Ts) (hi : Cond.instanceMethod y ∈ Ts) (hse : Cond.selects r.1 y y ∈ Ts) (hrc : rm.cells = 0) (hrs : rm.slots = 0) (hR : rm.frames + 1 ≤ R.frames ∧ 8 + (maxL + 11) + rm.locals ≤ R.locals) (he : ws0[q]? = some (b, .inr (ci, fs))) (hc : cl[ci]? = some r)
    (hn : As.length = n) (hrest : (rest.map fun v => v.category).sum ≤ 8) (hcs : cells ≤ R.cells ∧ slots ≤ R.slots) {st0 : List Value} (hst : st0 = As.reverse ++ .ref b :: rest) (hd : decode cc pc = .ok (.invokevirtual index, 3))
    (kk : ∀ (H1 : Heap) (locs1 : List Loc), va_P D cl ws1 H1 → va_S A H0 H1 locs1 → W p l e R s m args below meth c H1 locs1 cells slots Q (F0 m (pc + 3) ls (ret.toList ++ rest))) : W p l e R s m args below meth c H locs cells slots Q (F0 m pc ls st0) :=
  cz_call (va_runV S.1 hM ⟨cz_CB S hY hl hrc hrs hR, S.1.2.2.2.2 _ hi, S.1.2.2.2.2 _ hse⟩ (cz_preV S hP he hc) rfl hn hsz hst (lv_room hrest) hd hcs) hS kk
theorem cz_VN {q ci b : Nat} {fs : List Value} {r : vw_C} {host : String} (S : cz_Cx p m c cc nL s args Ts own D cl tys N A wl) (hsz : ls.size = nL) (hP : va_P D cl ws0 H) (hS : va_S A H0 H locs) (hM : Met l y (Cond.code y bytes maxL rt :: Ts) rm (va_Pc (.ref b :: As) (cz_Pw D cl tys N ws0)) (cz_Qw D cl ret ws1 A) 0 0 A)
    (hY : cz_Y Ts y bytes maxL rt n) (hl : Cond.methodLinkNest own index y host ∈ N) (hi : Cond.instanceMethod y ∈ Ts) (hse : Cond.selects r.1 y y ∈ Ts) (hrc : rm.cells = 0) (hrs : rm.slots = 0) (hR : rm.frames + 1 ≤ R.frames ∧ 8 + (maxL + 11) + rm.locals ≤ R.locals) (he : ws0[q]? = some (b, .inr (ci, fs))) (hc : cl[ci]? = some r)
    (hn : As.length = n) (hrest : (rest.map fun v => v.category).sum ≤ 8) (hcs : cells ≤ R.cells ∧ slots ≤ R.slots) {st0 : List Value} (hst : st0 = As.reverse ++ .ref b :: rest) (hd : decode cc pc = .ok (.invokevirtual index, 3))
    (kk : ∀ (H1 : Heap) (locs1 : List Loc), va_P D cl ws1 H1 → va_S A H0 H1 locs1 → W p l e R s m args below meth c H1 locs1 cells slots Q (F0 m (pc + 3) ls (ret.toList ++ rest))) : W p l e R s m args below meth c H locs cells slots Q (F0 m pc ls st0) :=
  cz_call (va_runVN S.1 hM ⟨cz_CN S hY hl hrc hrs hR, S.1.2.2.2.2 _ hi, S.1.2.2.2.2 _ hse⟩ (cz_preV S hP he hc) rfl hn hsz hst (lv_room hrest) hd hcs) hS kk
theorem cz_S (S : cz_Cx p m c cc nL s args Ts own D cl tys N A wl) (hsz : ls.size = nL) (hP : va_P D cl ws0 H) (hS : va_S A H0 H locs) (hM : Met l y (Cond.code y bytes maxL rt :: Ts) rm (va_Pc As (cz_Pw D cl tys N ws0)) (cz_Qw D cl ret ws1 A) 0 0 A)
    (hY : cz_Y Ts y bytes maxL rt n) (hl : Cond.methodLink own index y ∈ Ts) (hi : Cond.static y ∈ Ts) (hrc : rm.cells = 0) (hrs : rm.slots = 0) (hR : rm.frames + 1 ≤ R.frames ∧ 8 + (maxL + 11) + rm.locals ≤ R.locals)
    (hn : As.length = n) (hrest : (rest.map fun v => v.category).sum ≤ 8) (hcs : cells ≤ R.cells ∧ slots ≤ R.slots) {st0 : List Value} (hst : st0 = As.reverse ++ rest) (hd : decode cc pc = .ok (.invokestatic index, 3))
    (kk : ∀ (H1 : Heap) (locs1 : List Loc), va_P D cl ws1 H1 → va_S A H0 H1 locs1 → W p l e R s m args below meth c H1 locs1 cells slots Q (F0 m (pc + 3) ls (ret.toList ++ rest))) : W p l e R s m args below meth c H locs cells slots Q (F0 m pc ls st0) :=
  cz_call (va_runS S.1 hM ⟨cz_CB S hY hl hrc hrs hR, S.1.2.2.2.2 _ hi⟩ (cz_preS S hP) rfl hn hsz hst (lv_room hrest) hd hcs) hS kk
theorem cz_SN {host : String} (S : cz_Cx p m c cc nL s args Ts own D cl tys N A wl) (hsz : ls.size = nL) (hP : va_P D cl ws0 H) (hS : va_S A H0 H locs) (hM : Met l y (Cond.code y bytes maxL rt :: Ts) rm (va_Pc As (cz_Pw D cl tys N ws0)) (cz_Qw D cl ret ws1 A) 0 0 A)
    (hY : cz_Y Ts y bytes maxL rt n) (hl : Cond.methodLinkNest own index y host ∈ N) (hi : Cond.static y ∈ Ts) (hrc : rm.cells = 0) (hrs : rm.slots = 0) (hR : rm.frames + 1 ≤ R.frames ∧ 8 + (maxL + 11) + rm.locals ≤ R.locals)
    (hn : As.length = n) (hrest : (rest.map fun v => v.category).sum ≤ 8) (hcs : cells ≤ R.cells ∧ slots ≤ R.slots) {st0 : List Value} (hst : st0 = As.reverse ++ rest) (hd : decode cc pc = .ok (.invokestatic index, 3))
    (kk : ∀ (H1 : Heap) (locs1 : List Loc), va_P D cl ws1 H1 → va_S A H0 H1 locs1 → W p l e R s m args below meth c H1 locs1 cells slots Q (F0 m (pc + 3) ls (ret.toList ++ rest))) : W p l e R s m args below meth c H locs cells slots Q (F0 m pc ls st0) :=
  cz_call (va_runSN S.1 hM ⟨cz_CN S hY hl hrc hrs hR, S.1.2.2.2.2 _ hi, trivial⟩ (cz_preS S hP) rfl hn hsz hst (lv_room hrest) hd hcs) hS kk
end CZ
def cz_T : List Cond := lw_tbl.filter goodWord
def cz_N : List Cond := lw_tbl.filter cz_isN
theorem cz_goodT : ∀ w ∈ cz_T, goodWord w = true := fun _ h => (List.mem_filter.mp h).2
