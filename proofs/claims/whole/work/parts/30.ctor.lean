/-! Constructors: a world that grows at its front. -/
theorem ct_Diff {A : Nat → Prop} {ws : va_W} : va_D A ws ↔ (ws.map (fun q => q.1)).Nodup ∧ ∀ q ∈ ws, A q.1 := by
  constructor
  · intro h
    obtain ⟨h1, h2⟩ := h
    refine ⟨?_, fun q hq => ?_⟩
    · rw [List.Nodup, List.pairwise_iff_getElem]
      intro i j hi hj hij he
      rw [List.length_map] at hi hj
      have := h1 i j ws[i] ws[j] (List.getElem?_eq_getElem hi) (List.getElem?_eq_getElem hj) (by simpa using he)
      omega
    · obtain ⟨i, hi⟩ := List.getElem?_of_mem hq
      exact h2 i q hi
  · intro h
    obtain ⟨h1, h2⟩ := h
    refine ⟨fun i j p q hp hq he => ?_, fun k q hk => h2 q (List.mem_of_getElem? hk)⟩
    rw [List.Nodup, List.pairwise_iff_getElem] at h1
    obtain ⟨hi, ei⟩ := List.getElem?_eq_some_iff.mp hp
    obtain ⟨hj, ej⟩ := List.getElem?_eq_some_iff.mp hq
    rcases Nat.lt_trichotomy i j with h | h | h
    · exact (h1 i j (by simpa using hi) (by simpa using hj) h (by simp [ei, ej, he])).elim
    · exact h
    · exact (h1 j i (by simpa using hj) (by simpa using hi) h (by simp [ei, ej, he])).elim
theorem ct_P {D : va_G} {cl : List vw_C} {ws ws' : va_W} {H : Heap} (h : va_P D cl ws H) (hp : List.Perm ws' ws) : va_P D cl ws' H := by
  intro k q hk
  obtain ⟨i, hi⟩ := List.getElem?_of_mem (hp.mem_iff.mp (List.mem_of_getElem? hk))
  exact h i q hi
theorem ct_D {A : Nat → Prop} {ws ws' : va_W} (h : va_D A ws) (hp : List.Perm ws' ws) : va_D A ws' := by
  rw [ct_Diff] at h ⊢
  exact ⟨(hp.map _).nodup_iff.mpr h.1, fun q hq => h.2 q (hp.mem_iff.mp hq)⟩
def ct_Q (D : va_G) (cl : List vw_C) (P : va_W → Prop) (A : Nat → Prop) : Array Value → State → Outcome → State → Prop := fun _ st oc t => (oc = .returned none ∧ ∃ w1 : va_W, P w1 ∧ va_P D cl w1 t.heap ∧ va_D A w1) ∧ va_F A st t
theorem ct_same {D : va_G} {cl : List vw_C} {tys : List (ClassId × FieldType)} {s : State} {c1 c2 : ClassId} {i j : Nat} {ty : FieldType} (hK : va_K D cl tys s) (h1 : tys[i]? = some (c1, ty)) (h2 : tys[j]? = some (c2, ty)) : c1 = c2 := by
  have a := (hK.2 i _ h1).2
  have b := (hK.2 j _ h2).2
  cases ty with
  | object C =>
    obtain ⟨_, _, _, _, _, a⟩ := a
    obtain ⟨_, _, _, _, _, b⟩ := b
    exact Option.some.inj (a.symm.trans b)
  | _ => exact Option.some.inj (a.symm.trans b)
theorem ct_arrV {c : ClassId} {n : Nat} {f g : Nat → Value} (h : ∀ j, j < n → f j = g j) : arrV c n f = arrV c n g := by
  unfold arrV
  congr 1
  exact congrArg Array.ofFn (funext fun j => h j.val j.isLt)
theorem ct_outer (c : ClassId) (n h0 : Nat) : ∀ i : Nat, Jvm.Free.Multi.outerC c n h0 i = arrV c n (fun j => va_rf (if j < i then some (h0 + 1 + j) else none))
  | 0 => arrV_new c n .null
  | i + 1 => by
    show (Jvm.Free.Multi.outerC c n h0 i).setSlot i (.ref (h0 + 1 + i)) = _
    rw [ct_outer c n h0 i, arrV_store]
    refine ct_arrV (fun j _ => ?_)
    unfold updV
    by_cases e : j = i
    · rw [if_pos e, if_pos (by omega), e]
      rfl
    · rw [if_neg e]
      show va_rf (if j < i then some (h0 + 1 + j) else none) = _
      by_cases h : j < i
      · rw [if_pos h, if_pos (by omega)]
      · rw [if_neg h, if_neg (by omega)]
/-- the classes of arrays over classes and rows, as the tables have them -/
def ct_AO (U : State) : Prop := va_AO "ChainPeers$Bytes" U ∧ va_AO "ChainPeers$Peer" U ∧ (Cond.arrayOver (.array .int)).before #[] U = true
theorem ct_AO.moved {u U : State} (hvm : u.vm.Alike U.vm) (h : ct_AO u) : ct_AO U := ⟨h.1.moved hvm, h.2.1.moved hvm, Jvm.Stand.arrayOver_alikeB hvm h.2.2⟩
section CT
variable {p : Program} {l : Launch} {e : Env} {R : Room} {s : State} {m : MethodId} {args : Array Value} {below : List Frame} {meth : Method} {c : Code} {H : Heap} {locs : List Loc} {cells slots : Nat} {Q : State → Prop}
variable {cc : ByteArray} {pc nL : Nat} {ls : Array Slot} {rest : List Value} {D : va_G} {cl : List vw_C} {A A9 : Nat → Prop} {a : Nat} {tys : List (ClassId × FieldType)} {N Ts : List Cond} {own : String} {H0 : Heap} {wl : cz_M → va_W} {ws : va_W}
theorem ct_Met {y : MethodName} {rm : Room} {maxL : Nat} {av : List Value} {ws0 : va_W} {mc ms h0 : Nat} {P : va_W → Prop} (hy : plainName y.cls = true) (hlen : (lg_sl av).length ≤ maxL)
    (body : ∀ p e s m args below meth c, args = av.toArray → cz_Cx p m c cc maxL s args Ts y.cls D cl tys N (fun _ => True) (fun _ => []) → meth.sig.returnType = none → meth.locks = false → meth.name = y.name → ct_AO s → va_P D cl ws0 s.heap → ∀ ls : Array Slot, lv_has ls maxL (lv_args 0 av) →
      W p l e rm s m args below meth c s.heap [] 0 0 (MQ below (ct_Q D cl P (fun q => q = h0 ∨ s.heap.size ≤ q)) args s mc ms (fun q => q = h0 ∨ s.heap.size ≤ q)) (F0 m 0 ls [])) :
    ∀ sz, Met l y (Cond.code y cc maxL none :: Ts) rm (va_Pc av (fun U => U.heap.size = sz ∧ ct_AO U ∧ cz_Pw D cl tys N ws0 U)) (ct_Q D cl P (fun q => q = h0 ∨ sz ≤ q)) mc ms (fun q => q = h0 ∨ sz ≤ q) := by
  intro sz
  refine Met.ofW hy rfl ?_
  intro p e s m args below meth c s₁ B hml hv
  obtain ⟨ha, hsz, hO, hP, hK, hN⟩ := hv
  have hl := lv_entry av (n := maxL) hlen
  have hts := atoms_spec (ws := Cond.code y cc maxL none :: Ts) B.pre
  have hin : meth.name = y.name := (name_of_methodNamed B.named B.method).1
  have h := body p e s m args below meth c ha ⟨⟨B.exec, B.bytes, hml, findClass_of_methodNamed B.named, fun w h => hts w (List.mem_cons_of_mem _ h)⟩, hK, hN, fun _ => ⟨fun i j p q hp => by simp at hp, fun k q hk => by simp at hk⟩⟩ B.returns B.notSynchronized hin hO hP _ hl
  subst ha
  subst hsz
  rw [lg_entry_eq]
  exact h
theorem ct_ret {P : va_W → Prop} {w1 : va_W} {mc ms : Nat} (S : cz_Cx p m c cc nL s args Ts own D cl tys N A9 wl) (hr : meth.sig.returnType = none) (hlocks : meth.locks = false) (hP : va_P D cl w1 H) (hD : va_D A w1) (hS : va_S A s.heap H locs) (hw : P w1) (hd : decode cc pc = .ok (.return_, 1)) :
    W p l e R s m args below meth c H locs mc ms (MQ below (ct_Q D cl P A) args s mc ms A) (F0 m pc ls []) :=
  W.vret S.1.1 S.1.2.1 hr (fun t ht _ => ⟨⟨rfl, w1, hw, by rw [ht]; exact hP, hD⟩, hS.F ht⟩) hS.2.2 hd hlocks
theorem ct_obj (S : cz_Cx p m c cc nL s args Ts own D cl tys N A9 wl) (hsz : ls.size = nL) {index : Nat} (hl : Cond.methodLink own index objectInit ∈ Ts) (hi : Cond.instanceMethod objectInit ∈ Ts) (hc : Cond.code objectInit ⟨#[0xb1]⟩ 1 none ∈ Ts) (hf : 1 ≤ R.frames) (hlo : (rest.map fun v => v.category).sum + 12 ≤ R.locals) (hd : decode cc pc = .ok (.invokespecial index, 3))
    (kk : W p l e R s m args below meth c H locs cells slots Q (F0 m (pc + 3) ls rest)) : W p l e R s m args below meth c H locs cells slots Q (F0 m pc ls (.ref a :: rest)) :=
  W.objInit S.1.1 S.1.2.1 S.1.2.2.2.1 (S.1.2.2.2.2 _ hl) (S.1.2.2.2.2 _ hi) (S.1.2.2.2.2 _ hc) rfl (by show ls.size = _; rw [hsz]; exact S.1.2.2.1.symm) rfl hd hf (by show 2 * 0 + _ + 12 ≤ _; omega) kk
theorem ct_new (S : cz_Cx p m c cc nL s args Ts own D cl tys N A9 wl) (hP : va_P D cl ws H) (hD : va_D A ws) (hS : va_S A H0 H locs) (hA : ∀ q, H0.size ≤ q → A q) {C : String} {T : u_T} {Nf ci index : Nat} {fs : List Value} (hin : ∀ w ∈ u_ws C T Nf, w ∈ Ts) (ty : Nat → FieldType) (hty : ∀ k, k < Nf → parseFieldDescriptor (T k).2.2.1 = some (ty k))
    (hcl : Cond.classLink own index C ∈ Ts) (hinst : Cond.instantiable C Nf ∈ Ts) (hini : Cond.initialized C ∈ Ts) (hc : cl[ci]? = some (C, T, Nf)) (hfs : ∀ j, j < Nf → defaultValue (ty j) = vp_V fs j) (hcells : cells + 1 ≤ R.cells) (hslots : slots + Nf ≤ R.slots) (hd : decode cc pc = .ok (.new index, 3))
    (kk : ∀ (q : Nat) (H1 : Heap), va_P D cl ((q, .inr (ci, fs)) :: ws) H1 → va_D A ((q, .inr (ci, fs)) :: ws) → va_S A H0 H1 locs → W p l e R s m args below meth c H1 locs (cells + 1) (slots + Nf) Q (F0 m (pc + 3) ls (.ref q :: rest))) : W p l e R s m args below meth c H locs cells slots Q (F0 m pc ls rest) :=
  va_new S.1.1 S.1.2.1 S.1.2.2.2.2 hin ty hty S.1.2.2.2.1 (S.1.2.2.2.2 _ hcl) (S.1.2.2.2.2 _ hinst) (S.1.2.2.2.2 _ hini) S.2.1 hP hD hS hA hc hfs hcells hslots hd (fun q H1 hP1 hD1 hS1 => kk q H1 (ct_P hP1 (List.perm_append_singleton _ _).symm) (ct_D hD1 (List.perm_append_singleton _ _).symm) hS1)
theorem ct_newp (S : cz_Cx p m c cc nL s args Ts own D cl tys N A9 wl) (hP : va_P D cl ws H) (hD : va_D A ws) (hS : va_S A H0 H locs) (hA : ∀ q, H0.size ≤ q → A q) {at_ : ArrayType} {ty : FieldType} {cI : ClassId} {t0 : Nat} (ht : tys[t0]? = some (cI, ty)) (hat : newarray.typeOf at_ = ty) (hdv : defaultValue ty = .int 0) (harr : Cond.arrayClass (newarray.typeOf at_) ∈ Ts) {n : Int32} {N' : Nat} (hn : ¬ n < 0) (hN : n.toNatClampNeg = N') (hbytes : N' * componentBytes ty ≤ 536870912) (hcells : cells + 1 ≤ R.cells) (hslots : slots + N' ≤ R.slots) (hd : decode cc pc = .ok (.newarray at_, 2))
    (kk : ∀ (q : Nat) (H1 : Heap), va_P D cl ((q, .inl (cI, N', .inl (fun _ => 0))) :: ws) H1 → va_D A ((q, .inl (cI, N', .inl (fun _ => 0))) :: ws) → va_S A H0 H1 locs → W p l e R s m args below meth c H1 locs (cells + 1) (slots + N') Q (F0 m (pc + 2) ls (.ref q :: rest))) : W p l e R s m args below meth c H locs cells slots Q (F0 m pc ls (.int n :: rest)) := by
  refine va_newa S.1.1 S.1.2.1 (S.1.2.2.2.2 _ harr) hat S.2.1 hP hD hS hA (a0 := (N', .inl (fun _ => 0))) (fun cA => by rw [hdv]; exact vp_cell_i cA N' _) hn hN hbytes hcells hslots hd (fun q cA H1 hK1 hP1 hD1 hS1 => ?_)
  have e1 : cA = cI := ct_same (ty := ty) hK1 (i := tys.length) (j := t0) (by simp) (by rw [List.getElem?_append_left ((List.getElem?_eq_some_iff.mp ht).1)]; exact ht)
  subst e1
  exact kk q H1 (ct_P hP1 (List.perm_append_singleton _ _).symm) (ct_D hD1 (List.perm_append_singleton _ _).symm) hS1
theorem ct_newo (S : cz_Cx p m c cc nL s args Ts own D cl tys N A9 wl) (hP : va_P D cl ws H) (hD : va_D A ws) (hS : va_S A H0 H locs) (hA : ∀ q, H0.size ≤ q → A q) {C : String} {cI : ClassId} {t0 index : Nat} (ht : tys[t0]? = some (cI, .object C)) (hcl : Cond.classLink own index C ∈ Ts) (hov : va_AO C s) {n : Int32} {N' : Nat} (hn : ¬ n < 0) (hN : n.toNatClampNeg = N') (hbytes : N' * 4 ≤ 536870912) (hcells : cells + 1 ≤ R.cells) (hslots : slots + N' ≤ R.slots) (hd : decode cc pc = .ok (.anewarray index, 3))
    (kk : ∀ (q : Nat) (H1 : Heap), va_P D cl ((q, .inl (cI, N', .inr (.inr (.inr (.inr (fun _ => none)))))) :: ws) H1 → va_D A ((q, .inl (cI, N', .inr (.inr (.inr (.inr (fun _ => none)))))) :: ws) → va_S A H0 H1 locs → W p l e R s m args below meth c H1 locs (cells + 1) (slots + N') Q (F0 m (pc + 3) ls (.ref q :: rest))) : W p l e R s m args below meth c H locs cells slots Q (F0 m pc ls (.int n :: rest)) := by
  refine va_newq S.1.1 S.1.2.1 S.1.2.2.2.1 (S.1.2.2.2.2 _ hcl) hov S.2.1 hP hD hS hA hn hN hbytes hcells hslots hd (fun q cA H1 hK1 hP1 hD1 hS1 => ?_)
  have e1 : cA = cI := ct_same (ty := .object C) hK1 (i := tys.length) (j := t0) (by simp) (by rw [List.getElem?_append_left ((List.getElem?_eq_some_iff.mp ht).1)]; exact ht)
  subst e1
  exact kk q H1 (ct_P hP1 (List.perm_append_singleton _ _).symm) (ct_D hD1 (List.perm_append_singleton _ _).symm) hS1
/-- behind a constructor's call -/
theorem ct_run {P : va_W → Prop} {h mc ms : Nat} {bl : va_E} {av : Array Value} {st0 : List Value} (hr : va_Run p l e R s m args below meth c H locs cells slots mc ms (F0 m pc ls st0) rest (ct_Q D cl P (fun q => q = h ∨ H.size ≤ q) av) (fun q => q = h ∨ H.size ≤ q)) (hP : va_P D cl ((h, bl) :: ws) H) (hD : va_D A ((h, bl) :: ws)) (hS : va_S A H0 H locs) (hA : ∀ q, H0.size ≤ q → A q)
    (kk : ∀ (w1 : va_W) (H1 : Heap) (locs1 : List Loc), P w1 → va_P D cl (w1 ++ ws) H1 → va_D A (w1 ++ ws) → va_S A H0 H1 locs1 → W p l e R s m args below meth c H1 locs1 (cells + mc) (slots + ms) Q (F0 m (pc + 3) ls rest)) : W p l e R s m args below meth c H locs cells slots Q (F0 m pc ls st0) := by
  intro T hT X
  obtain ⟨v, st₀, t, T', L, h0, X', hL, e1, e2, ⟨⟨hv, w1, hw, hp, hd⟩, hz, hk⟩, st⟩ := hr T hT X
  cases hv
  rw [h0] at hz hk
  rw [ct_Diff] at hD hd
  obtain ⟨hD1, hD2⟩ := hD
  have hAh : ∀ q, (q = h ∨ H.size ≤ q) → A q := by
    intro q hq
    rcases hq with hq | hq
    · rw [hq]
      exact hD2 (h, bl) List.mem_cons_self
    · exact hA q (Nat.le_trans hS.1 hq)
  have key : ∀ q ∈ ws, q.1 < H.size ∧ q.1 ≠ h := by
    intro q hq
    obtain ⟨i, hi⟩ := List.getElem?_of_mem hq
    refine ⟨(hP (i + 1) q (by rw [List.getElem?_cons_succ]; exact hi)).lt, fun z => ?_⟩
    rw [List.map_cons, List.nodup_cons] at hD1
    exact hD1.1 (List.mem_map.mpr ⟨q, hq, z⟩)
  have hP1 : va_P D cl (w1 ++ ws) T'.heap := by
    refine va_P.app (by rw [e1]; exact hp) (fun k q hq => ?_)
    have hm := List.mem_of_getElem? hq
    have hq1 := hP (k + 1) q (by rw [List.getElem?_cons_succ]; exact hq)
    refine hq1.kept ?_
    rw [e1]
    exact hk q.1 (key q hm).1 (fun z => z.elim (key q hm).2 (fun z => by have := (key q hm).1; omega))
  have hDn : va_D A (w1 ++ ws) := by
    rw [ct_Diff, List.map_append, List.nodup_append]
    refine ⟨⟨hd.1, ?_, ?_⟩, ?_⟩
    · rw [List.map_cons, List.nodup_cons] at hD1
      exact hD1.2
    · intro x hx y hy hxy
      obtain ⟨q1, hq1, rfl⟩ := List.mem_map.mp hx
      obtain ⟨q2, hq2, rfl⟩ := List.mem_map.mp hy
      have a1 := hd.2 q1 hq1
      have a2 := key q2 hq2
      rw [hxy] at a1
      rcases a1 with a1 | a1
      · exact a2.2 a1
      · omega
    · intro q hq
      rcases List.mem_append.mp hq with h1 | h1
      · exact hAh _ (hd.2 q h1)
      · exact hD2 q (List.mem_cons_of_mem _ h1)
  obtain ⟨t2, a1, b1⟩ := kk w1 T'.heap (locs ++ L) hw hP1 hDn
    ⟨Nat.le_trans hS.1 (by rw [e1]; exact hz), fun q h1 h2 => by rw [e1, hk q (Nat.lt_of_lt_of_le h1 hS.1) (fun z => h2 (hAh q z))]; exact hS.2.1 q h1 h2, fun q hq => by
      rcases List.mem_append.mp hq with h | h
      · exact hS.2.2 q h
      · exact hAh _ (hL q h)⟩ T' rfl X'
  exact ⟨t2, st t2 a1, b1⟩
variable {y : MethodName} {bytes : ByteArray} {maxL n index : Nat} {rm : Room} {As : List Value}
theorem ct_blind {sz : Nat} {ws0 : va_W} {av : List Value} : FrameBlind (va_Pc av (fun U => U.heap.size = sz ∧ ct_AO U ∧ cz_Pw D cl tys N ws0 U)) := by
  intro a U g mk h
  obtain ⟨h0, h4, h5, h1, h2, h3⟩ := h
  exact ⟨h0, h4, ct_AO.moved (u := U) (U := U.calling g mk a) (Vm.Alike.refl U.vm) h5, h1, va_K.moved (u := U) (U := U.calling g mk a) (Vm.Alike.refl U.vm) h2, cz_Nz.same (s := U) (U := U.calling g mk a) rfl h3⟩
theorem ct_callN {P : va_W → Prop} {h mc ms : Nat} {bl : va_E} {host : String} {st0 : List Value} (S : cz_Cx p m c cc nL s args Ts own D cl tys N A9 wl) (hsz : ls.size = nL) (hP : va_P D cl ((h, bl) :: ws) H) (hD : va_D A ((h, bl) :: ws)) (hS : va_S A H0 H locs) (hA : ∀ q, H0.size ≤ q → A q) (hO : ct_AO s)
    (hM : ∀ sz, Met l y (Cond.code y bytes maxL none :: Ts) rm (va_Pc (.ref h :: As) (fun U => U.heap.size = sz ∧ ct_AO U ∧ cz_Pw D cl tys N [(h, bl)] U)) (ct_Q D cl P (fun q => q = h ∨ sz ≤ q)) mc ms (fun q => q = h ∨ sz ≤ q))
    (hY : cz_Y Ts y bytes maxL none n) (hyn : y.name = "<init>") (hl : Cond.methodLinkNest own index y host ∈ N) (hi : Cond.instanceMethod y ∈ Ts) (hrc : rm.cells = mc) (hrs : rm.slots = ms) (hR : rm.frames + 1 ≤ R.frames ∧ 8 + (maxL + 11) + rm.locals ≤ R.locals) (hn : As.length = n) (hrest : (rest.map fun v => v.category).sum ≤ 8) (hf : cells + mc ≤ R.cells ∧ slots + ms ≤ R.slots) (hst : st0 = As.reverse ++ .ref h :: rest) (hd : decode cc pc = .ok (.invokespecial index, 3))
    (kk : ∀ (w1 : va_W) (H1 : Heap) (locs1 : List Loc), P w1 → va_P D cl (w1 ++ ws) H1 → va_D A (w1 ++ ws) → va_S A H0 H1 locs1 → W p l e R s m args below meth c H1 locs1 (cells + mc) (slots + ms) Q (F0 m (pc + 3) ls rest)) : W p l e R s m args below meth c H locs cells slots Q (F0 m pc ls st0) := by
  have hP0 : va_P D cl [(h, bl)] H := hP.sub [0] rfl
  exact ct_run (va_runIN S.1 (hM H.size) ⟨va_cnB n S.1.2.2.2.2 (cz_good hY.1 hY.2.1) rfl hrc hrs (S.2.2.1 _ hl).2 (S.1.2.2.2.2 _ hY.2.2.1) hY.2.2.2 hR, hyn, S.1.2.2.2.2 _ hi⟩ ⟨ct_blind, fun U hU hW => ⟨rfl, by rw [hU], hO.moved hW.alike, by rw [hU]; exact hP0, va_K.moved hW.alike S.2.1, cz_Nz.warm hW S.2.2.1⟩⟩ rfl hn hsz hst (lv_room hrest) hd hf) hP hD hS hA kk
theorem ct_callP {P : va_W → Prop} {h mc ms : Nat} {bl : va_E} {st0 : List Value} (S : cz_Cx p m c cc nL s args Ts own D cl tys N A9 wl) (hsz : ls.size = nL) (hP : va_P D cl ((h, bl) :: ws) H) (hD : va_D A ((h, bl) :: ws)) (hS : va_S A H0 H locs) (hA : ∀ q, H0.size ≤ q → A q) (hO : ct_AO s)
    (hM : ∀ sz, Met l y (Cond.code y bytes maxL none :: Ts) rm (va_Pc (.ref h :: As) (fun U => U.heap.size = sz ∧ ct_AO U ∧ cz_Pw D cl tys N [(h, bl)] U)) (ct_Q D cl P (fun q => q = h ∨ sz ≤ q)) mc ms (fun q => q = h ∨ sz ≤ q))
    (hY : cz_Y Ts y bytes maxL none n) (hyn : y.name = "<init>") (hl : Cond.methodLink own index y ∈ Ts) (hi : Cond.instanceMethod y ∈ Ts) (hrc : rm.cells = mc) (hrs : rm.slots = ms) (hR : rm.frames + 1 ≤ R.frames ∧ 8 + (maxL + 11) + rm.locals ≤ R.locals) (hn : As.length = n) (hrest : (rest.map fun v => v.category).sum ≤ 8) (hf : cells + mc ≤ R.cells ∧ slots + ms ≤ R.slots) (hst : st0 = As.reverse ++ .ref h :: rest) (hd : decode cc pc = .ok (.invokespecial index, 3))
    (kk : ∀ (w1 : va_W) (H1 : Heap) (locs1 : List Loc), P w1 → va_P D cl (w1 ++ ws) H1 → va_D A (w1 ++ ws) → va_S A H0 H1 locs1 → W p l e R s m args below meth c H1 locs1 (cells + mc) (slots + ms) Q (F0 m (pc + 3) ls rest)) : W p l e R s m args below meth c H locs cells slots Q (F0 m pc ls st0) := by
  have hP0 : va_P D cl [(h, bl)] H := hP.sub [0] rfl
  exact ct_run (va_runI S.1 (hM H.size) ⟨callB_of n S.1.2.2.2.2 (cz_good hY.1 hY.2.1) rfl hrc hrs (S.1.2.2.2.2 _ hY.2.2.1) (S.1.2.2.2.2 _ hl) hY.2.2.2 hR, hyn, S.1.2.2.2.2 _ hi⟩ ⟨ct_blind, fun U hU hW => ⟨rfl, by rw [hU], hO.moved hW.alike, by rw [hU]; exact hP0, va_K.moved hW.alike S.2.1, cz_Nz.warm hW S.2.2.1⟩⟩ rfl hn hsz hst (lv_room hrest) hd hf) hP hD hS hA kk
/-- new int[n][k] -/
theorem ct_newg (S : cz_Cx p m c cc nL s args Ts own D cl tys N A9 wl) (hP : va_P D cl ws H) (hD : va_D A ws) (hS : va_S A H0 H locs) (hA : ∀ q, H0.size ≤ q → A q) {cI cG : ClassId} {t0 t1 : Nat} (ht : tys[t0]? = some (cI, .int)) (hg : tys[t1]? = some (cG, .array .int)) (hcl : Cond.classLink own index "[[I" ∈ Ts) (hov : ct_AO s) (harr : Cond.arrayClass .int ∈ Ts) {n k : Int32} {N' K' : Nat} (hn : ¬ n < 0) (hk : ¬ k < 0) (hN : n.toNatClampNeg = N') (hK : k.toNatClampNeg = K') (hb1 : N' * 4 ≤ 536870912) (hb2 : K' * 4 ≤ 536870912)
    (hcells : cells + (1 + N') ≤ R.cells) (hslots : slots + (N' + N' * K') ≤ R.slots) (hd : decode cc pc = .ok (.multianewarray index 2, 4))
    (kk : ∀ (q : Nat) (H1 : Heap), va_P D cl ((q, .inl (cG, N', .inr (.inr (.inr (.inr (fun j => some (q + 1 + j))))))) :: ((List.range N').map (fun i => (q + 1 + i, .inl (cI, K', .inl (fun _ => 0)))) ++ ws)) H1 → va_D A ((q, .inl (cG, N', .inr (.inr (.inr (.inr (fun j => some (q + 1 + j))))))) :: ((List.range N').map (fun i => (q + 1 + i, .inl (cI, K', .inl (fun _ => 0)))) ++ ws)) → va_S A H0 H1 locs →
      W p l e R s m args below meth c H1 locs (cells + 1 + N') (slots + N' + N' * K') Q (F0 m (pc + 4) ls (.ref q :: rest))) : W p l e R s m args below meth c H locs cells slots Q (F0 m pc ls (.int k :: .int n :: rest)) := by
  subst hN
  subst hK
  intro T hT Xs
  have hb : c.code = cc := S.1.2.1
  obtain ⟨vm₁, cA, comp, -, fA, fC, -, -, X', step⟩ := Xs.multianewarray2F S.1.1 (ty := .int) S.1.2.2.2.1 (S.1.2.2.2.2 _ hcl) hov.2.2 (S.1.2.2.2.2 _ harr) (g := F0 m pc ls (.int k :: .int n :: rest)) rfl (by rw [hb]; exact hd) rfl hn hk hb1 hb2 (by omega) rfl rfl hcells hslots
  have eG : cA = cG := Option.some.inj (fA.symm.trans (S.2.1.2 t1 _ hg).2)
  have eI : comp = cI := Option.some.inj (fC.symm.trans (S.2.1.2 t0 _ ht).2)
  subst eG
  subst eI
  generalize hF : Jvm.Free.Multi.fill (T.setVm vm₁) cA comp n.toNatClampNeg k.toNatClampNeg (defaultValue .int) n.toNatClampNeg = F at X' step
  have hTh : (T.setVm vm₁).heap = H := hT
  obtain ⟨f1, f2, -, -⟩ := Jvm.Free.Multi.fill_facts (T.setVm vm₁) cA comp n.toNatClampNeg k.toNatClampNeg (defaultValue .int) n.toNatClampNeg
  rw [hF, hTh] at f1 f2
  have hold : ∀ x : Nat, x < H.size → F.heap[x]? = H[x]? := fun x hx => by
    have := Jvm.Free.Multi.fill_old (T.setVm vm₁) cA comp n.toNatClampNeg k.toNatClampNeg (defaultValue .int) (a := x) (by rw [hTh]; exact hx) n.toNatClampNeg
    rw [hF, hTh] at this
    exact this
  have hrow : ∀ j : Nat, j < n.toNatClampNeg → F.heap[H.size + 1 + j]? = some (vp_cell comp (k.toNatClampNeg, .inl (fun _ => 0))) := fun j hj => by
    have := Jvm.Free.Multi.fill_inner (T.setVm vm₁) cA comp n.toNatClampNeg k.toNatClampNeg (defaultValue .int) n.toNatClampNeg j hj
    rw [hF, hTh] at this
    rw [this, vp_cell_i]
    exact congrArg some (arrV_new comp k.toNatClampNeg (.int 0))
  have hout : Jvm.Free.Multi.outerC cA n.toNatClampNeg H.size n.toNatClampNeg = vp_cell cA (n.toNatClampNeg, .inr (.inr (.inr (.inr (fun j => some (H.size + 1 + j)))))) := by
    rw [vp_cell_q, ct_outer]
    exact ct_arrV (fun j hj => by rw [if_pos hj])
  rw [hout] at f2
  have hnew : va_P D cl ((H.size, .inl (cA, n.toNatClampNeg, .inr (.inr (.inr (.inr (fun j => some (H.size + 1 + j))))))) :: ((List.range n.toNatClampNeg).map (fun i => (H.size + 1 + i, .inl (comp, k.toNatClampNeg, .inl (fun _ => 0)))) ++ ws)) F.heap := by
    intro i q hi
    have hm := List.mem_of_getElem? hi
    rcases List.mem_cons.mp hm with h | h
    · rw [h]
      exact f2
    · rcases List.mem_append.mp h with h | h
      · obtain ⟨j, hj, rfl⟩ := List.mem_map.mp h
        exact hrow j (List.mem_range.mp hj)
      · obtain ⟨i2, hi2⟩ := List.getElem?_of_mem h
        exact (hP i2 q hi2).kept (hold q.1 (hP i2 q hi2).lt)
  have hlt : ∀ q ∈ ws, q.1 < H.size := fun q hq => by
    obtain ⟨i2, hi2⟩ := List.getElem?_of_mem hq
    exact (hP i2 q hi2).lt
  rw [ct_Diff] at hD
  have hDn : va_D A ((H.size, .inl (cA, n.toNatClampNeg, .inr (.inr (.inr (.inr (fun j => some (H.size + 1 + j))))))) :: ((List.range n.toNatClampNeg).map (fun i => (H.size + 1 + i, .inl (comp, k.toNatClampNeg, .inl (fun _ => 0)))) ++ ws)) := by
    rw [ct_Diff, List.map_cons, List.nodup_cons, List.map_append, List.nodup_append]
    refine ⟨⟨?_, ?_, hD.1, ?_⟩, ?_⟩
    · intro h
      rcases List.mem_append.mp h with h | h
      · obtain ⟨q, hq, hqe⟩ := List.mem_map.mp h
        obtain ⟨j, -, rfl⟩ := List.mem_map.mp hq
        simp only at hqe
        omega
      · obtain ⟨q, hq, hqe⟩ := List.mem_map.mp h
        have := hlt q hq
        omega
    · rw [List.map_map, List.Nodup, List.pairwise_map]
      exact List.nodup_range.imp (fun h e => h (by simp only [Function.comp] at e; omega))
    · intro x hx y hy hxy
      obtain ⟨q, hq, rfl⟩ := List.mem_map.mp hx
      obtain ⟨j, -, rfl⟩ := List.mem_map.mp hq
      obtain ⟨q2, hq2, rfl⟩ := List.mem_map.mp hy
      have := hlt q2 hq2
      simp only at hxy
      omega
    · intro q hq
      have hs1 := hS.1
      rcases List.mem_cons.mp hq with h | h
      · rw [h]
        exact hA _ hs1
      · rcases List.mem_append.mp h with h | h
        · obtain ⟨j, -, rfl⟩ := List.mem_map.mp h
          exact hA _ (by show _ ≤ H.size + 1 + j; omega)
        · exact hD.2 q h
  obtain ⟨t, a1, b1⟩ := kk H.size F.heap hnew hDn ⟨by rw [f1]; have := hS.1; omega, fun x h1 h2 => (hold x (Nat.lt_of_lt_of_le h1 hS.1)).trans (hS.2.1 x h1 h2), hS.2.2⟩ F rfl X'
  refine ⟨t, step t ?_, b1⟩
  have e : T.heap.size = H.size := by rw [hT]
  rw [e]
  exact a1
end CT
section CT2
variable {p : Program} {l : Launch} {e : Env} {R : Room} {s : State} {m : MethodId} {args : Array Value} {below : List Frame} {meth : Method} {c : Code} {H : Heap} {locs : List Loc} {cells slots : Nat} {Q : State → Prop}
variable {cc : ByteArray} {pc nL : Nat} {ls : Array Slot} {rest : List Value} {D : va_G} {cl : List vw_C} {A A1 A9 : Nat → Prop} {a : Nat} {tys : List (ClassId × FieldType)} {N Ts : List Cond} {own : String} {H0 : Heap} {wl : cz_M → va_W} {ws : va_W}
/-- a call that leaves its part of the world as it was -/
theorem ct_ro {ret : Option Value} {ws1 : va_W} {av : Array Value} {st0 : List Value} (hr : va_Run p l e R s m args below meth c H locs cells slots 0 0 (F0 m pc ls st0) rest (cz_Qw D cl ret ws1 A1 av) A1) (hP : va_P D cl ws H) (hS : va_S A H0 H locs) (hsub : ∀ q ∈ ws, A1 q.1 → q ∈ ws1) (hA1 : ∀ q, A1 q → A q)
    (kk : ∀ (H1 : Heap) (locs1 : List Loc), va_P D cl ws H1 → va_S A H0 H1 locs1 → W p l e R s m args below meth c H1 locs1 cells slots Q (F0 m (pc + 3) ls (ret.toList ++ rest))) : W p l e R s m args below meth c H locs cells slots Q (F0 m pc ls st0) := by
  intro T hT X
  obtain ⟨v, st₀, t, T', L, h0, X', hL, e1, e2, ⟨⟨hv, hp⟩, hz, hk⟩, st⟩ := hr T hT X
  cases hv
  rw [h0] at hz hk
  have hP1 : va_P D cl ws T'.heap := by
    intro k q hq
    by_cases h1 : A1 q.1
    · obtain ⟨i, hi⟩ := List.getElem?_of_mem (hsub q (List.mem_of_getElem? hq) h1)
      rw [e1]
      exact hp i q hi
    · refine (hP k q hq).kept ?_
      rw [e1]
      exact hk q.1 (hP k q hq).lt h1
  obtain ⟨t2, a1, b1⟩ := kk T'.heap (locs ++ L) hP1
    ⟨Nat.le_trans hS.1 (by rw [e1]; exact hz), fun q h1 h2 => by rw [e1, hk q (Nat.lt_of_lt_of_le h1 hS.1) (fun z => h2 (hA1 q z))]; exact hS.2.1 q h1 h2, fun q hq => by
      rcases List.mem_append.mp hq with h | h
      · exact hS.2.2 q h
      · exact hA1 _ (hL q h)⟩ T' rfl X'
  exact ⟨t2, st t2 a1, b1⟩
theorem ct_aald (S : cz_Cx p m c cc nL s args Ts own D cl tys N A9 wl) (hP : va_P D cl ws H) {q t0 n : Nat} {cA : ClassId} {ty : FieldType} {f : Nat → Nat} (ha : ws[q]? = some (a, .inl (cA, n, .inr (.inr (.inr (.inr (fun j => some (f j)))))))) (ht : tys[t0]? = some (cA, ty)) (hty : ty.isReference = true) {i : Int32} (hin : ¬ (i < 0 ∨ n ≤ i.toNatClampNeg)) (hd : decode cc pc = .ok (.aaload, 1))
    (kk : W p l e R s m args below meth c H locs cells slots Q (F0 m (pc + 1) ls (.ref (f i.toNatClampNeg) :: rest))) : W p l e R s m args below meth c H locs cells slots Q (F0 m pc ls (.int i :: .ref a :: rest)) := by
  have hlt : i.toNatClampNeg < n := Nat.not_le.mp fun q => hin (Or.inr q)
  exact W.aald (v := .ref (f i.toNatClampNeg)) (ty := ty) S.1.1 S.1.2.1 (hP q _ ha) ((S.2.1.2 t0 _ ht).1 n (fun j => .ref (f j))) hty (fun q => by cases q) (by show ¬ (i < 0 ∨ (arrV _ _ _).slots.size ≤ _); rw [arrV_size]; exact hin) (by show (arrV _ _ _).slots[_]? = _; rw [arrV_read _ _ hlt]; rfl) rfl rfl hd kk
/-- another writing of an array of references -/
theorem ct_re {k n : Nat} {cA : ClassId} {f g : Nat → Option Nat} (hP : va_P D cl ws H) (hk : ws[k]? = some (a, .inl (cA, n, .inr (.inr (.inr (.inr f)))))) (hfg : ∀ j, j < n → f j = g j) : va_P D cl (ws.set k (a, .inl (cA, n, .inr (.inr (.inr (.inr g)))))) H := by
  have hl := (List.getElem?_eq_some_iff.mp hk).1
  intro i q hi
  by_cases hik : i = k
  · subst hik
    rw [List.getElem?_set_self hl] at hi
    cases hi
    have h := hP i _ hk
    show H[a]? = some (vp_cell cA (n, .inr (.inr (.inr (.inr g)))))
    rw [vp_cell_q, ← ct_arrV (f := fun j => va_rf (f j)) (fun j hj => by rw [hfg j hj]), ← vp_cell_q]
    exact h
  · rw [List.getElem?_set_ne (Ne.symm hik)] at hi
    exact hP i q hi
end CT2
