theorem mw_552 : Jvm.Cond.code ({ cls := "ChainPeersLaw", name := "cell", desc := "([II)I" } : Jvm.MethodName) method_2_code (2 : Nat) (Option.some Jvm.ClassFile.FieldType.int) ∈ cz_T := List.mem_filter.mpr ⟨List.mem_append_right _ (List.mem_append_right _ (List.mem_append_right _ (List.mem_append_left _ (List.mem_of_getElem? (i := 72) rfl)))), rfl⟩
theorem mw_0 : Jvm.Cond.initialized "ChainPeersLaw" ∈ cz_T := List.mem_filter.mpr ⟨List.mem_append_right _ (List.mem_append_left _ (List.mem_of_getElem? (i := 0) rfl)), rfl⟩
theorem mw_10 : Jvm.Cond.instantiable "ChainPeers" (11 : Nat) ∈ cz_T := List.mem_filter.mpr ⟨List.mem_append_right _ (List.mem_append_left _ (List.mem_of_getElem? (i := 10) rfl)), rfl⟩
theorem mw_554 : Jvm.Cond.instantiable "ChainPeersModel" (28 : Nat) ∈ cz_T := List.mem_filter.mpr ⟨List.mem_append_right _ (List.mem_append_right _ (List.mem_append_right _ (List.mem_append_left _ (List.mem_of_getElem? (i := 74) rfl)))), rfl⟩
theorem mw_9 : Jvm.Cond.classLink "ChainPeersLaw" (7 : Nat) "ChainPeers" ∈ cz_T := List.mem_filter.mpr ⟨List.mem_append_right _ (List.mem_append_left _ (List.mem_of_getElem? (i := 9) rfl)), rfl⟩
theorem mw_550 : Jvm.Cond.methodLink "ChainPeersLaw" (9 : Nat) ({ cls := "ChainPeersLaw", name := "cell", desc := "([II)I" } : Jvm.MethodName) ∈ cz_T := List.mem_filter.mpr ⟨List.mem_append_right _ (List.mem_append_right _ (List.mem_append_right _ (List.mem_append_left _ (List.mem_of_getElem? (i := 70) rfl)))), rfl⟩
theorem mw_551 : Jvm.Cond.static ({ cls := "ChainPeersLaw", name := "cell", desc := "([II)I" } : Jvm.MethodName) ∈ cz_T := List.mem_filter.mpr ⟨List.mem_append_right _ (List.mem_append_right _ (List.mem_append_right _ (List.mem_append_left _ (List.mem_of_getElem? (i := 71) rfl)))), rfl⟩
theorem mw_11 : Jvm.Cond.methodLink "ChainPeersLaw" (15 : Nat) ({ cls := "ChainPeers", name := "<init>", desc := "(II)V" } : Jvm.MethodName) ∈ cz_T := List.mem_filter.mpr ⟨List.mem_append_right _ (List.mem_append_left _ (List.mem_of_getElem? (i := 11) rfl)), rfl⟩
theorem mw_12 : Jvm.Cond.instanceMethod ({ cls := "ChainPeers", name := "<init>", desc := "(II)V" } : Jvm.MethodName) ∈ cz_T := List.mem_filter.mpr ⟨List.mem_append_right _ (List.mem_append_left _ (List.mem_of_getElem? (i := 12) rfl)), rfl⟩
theorem mw_553 : Jvm.Cond.classLink "ChainPeersLaw" (18 : Nat) "ChainPeersModel" ∈ cz_T := List.mem_filter.mpr ⟨List.mem_append_right _ (List.mem_append_right _ (List.mem_append_right _ (List.mem_append_left _ (List.mem_of_getElem? (i := 73) rfl)))), rfl⟩
theorem mw_555 : Jvm.Cond.methodLink "ChainPeersLaw" (20 : Nat) ({ cls := "ChainPeersModel", name := "<init>", desc := "(II)V" } : Jvm.MethodName) ∈ cz_T := List.mem_filter.mpr ⟨List.mem_append_right _ (List.mem_append_right _ (List.mem_append_right _ (List.mem_append_left _ (List.mem_of_getElem? (i := 75) rfl)))), rfl⟩
theorem mw_556 : Jvm.Cond.instanceMethod ({ cls := "ChainPeersModel", name := "<init>", desc := "(II)V" } : Jvm.MethodName) ∈ cz_T := List.mem_filter.mpr ⟨List.mem_append_right _ (List.mem_append_right _ (List.mem_append_right _ (List.mem_append_left _ (List.mem_of_getElem? (i := 76) rfl)))), rfl⟩
abbrev b_LAW_cell : ByteArray := method_2_code
def y_LAW_cell : MethodName := ⟨"ChainPeersLaw", "cell", "([II)I"⟩
def rm_LAW_cell : Room := { frames := 0, cells := 0, slots := 0, locals := 0 }
theorem Y_LAW_cell : cz_Y cz_T y_LAW_cell b_LAW_cell 2 (some .int) 2 := ⟨cz_goodT, mw_552, mw_0, by decide +kernel⟩
theorem d_LAW_cell_0 : decode b_LAW_cell 0 = .ok (.iload_n 1, 1) := by decide +kernel
theorem d_LAW_cell_1 : decode b_LAW_cell 1 = .ok (.aload_n 0, 1) := by decide +kernel
theorem d_LAW_cell_2 : decode b_LAW_cell 2 = .ok (.arraylength, 1) := by decide +kernel
theorem d_LAW_cell_3 : decode b_LAW_cell 3 = .ok (.if_icmp .ge 9, 3) := by decide +kernel
theorem d_LAW_cell_6 : decode b_LAW_cell 6 = .ok (.aload_n 0, 1) := by decide +kernel
theorem d_LAW_cell_7 : decode b_LAW_cell 7 = .ok (.iload_n 1, 1) := by decide +kernel
theorem d_LAW_cell_8 : decode b_LAW_cell 8 = .ok (.iaload, 1) := by decide +kernel
theorem d_LAW_cell_9 : decode b_LAW_cell 9 = .ok (.goto 4, 3) := by decide +kernel
theorem d_LAW_cell_12 : decode b_LAW_cell 12 = .ok (.iconst 0, 1) := by decide +kernel
theorem d_LAW_cell_13 : decode b_LAW_cell 13 = .ok (.ireturn, 1) := by decide +kernel
def lw_cl (L : Nat) (xs : Nat → Int32) (k : Int32) : Int32 := if Int32.ofNat L ≤ k then 0 else xs k.toNatClampNeg
theorem c_LAW_cell (l : Launch) (D : va_G) (cl : List vw_C) (b L : Nat) (xs : Nat → Int32) (k : Int32) (hk : ¬ k < 0) (hL : L < 2 ^ 31) : Met l y_LAW_cell (Cond.code y_LAW_cell b_LAW_cell 2 (some .int) :: cz_T) rm_LAW_cell (va_Pc [.ref b, .int k] (fun U => va_X b L xs U U.heap)) (cz_Qw D cl (some (.int (lw_cl L xs k))) [] (fun _ => False)) 0 0 (fun _ => False) := by
  refine Met.ofW (cc := b_LAW_cell) (maxL := 2) (ret := some .int) (by decide) rfl ?_
  intro p e s m args below meth c s₁ B hml hv
  obtain ⟨rfl, hX⟩ := hv
  have hx := B.exec
  have hb := B.bytes
  have hr := B.returns
  have hlocks := B.notSynchronized
  have hl := lv_entry ([.ref b, .int k]) (n := 2) (Nat.le_of_ble_eq_true rfl)
  rw [lg_entry_eq]
  generalize (lg_sl ([.ref b, .int k]) ++ List.replicate (2 - (lg_sl ([.ref b, .int k])).length) Slot.unset).toArray = ls at hl ⊢
  have hl : lv_has ls 2 [(0, .ref b), (1, .int k)] := hl
  have hbl : b < s.heap.size := by
    obtain ⟨scr, h1, -⟩ := hX
    exact (Array.getElem?_eq_some_iff.mp h1).1
  have hS : va_S (fun _ => False) s.heap s.heap [] := va_S.rf
  refine lv_iload_n hx hb d_LAW_cell_0 rfl (lv_at hl 1 rfl) ?_
  refine lv_aload_n hx hb d_LAW_cell_1 rfl (lv_at hl 0 rfl) ?_
  refine va_slen hx hb hX hbl (fun h => h) hS d_LAW_cell_2 ?_
  refine lv_icmp_ge (tgt := 12) hx hb d_LAW_cell_3 rfl (fun hc => ?_) (fun hc => ?_)
  · refine lv_iconst (v := 0) hx hb d_LAW_cell_12 (by decide) ?_
    refine W.iret hx hb hr (fun t ht _ => ⟨⟨by rw [lw_cl, if_pos hc], fun k q h => by simp at h⟩, hS.F ht⟩) (fun _ h => by cases h) d_LAW_cell_13 hlocks
  · refine lv_aload_n hx hb d_LAW_cell_6 rfl (lv_at hl 0 rfl) ?_
    refine lv_iload_n hx hb d_LAW_cell_7 rfl (lv_at hl 1 rfl) ?_
    have hin : vp_in k L := by
      obtain ⟨j, hj, rfl⟩ := nI_of hk
      refine vp_in_nI ?_ hL
      have hc : ¬ nI L ≤ nI j := hc
      rw [nI_leI hL hj] at hc
      omega
    refine va_sld hx hb hX hbl (fun h => h) hS hin d_LAW_cell_8 ?_
    refine lv_goto (tgt := 13) hx hb d_LAW_cell_9 rfl ?_
    refine W.iret hx hb hr (fun t ht _ => ⟨⟨by rw [lw_cl, if_neg hc], fun k q h => by simp at h⟩, hS.F ht⟩) (fun _ h => by cases h) d_LAW_cell_13 hlocks
theorem cz_Nz.of {s : State} {args : Array Value} (h : ∀ w ∈ lw_tbl, w.before args s = true) : cz_Nz cz_N s := by
  intro w hw
  obtain ⟨h1, h2⟩ := List.mem_filter.mp hw
  refine ⟨h2, ?_⟩
  have h3 := h w h1
  cases w <;> first | (simp [cz_isN] at h2; done) | exact va_Nw.of rfl h3
theorem cz_inj {A : Nat → Prop} {n : Nat} {ce : cz_M → Nat → va_E} {ad : Nat → Nat} {M : cz_M} (hD : va_D A (cz_wl n ce ad M)) : (∀ i j, i < n → j < n → ad i = ad j → i = j) ∧ ∀ i, i < n → A (ad i) :=
  ⟨fun i j hi hj he => hD.1 i j _ _ (cz_at hi rfl) (cz_at hj rfl) he, fun i hi => hD.2 i _ (cz_at hi rfl)⟩
set_option maxHeartbeats 8000000 in
set_option maxRecDepth 100000 in
/-- the claim out of the pure statement hp: the law function answers 1 -/
theorem whole_open (hp : ∀ (a b : Int32) (L : Nat) (xs : Nat → Int32), L ≤ 2050 → cz_lp3 (l_LAW L xs) 600 (cp_M0 a b) (mo_M0 a b) 2 = some 1) {p : Program} {e : Env} {s : State} {m : MethodId} {below : List Frame} {meth : Method} {c : Code} (l : Launch) {b L : Nat} {xs : Nat → Int32} (hL : L ≤ 2050) (C0 : lw_At p s m meth c b L xs) : W p l e room_1 s m #[Value.ref b] below meth c s.heap [] 0 0 (lw_Z below #[Value.ref b] s) (entryFrame m ([Value.ref b] : List Value).toArray 4) := by
  obtain ⟨hx, hb, hr, hml, hown, hts, hX, hbl, hlocks, -⟩ := C0
  have hT : ∀ w ∈ cz_T, w.before #[Value.ref b] s = true := fun w h => hts w (List.mem_filter.mp h).1
  have hN : cz_Nz cz_N s := cz_Nz.of hts
  have hO1 := hts (Cond.arrayOver (.object "ChainPeers$Bytes")) (List.mem_append_right _ (List.mem_append_left _ (List.mem_of_getElem? (i := 151) rfl)))
  have hO2 := hts (Cond.arrayOver (.object "ChainPeers$Peer")) (List.mem_append_right _ (List.mem_append_left _ (List.mem_of_getElem? (i := 138) rfl)))
  have hO3 := hts (Cond.arrayOver (.array .int)) (List.mem_append_right _ (List.mem_append_left _ (List.mem_of_getElem? (i := 40) rfl)))
  have hO : ct_AO s := ⟨hO1, hO2, hO3⟩
  have hC1 := hT (Cond.arrayClass .int) mw_32
  have hC2 := hT (Cond.arrayClass .boolean) mw_136
  obtain ⟨c0, i0, k0⟩ := u_known hT in_ChainPeers (hT _ mw_10)
  obtain ⟨c1, i1, k1⟩ := u_known hT in_Bytes (hT _ mw_18)
  obtain ⟨c2, i2, k2⟩ := u_known hT in_Peer (hT _ mw_145)
  obtain ⟨c3, i3, k3⟩ := u_known hT in_Message (hT _ mw_34)
  obtain ⟨c4, i4, k4⟩ := u_known hT in_Blocks (hT _ mw_91)
  obtain ⟨c5, i5, k5⟩ := u_known hT in_ChainPeersModel (hT _ mw_554)
  obtain ⟨aI, kI, pI, a1, a2, a3⟩ := Cond.arrayClass_spec hC1
  obtain ⟨aZ, kZ, pZ, b1, b2, b3⟩ := Cond.arrayClass_spec hC2
  obtain ⟨pG, aG, kG, g1, g2, g3, g4⟩ := Cond.arrayOver_specA hO3
  obtain ⟨pP, aP, kP, e1, -, e3, e4, e5⟩ := Cond.arrayOver_spec hO2
  obtain ⟨pB, aB, kB, f1, -, f3, f4, f5⟩ := Cond.arrayOver_spec hO1
  obtain ⟨D, hDe⟩ : ∃ D : va_G, D = ((fun k => match k with | 0 => c0 | 1 => c1 | 2 => c2 | 3 => c3 | _ => c4), (fun k => match k with | 0 => i0 | 1 => i1 | 2 => i2 | 3 => i3 | _ => i4)) := ⟨_, rfl⟩
  obtain ⟨ca, hce⟩ : ∃ ca : Nat → ClassId, ca = (fun k => match k with | 0 => aI | 1 => aZ | 2 => aG | 3 => aP | _ => aB) := ⟨_, rfl⟩
  have hK1 : va_K D cp_cl (ct_tys ca) s := by
    subst hDe
    subst hce
    refine ⟨fun k q hk => ?_, fun k q hk => ?_⟩
    · match k, hk with
      | 0, hk => cases hk; exact k0
      | 1, hk => cases hk; exact k1
      | 2, hk => cases hk; exact k2
      | 3, hk => cases hk; exact k3
      | 4, hk => cases hk; exact k4
      | n + 5, hk => cases hk
    · match k, hk with
      | 0, hk => cases hk; exact ⟨fun n z => ⟨fun k h => (by cases h), kI, a2, pI, a3⟩, a1⟩
      | 1, hk => cases hk; exact ⟨fun n z => ⟨fun k h => (by cases h), kZ, b2, pZ, b3⟩, b1⟩
      | 2, hk => cases hk; exact ⟨fun n z => ⟨fun k h => (by cases h), kG, g2, pG, g3⟩, g4⟩
      | 3, hk => cases hk; exact ⟨fun n z => ⟨fun k h => (by cases h), kP, e3, pP, e4⟩, kP, pP, e3, e4, e1, e5⟩
      | 4, hk => cases hk; exact ⟨fun n z => ⟨fun k h => (by cases h), kB, f3, pB, f4⟩, kB, pB, f3, f4, f1, f5⟩
      | n + 5, hk => cases hk
  obtain ⟨D2, hDe2⟩ : ∃ D : va_G, D = ((fun _ => c5), (fun _ => i5)) := ⟨_, rfl⟩
  have hK2 : va_K D2 mo_cl (mo_tysC ca) s := by
    subst hDe2
    subst hce
    refine ⟨fun k q hk => ?_, fun k q hk => ?_⟩
    · match k, hk with
      | 0, hk => cases hk; exact k5
      | n + 1, hk => cases hk
    · match k, hk with
      | 0, hk => cases hk; exact ⟨fun n z => ⟨fun k h => (by cases h), kI, a2, pI, a3⟩, a1⟩
      | n + 1, hk => cases hk
  have hnil : ∀ (A : Nat → Prop), va_D A [] := fun A => ⟨fun i j p q h => by simp at h, fun k q h => by simp at h⟩
  have S1 : cz_Cx p m c code 4 s #[Value.ref b] cz_T "ChainPeersLaw" D cp_cl (ct_tys ca) cz_N (fun _ => True) (fun _ => []) := ⟨⟨hx, hb, hml, hown, hT⟩, hK1, hN, fun _ => hnil _⟩
  have S2 : cz_Cx p m c code 4 s #[Value.ref b] cz_T "ChainPeersLaw" D2 mo_cl (mo_tysC ca) cz_N (fun _ => True) (fun _ => []) := ⟨⟨hx, hb, hml, hown, hT⟩, hK2, hN, fun _ => hnil _⟩
  have hl := lv_entry ([.ref b] : List Value) (n := 4) (Nat.le_of_ble_eq_true rfl)
  rw [lg_entry_eq]
  generalize (lg_sl ([.ref b]) ++ List.replicate (4 - (lg_sl ([.ref b])).length) Slot.unset).toArray = ls at hl ⊢
  have hl : lv_has ls 4 [(0, .ref b)] := hl
  have hS : va_S (fun q => s.heap.size ≤ q) s.heap s.heap [] := va_S.rf
  have hP : va_P D cp_cl [] s.heap := fun k q h => by simp at h
  refine ct_new S1 hP (hnil _) hS (fun q h => h) in_ChainPeers t_ChainPeers t_ChainPeers_ok mw_9 mw_10 mw_1 (ci := 0) (fs := [.int 0, .int 0, .null, .null, .null, .null, .null, .null, .null, .int 0, .int 0]) rfl bl_ChainPeers (by decide) (by decide) d_LAW_law_0 (fun q0 H hP hD hS => ?_)
  refine lv_dup hx hb d_LAW_law_3 rfl ?_
  refine lv_aload_n hx hb d_LAW_law_4 rfl (lv_at hl 0 rfl) ?_
  refine lv_iconst (v := 0) hx hb d_LAW_law_5 (by decide) ?_
  refine ct_ro (ws := [(q0, .inr (0, [.int 0, .int 0, .null, .null, .null, .null, .null, .null, .null, .int 0, .int 0]))]) (A1 := fun _ => False) (rest := [.ref q0, .ref q0]) (va_runS S1.1 (c_LAW_cell l D cp_cl b L xs 0 (by decide) (by omega)) ⟨cz_CB S1 Y_LAW_cell mw_550 rfl rfl ⟨Nat.le_of_ble_eq_true rfl, Nat.le_of_ble_eq_true rfl⟩, S1.1.2.2.2.2 _ mw_551⟩ ⟨fun a U g mk h => ⟨h.1, va_X.moved (u := U) (U := U.calling g mk a) (Vm.Alike.refl U.vm) h.2⟩, fun U hU hW => ⟨rfl, (va_X.moved hW.alike hX).kept (by rw [hU]; exact hS.2.1 b hbl (by show ¬ s.heap.size ≤ b; omega))⟩⟩ rfl rfl hl.1 rfl (lv_room (Nat.le_of_ble_eq_true rfl)) d_LAW_law_6 ⟨by decide, by decide⟩) hP hS (fun _ _ h => h.elim) (fun _ h => h.elim) (fun H locs hP hS => ?_)
  refine lv_aload_n hx hb d_LAW_law_9 rfl (lv_at hl 0 rfl) ?_
  refine lv_iconst (v := 1) hx hb d_LAW_law_10 (by decide) ?_
  refine ct_ro (ws := [(q0, .inr (0, [.int 0, .int 0, .null, .null, .null, .null, .null, .null, .null, .int 0, .int 0]))]) (A1 := fun _ => False) (rest := [.int (lw_cl L xs 0), .ref q0, .ref q0]) (va_runS S1.1 (c_LAW_cell l D cp_cl b L xs 1 (by decide) (by omega)) ⟨cz_CB S1 Y_LAW_cell mw_550 rfl rfl ⟨Nat.le_of_ble_eq_true rfl, Nat.le_of_ble_eq_true rfl⟩, S1.1.2.2.2.2 _ mw_551⟩ ⟨fun a U g mk h => ⟨h.1, va_X.moved (u := U) (U := U.calling g mk a) (Vm.Alike.refl U.vm) h.2⟩, fun U hU hW => ⟨rfl, (va_X.moved hW.alike hX).kept (by rw [hU]; exact hS.2.1 b hbl (by show ¬ s.heap.size ≤ b; omega))⟩⟩ rfl rfl hl.1 rfl (lv_room (Nat.le_of_ble_eq_true rfl)) d_LAW_law_11 ⟨by decide, by decide⟩) hP hS (fun _ _ h => h.elim) (fun _ h => h.elim) (fun H locs hP hS => ?_)
  refine ct_callP (rest := [.ref q0]) (As := [.int (lw_cl L xs 0), .int (lw_cl L xs 1)]) S1 hl.1 hP hD hS (fun q h => h) hO (c_CP_init l D ca q0 (lw_cl L xs 0) (lw_cl L xs 1)) Y_CP_init rfl mw_11 mw_12 rfl rfl ⟨Nat.le_of_ble_eq_true rfl, Nat.le_of_ble_eq_true rfl⟩ rfl (Nat.le_of_ble_eq_true rfl) ⟨by decide, by decide⟩ rfl d_LAW_law_14 (fun w1 H locs hw hP hD hS => ?_)
  obtain ⟨X, x1, x2, x3, rfl⟩ := hw
  rw [List.append_nil] at hP hD
  refine va_forget (fun q h => hS.2.2 q h) ?_
  refine lv_astore_n (lv' := [(1, .ref q0), (0, .ref b)]) hx hb d_LAW_law_17 rfl hl (by decide) rfl (fun ls hl => ?_)
  have hsz := hS.1
  have hold := hS.2.1
  generalize hA2 : (fun q => Array.size H ≤ q) = A2
  have hA2' : ∀ q, Array.size H ≤ q → A2 q := fun q h => by rw [← hA2]; exact h
  have hA2n : ∀ q, q < Array.size H → ¬ A2 q := fun q h h2 => by rw [← hA2] at h2; have h2 : Array.size H ≤ q := h2; omega
  have hP1 := hP
  have hD1 := hD
  clear hS
  have hS : va_S A2 H H [] := va_S.rf
  have hP : va_P D2 mo_cl [] H := fun k q h => by simp at h
  have hbH : H[b]? = s.heap[b]? := hold b hbl (by show ¬ s.heap.size ≤ b; omega)
  have hbl2 : b < Array.size H := Nat.lt_of_lt_of_le hbl hsz
  refine ct_new S2 hP (hnil _) hS hA2' in_ChainPeersModel t_ChainPeersModel t_ChainPeersModel_ok mw_553 mw_554 mw_7 (ci := 0) (fs := [.int 0, .int 0, .int 0, .int 0, .int 0, .null, .null, .null, .null, .null, .null, .null, .null, .null, .null, .null, .null, .null, .null, .int 0, .null, .int 0, .int 0, .null, .int 0, .null, .int 0, .null]) rfl bl_ChainPeersModel (by decide) (by decide) d_LAW_law_18 (fun q18 H2 hP hD hS => ?_)
  refine lv_dup hx hb d_LAW_law_21 rfl ?_
  refine lv_aload_n hx hb d_LAW_law_22 rfl (lv_at hl 1 rfl) ?_
  refine lv_iconst (v := 0) hx hb d_LAW_law_23 (by decide) ?_
  refine ct_ro (ws := [(q18, .inr (0, [.int 0, .int 0, .int 0, .int 0, .int 0, .null, .null, .null, .null, .null, .null, .null, .null, .null, .null, .null, .null, .null, .null, .int 0, .null, .int 0, .int 0, .null, .int 0, .null, .int 0, .null]))]) (A1 := fun _ => False) (rest := [.ref q18, .ref q18]) (va_runS S2.1 (c_LAW_cell l D2 mo_cl b L xs 0 (by decide) (by omega)) ⟨cz_CB S2 Y_LAW_cell mw_550 rfl rfl ⟨Nat.le_of_ble_eq_true rfl, Nat.le_of_ble_eq_true rfl⟩, S2.1.2.2.2.2 _ mw_551⟩ ⟨fun a U g mk h => ⟨h.1, va_X.moved (u := U) (U := U.calling g mk a) (Vm.Alike.refl U.vm) h.2⟩, fun U hU hW => ⟨rfl, (va_X.moved hW.alike hX).kept (by rw [hU]; exact (hS.2.1 b hbl2 (hA2n b hbl2)).trans hbH)⟩⟩ rfl rfl hl.1 rfl (lv_room (Nat.le_of_ble_eq_true rfl)) d_LAW_law_24 ⟨by decide, by decide⟩) hP hS (fun _ _ h => h.elim) (fun _ h => h.elim) (fun H2 locs hP hS => ?_)
  refine lv_aload_n hx hb d_LAW_law_27 rfl (lv_at hl 1 rfl) ?_
  refine lv_iconst (v := 1) hx hb d_LAW_law_28 (by decide) ?_
  refine ct_ro (ws := [(q18, .inr (0, [.int 0, .int 0, .int 0, .int 0, .int 0, .null, .null, .null, .null, .null, .null, .null, .null, .null, .null, .null, .null, .null, .null, .int 0, .null, .int 0, .int 0, .null, .int 0, .null, .int 0, .null]))]) (A1 := fun _ => False) (rest := [.int (lw_cl L xs 0), .ref q18, .ref q18]) (va_runS S2.1 (c_LAW_cell l D2 mo_cl b L xs 1 (by decide) (by omega)) ⟨cz_CB S2 Y_LAW_cell mw_550 rfl rfl ⟨Nat.le_of_ble_eq_true rfl, Nat.le_of_ble_eq_true rfl⟩, S2.1.2.2.2.2 _ mw_551⟩ ⟨fun a U g mk h => ⟨h.1, va_X.moved (u := U) (U := U.calling g mk a) (Vm.Alike.refl U.vm) h.2⟩, fun U hU hW => ⟨rfl, (va_X.moved hW.alike hX).kept (by rw [hU]; exact (hS.2.1 b hbl2 (hA2n b hbl2)).trans hbH)⟩⟩ rfl rfl hl.1 rfl (lv_room (Nat.le_of_ble_eq_true rfl)) d_LAW_law_29 ⟨by decide, by decide⟩) hP hS (fun _ _ h => h.elim) (fun _ h => h.elim) (fun H2 locs hP hS => ?_)
  refine ct_callP (rest := [.ref q18]) (As := [.int (lw_cl L xs 0), .int (lw_cl L xs 1)]) S2 hl.1 hP hD hS hA2' hO (c_MO_init l D2 ca q18 (lw_cl L xs 0) (lw_cl L xs 1)) Y_MO_init rfl mw_555 mw_556 rfl rfl ⟨Nat.le_of_ble_eq_true rfl, Nat.le_of_ble_eq_true rfl⟩ rfl (Nat.le_of_ble_eq_true rfl) ⟨by decide, by decide⟩ rfl d_LAW_law_32 (fun w1 H3 locs hw hP9 hD9 hS9 => ?_)
  obtain ⟨Y, y1, y2, y3, rfl⟩ := hw
  rw [List.append_nil] at hP9 hD9
  refine va_forget (fun q h => by have h9 := hS9.2.2 q h; rw [← hA2] at h9; exact Nat.le_trans hsz h9) ?_
  refine lv_astore_n (lv' := [(2, .ref q18), (1, .ref q0), (0, .ref b)]) hx hb d_LAW_law_35 rfl hl (by decide) rfl (fun ls hl => ?_)
  refine lv_iconst (v := 2) hx hb d_LAW_law_36 (by decide) ?_
  refine lv_istore_n (lv' := [(3, .int 2), (2, .ref q18), (1, .ref q0), (0, .ref b)]) hx hb d_LAW_law_37 rfl hl (by decide) rfl (fun ls hl => ?_)
  subst x3
  subst y3
  subst x1
  subst y1
  have hP3 : va_P X.1 cp_cl (cp_wl X (cp_M0 (lw_cl L xs 0) (lw_cl L xs 1))) H3 := hP1.kept (fun k q hq => hS9.2.1 q.1 (hP1 k q hq).lt (hA2n _ (hP1 k q hq).lt))
  have i1 := cz_inj hD1
  have i2 := cz_inj hD9
  have hlt : ∀ i, i < 109 → X.2.1 i < Array.size H := fun i hi => (hP1 i _ (cz_at hi rfl)).lt
  have G : lw_G p s m c b L xs X Y := by
    refine ⟨⟨⟨hx, hb, hml, hown, hT⟩, ?_, hN, cz_D i1.1 (fun i hi => ⟨i, hi, rfl⟩)⟩, ⟨⟨hx, hb, hml, hown, hT⟩, ?_, hN, cz_D i2.1 (fun i hi => ⟨i, hi, rfl⟩)⟩, hX, hbl, fun i hi => i1.2 i hi, fun j hj => ?_, fun i hi j hj he => ?_⟩
    · show va_K X.1 cp_cl (ct_tys X.2.2) s
      rw [x2]
      exact hK1
    · show va_K Y.1 mo_cl (mo_tysC Y.2.2) s
      rw [y2]
      exact hK2
    · have h9 := i2.2 j hj
      rw [← hA2] at h9
      exact Nat.le_trans hsz h9
    · have h9 := i2.2 j hj
      rw [← hA2] at h9
      have h9 : Array.size H ≤ Y.2.1 j := h9
      have := hlt i hi
      omega
  refine W.widen (k := 600000) (n := 7302250) (by decide) (by decide) ?_
  exact lw_loop G hr hlocks 600 _ _ 2 (hp (lw_cl L xs 0) (lw_cl L xs 1) L xs hL) H3 ls ⟨hP3, hP9, Nat.le_trans hsz hS9.1, fun q hq => (hS9.2.1 q (Nat.lt_of_lt_of_le hq hsz) (hA2n q (Nat.lt_of_lt_of_le hq hsz))).trans (hold q hq (by show ¬ s.heap.size ≤ q; omega))⟩ (lv_sub hl [3, 2, 1, 0] rfl)
