/-! PURE: what writing a message leaves alone; lists of numbers written -/
def dC (C C' : cz_M) : Prop := ∀ k, k ≠ 12 → k ≠ 13 → C'.1 k = C.1 k
def dM (m m' : cz_M) : Prop := ∀ k, k ≠ 0 → k ≠ 18 → m'.1 k = m.1 k
theorem dC.rf (C : cz_M) : dC C C := fun _ _ _ => rfl
theorem dM.rf (C : cz_M) : dM C C := fun _ _ _ => rfl
theorem dC.tr {A B C : cz_M} (h1 : dC A B) (h2 : dC B C) : dC A C := fun k a b => (h2 k a b).trans (h1 k a b)
theorem dM.tr {A B C : cz_M} (h1 : dM A B) (h2 : dM B C) : dM A C := fun k a b => (h2 k a b).trans (h1 k a b)
theorem fr_add {C C' : cz_M} {v : Int32} (h : f_Bytes_add C 12 v = some C') : dC C C' := by
  rw [f_Bytes_add] at h
  split at h
  · rw [← Option.some.inj h]
    exact dC.rf C
  · split at h
    · exact absurd h (by simp)
    · rw [← Option.some.inj h]
      intro k k1 k2
      rw [pi_row _ _ _ _ k1, pi_row _ _ _ _ k2]
theorem fr_lp {a : Int32} : ∀ (f : Nat) (C C' : cz_M) (v : Int32), cz_lp2 (l_Bytes_addNumber_40 12 a) f C v = some C' → dC C C' := by
  intro f
  induction f with
  | zero =>
    intro C C' v h
    exact absurd h (by simp [cz_lp2])
  | succ f ih =>
    intro C C' v h
    rw [cz_lp2_s, l_Bytes_addNumber_40] at h
    split at h
    · rw [← Option.some.inj h]
      exact dC.rf C
    · cases e : f_Bytes_add C 12 ((cz_iushr a ((8 : Int32) * v)) &&& (255 : Int32)) with
      | none =>
        rw [e] at h
        exact absurd h (by simp [cz_bv])
      | some C1 =>
        rw [e, pb_v] at h
        exact (fr_add e).tr (ih C1 C' _ h)
theorem fr_cl {C C' : cz_M} {v r : Int32} (h : f_Bytes_codeLength C v = some (r, C')) : C' = C := by
  rw [f_Bytes_codeLength] at h
  split at h
  · split at h
    · split at h
      · split at h
        · exact (Prod.mk.inj (Option.some.inj h)).2.symm
        · exact (Prod.mk.inj (Option.some.inj h)).2.symm
      · exact (Prod.mk.inj (Option.some.inj h)).2.symm
    · exact (Prod.mk.inj (Option.some.inj h)).2.symm
  · exact (Prod.mk.inj (Option.some.inj h)).2.symm
theorem fr_b23 {a : Int32} {C C' : cz_M} {v : Int32} (h : b_Bytes_addNumber_23 12 a C v = some C') : dC C C' := by
  rw [b_Bytes_addNumber_23] at h
  cases e : f_Bytes_add C 12 v with
  | none =>
    rw [e] at h
    exact absurd h (by simp [cz_bv])
  | some C1 =>
    rw [e, pb_v] at h
    rw [← Option.some.inj h]
    exact fr_add e
theorem fr_num {C C' : cz_M} {v : Int32} (h : f_Bytes_addNumber C 12 v = some C') : dC C C' := by
  rw [f_Bytes_addNumber] at h
  cases e : f_Bytes_codeLength C v with
  | none =>
    rw [e] at h
    exact absurd h (by simp [cz_bi])
  | some x =>
    obtain ⟨r, C1⟩ := x
    have e1 := fr_cl e
    subst e1
    rw [e, pb_i] at h
    split at h
    · split at h
      · exact fr_b23 h
      · exact fr_b23 h
    · cases e2 : f_Bytes_add C1 12 ((128 : Int32) + (r - (1 : Int32))) with
      | none =>
        rw [e2] at h
        exact absurd h (by simp [cz_bv])
      | some C2 =>
        rw [e2, pb_v] at h
        exact (fr_add e2).tr (fr_lp _ _ _ _ h)
theorem fr_opn {C C' : cz_M} {r : Int32} (h : f_Bytes_beginList C 12 = some (r, C')) : dC C C' := by
  rw [f_Bytes_beginList] at h
  cases e : f_Bytes_add C 12 192 with
  | none =>
    rw [e] at h
    exact absurd h (by simp [cz_bv])
  | some C1 =>
    rw [e, pb_v] at h
    rw [← (Prod.mk.inj (Option.some.inj h)).2]
    exact fr_add e
theorem fr_begin {C C' : cz_M} {v : Int32} (h : f_Bytes_begin C 12 v = some C') : dC C C' := by
  rw [f_Bytes_begin] at h
  cases e : f_Bytes_beginList (cz_i C 12 1 0) 12 with
  | none =>
    rw [e] at h
    exact absurd h (by simp [cz_bi])
  | some x =>
    obtain ⟨r, C1⟩ := x
    rw [e, pb_i] at h
    cases e2 : f_Bytes_addNumber C1 12 v with
    | none =>
      rw [e2] at h
      exact absurd h (by simp [cz_bv])
    | some C2 =>
      rw [e2, pb_v] at h
      rw [← Option.some.inj h]
      have e0 : dC C (cz_i C 12 1 0) := fun k k1 _ => pi_row _ _ _ _ k1
      exact (e0.tr (fr_opn e)).tr (fr_num e2)
theorem fr_close {C C' : cz_M} {v : Int32} (h : f_Bytes_endList C 12 v = some C') : dC C C' := by
  rw [f_Bytes_endList] at h
  split at h
  · rw [← Option.some.inj h]
    exact dC.rf C
  · split at h
    · rw [← Option.some.inj h]
      exact dC.rf C
    · split at h
      · exact absurd h (by simp)
      · rw [← Option.some.inj h]
        exact fun k _ k2 => pi_row _ _ _ _ k2
theorem fm_lp {a : Int32} : ∀ (f : Nat) (m m' : cz_M) (v2 v3 : Int32), cz_lp3 (l_MO_write_89 a) f m v2 v3 = some m' → dM m m' := by
  intro f
  induction f with
  | zero =>
    intro m m' v2 v3 h
    exact absurd h (by simp [cz_lp3])
  | succ f ih =>
    intro m m' v2 v3 h
    rw [cz_lp3_s, l_MO_write_89] at h
    split at h
    · rw [b_MO_write_123] at h
      rw [← Option.some.inj h]
      exact fun k k1 _ => pi_row _ _ _ _ k1
    · split at h
      · exact absurd h (by simp)
      · have e0 := ih _ _ _ _ h
        exact fun k k1 k2 => (e0 k k1 k2).trans (pi_row _ _ _ _ k2)
theorem fm_72 {a s : Int32} {m m' : cz_M} (h : b_MO_write_72 a m s = some m') : dM m m' := by
  rw [b_MO_write_72] at h
  split at h
  · exact absurd h (by simp)
  · have e0 := fm_lp _ _ _ _ _ h
    exact fun k k1 k2 => (e0 k k1 k2).trans (pi_row _ _ _ _ k2)
theorem fm_32 {a : Int32} {m m' : cz_M} (h : b_MO_write_32 a m = some m') : dM m m' := by
  rw [b_MO_write_32] at h
  split at h
  · exact fm_72 h
  · split at h
    · split at h
      · split at h
        · exact fm_72 h
        · exact fm_72 h
      · exact fm_72 h
    · exact fm_72 h
theorem fm_write {a : Int32} {m m' : cz_M} (h : f_MO_write m a = some m') : dM m m' := by
  rw [f_MO_write] at h
  split at h
  · exact fm_32 h
  · split at h
    · exact fm_32 h
    · split at h
      · exact absurd h (by simp)
      · rw [← Option.some.inj h]
        exact fun k k1 k2 => by rw [pi_row _ _ _ _ k1, pi_row _ _ _ _ k2]
theorem fm_start {a c : Int32} {m m' : cz_M} (h : f_MO_start m a c = some m') : dM m m' := by
  rw [f_MO_start] at h
  cases e : f_MO_write (cz_i m 0 26 0) a with
  | none =>
    rw [e] at h
    exact absurd h (by simp [cz_bv])
  | some m1 =>
    rw [e, pb_v] at h
    cases e2 : f_MO_write m1 c with
    | none =>
      rw [e2] at h
      exact absurd h (by simp [cz_bv])
    | some m2 =>
      rw [e2, pb_v] at h
      rw [← Option.some.inj h]
      have e0 : dM m (cz_i m 0 26 0) := fun k k1 _ => pi_row _ _ _ _ k1
      exact (e0.tr (fm_write e)).tr (fm_write e2)
/-- codes of h i, h (i + 1) .. -/
def enL (h : Nat → Nat) (i : Nat) : Nat → List Int32
  | 0 => []
  | n + 1 => en (h i) ++ enL h (i + 1) n
theorem enL_byt (h : Nat → Nat) : ∀ (n i : Nat), byt (enL h i n)
  | 0, _ => byt.nil
  | n + 1, i => (byt.en _).app (enL_byt h n (i + 1))
theorem enL_len (h : Nat → Nat) : ∀ (n i : Nat), (enL h i n).length ≤ 5 * n
  | 0, _ => by simp [enL]
  | n + 1, i => by
    have := enL_len h n (i + 1)
    have := en_len5 (h i)
    rw [enL, List.length_append]
    omega
theorem enL_len17 {h : Nat → Nat} (h1 : h 1 < 128) (h3 : h 3 < 128) : (enL h 0 5).length ≤ 17 := by
  have a0 := en_len5 (h 0)
  have a1 := en_len1 h1
  have a2 := en_len5 (h 2)
  have a3 := en_len1 h3
  have a4 := en_len5 (h 4)
  show (en (h 0) ++ (en (h 1) ++ (en (h 2) ++ (en (h 3) ++ (en (h 4) ++ []))))).length ≤ 17
  simp only [List.length_append, List.length_nil]
  omega
theorem cD_hdr {q : Nat} {h : Nat → Nat} (v2 : Int32) (hq : cp_ln q = 5) (q1 : q ≠ 12) (q2 : q ≠ 13) (hh : ∀ i, i < 5 → h i < 2 ^ 31) : ∀ (r j f : Nat) (C : cz_M) (xs : List Int32), j + r = 5 → r < f → (∀ i, i < 5 → C.1 q i = nI (h i)) → cD C xs → xs.length + (enL h j r).length ≤ 56 → ∃ C', cz_lp3 (l_Bytes_addHeader_7 12 q) f C v2 (nI j) = b_Bytes_addHeader_25 12 q C' v2 ∧ cD C' (xs ++ enL h j r) ∧ eC C C' ∧ dC C C' := by
  intro r
  induction r with
  | zero =>
    intro j f C xs hj hf hC hx hl
    obtain ⟨f, rfl⟩ : ∃ g, f = g + 1 := ⟨f - 1, by omega⟩
    have e : j = 5 := by omega
    subst e
    refine ⟨C, by rw [cz_lp3_s, l_Bytes_addHeader_7, if_pos (by decide)], ?_, eC.rf C, dC.rf C⟩
    rw [enL, List.append_nil]
    exact hx
  | succ r ih =>
    intro j f C xs hj hf hC hx hl
    obtain ⟨f, rfl⟩ : ∃ g, f = g + 1 := ⟨f - 1, by omega⟩
    rw [enL, List.length_append] at hl
    obtain ⟨C1, a1, a2, a3⟩ := hx.num (hh j (by omega)) (by omega)
    have a4 := fr_num a1
    obtain ⟨C', b1, b2, b3, b4⟩ := ih (j + 1) f C1 _ (by omega) (by omega) (fun i hi => by rw [a4 q q1 q2]; exact hC i hi) a2 (by rw [List.length_append]; omega)
    refine ⟨C', ?_, ?_, a3.tr b3, a4.tr b4⟩
    · rw [cz_lp3_s, l_Bytes_addHeader_7, if_neg (show ¬ (5 : Int32) ≤ nI j from nI_ge (b := 5) (by omega) (by decide)), hq, pc_in (show j < 5 by omega) (by decide), nI_clamp (by omega), hC j (by omega), a1, pb_v, nI_1]
      exact b1
    · rw [enL]
      rw [List.append_assoc] at b2
      exact b2
/-- a header's code -/
def enH (h : Nat → Nat) : List Int32 := nI (192 + (enL h 0 5).length) :: enL h 0 5
theorem enH_len {h : Nat → Nat} (h1 : h 1 < 128) (h3 : h 3 < 128) : (enH h).length ≤ 18 := by
  have := enL_len17 h1 h3
  rw [enH, List.length_cons]
  omega
theorem enH_byt {h : Nat → Nat} (h1 : h 1 < 128) (h3 : h 3 < 128) : byt (enH h) := byt.cons (by have := enL_len17 h1 h3; omega) rfl (enL_byt h 5 0)
theorem cD.hdr {q : Nat} {h : Nat → Nat} {C : cz_M} {xs : List Int32} (hx : cD C xs) (hq : cp_ln q = 5) (q1 : q ≠ 12) (q2 : q ≠ 13) (hh : ∀ i, i < 5 → h i < 2 ^ 31) (hC : ∀ i, i < 5 → C.1 q i = nI (h i)) (h1 : h 1 < 128) (h3 : h 3 < 128) (hl : xs.length ≤ 38) : ∃ C', f_Bytes_addHeader C 12 q = some C' ∧ cD C' (xs ++ enH h) ∧ eC C C' ∧ dC C C' := by
  have h17 := enL_len17 h1 h3
  obtain ⟨C1, a1, a2, a3⟩ := hx.opn (by omega)
  have a4 := fr_opn a1
  obtain ⟨C2, b1, b2, b3, b4⟩ := cD_hdr (q := q) (h := h) (nI xs.length) hq q1 q2 hh 5 0 100 C1 (xs ++ [192]) (by omega) (by omega) (fun i hi => by rw [a4 q q1 q2]; exact hC i hi) a2 (by rw [List.length_append, List.length_singleton]; omega)
  rw [List.append_assoc] at b2
  obtain ⟨C3, c1, c2, c3⟩ := cD.close (as := xs) (bs := enL h 0 5) b2
  refine ⟨C3, ?_, c2, (a3.tr b3).tr c3, (a4.tr b4).tr (fr_close c1)⟩
  have b1 : cz_lp3 (l_Bytes_addHeader_7 12 q) 100 C1 (nI xs.length) 0 = _ := b1
  rw [f_Bytes_addHeader, a1, pb_i, b1, b_Bytes_addHeader_25, c1, pb_v]
/-- the reference writes a header -/
theorem mD_hdr {k : Nat} {h : Nat → Nat} (a1 a2 : Int32) (rec : cz_M → Int32 → Int32 → Option (Int32 × cz_M)) (v3 v4 v6 : Int32) (hk : k < 20) (hh : ∀ i, i < 5 → h i < 2 ^ 31) : ∀ (r j f : Nat) (m : cz_M) (xs : List Int32), j + r = 5 → r < f → (∀ i, i < 5 → m.1 1 (5 * k + i) = nI (h i)) → mD m xs → xs.length + (enL h j r).length ≤ 60 → ∃ m', cz_lp6 (l_MO_hear_118 a1 a2 rec) f m v3 v4 (nI k) v6 (nI j) = b_MO_hear_151 a1 a2 rec m' v3 v4 (nI k) v6 ∧ mD m' (xs ++ enL h j r) ∧ eM m m' ∧ dM m m' := by
  intro r
  induction r with
  | zero =>
    intro j f m xs hj hf hm hx hl
    obtain ⟨f, rfl⟩ : ∃ g, f = g + 1 := ⟨f - 1, by omega⟩
    have e : j = 5 := by omega
    subst e
    refine ⟨m, by rw [cz_lp6_s, l_MO_hear_118, if_pos (by decide)], ?_, eM.rf m, dM.rf m⟩
    rw [enL, List.append_nil]
    exact hx
  | succ r ih =>
    intro j f m xs hj hf hm hx hl
    obtain ⟨f, rfl⟩ : ∃ g, f = g + 1 := ⟨f - 1, by omega⟩
    rw [enL, List.length_append] at hl
    obtain ⟨m1, b1, b2, b3⟩ := hx.num (hh j (by omega)) (by omega)
    have b4 := fm_write b1
    obtain ⟨m', c1, c2, c3, c4⟩ := ih (j + 1) f m1 _ (by omega) (by omega) (fun i hi => by rw [b4 1 (by decide) (by decide)]; exact hm i hi) b2 (by rw [List.length_append]; omega)
    refine ⟨m', ?_, ?_, b3.tr c3, b4.tr c4⟩
    · rw [cz_lp6_s, l_MO_hear_118, if_neg (show ¬ (5 : Int32) ≤ nI j from nI_ge (b := 5) (by omega) (by decide)), if_neg (pn_lt0 (by omega)), show (5 : Int32) * nI k = nI (5 * k) from pk_mul 5 k, nI_add, pc_in (show 5 * k + j < mo_ln 1 by show _ < 100; omega) (by decide), nI_clamp (by omega), hm j (by omega), b1, pb_v, nI_1]
      exact c1
    · rw [enL]
      rw [List.append_assoc] at c2
      exact c2
/-- a body's numbers, on the two sides -/
theorem cD_bod {k s : Nat} {h : Nat → Nat} (q : Nat) (v3 : Int32) (hk : k < 20) (hs : s ≤ 8) (hh : ∀ i, i < s → h i < 2 ^ 31) : ∀ (r j f : Nat) (C : cz_M) (xs : List Int32), j + r = s → r < f → C.1 25 k = nI s → (∀ i, i < s → C.1 (89 + k) i = nI (h i)) → cD C xs → xs.length + (enL h j r).length ≤ 56 → ∃ C', cz_lp4 (l_CP_sendBody_65 q) f C (nI k) v3 (nI j) = b_CP_sendBody_104 q C' v3 ∧ cD C' (xs ++ enL h j r) ∧ eC C C' ∧ dC C C' := by
  intro r
  induction r with
  | zero =>
    intro j f C xs hj hf h25 hC hx hl
    obtain ⟨f, rfl⟩ : ∃ g, f = g + 1 := ⟨f - 1, by omega⟩
    refine ⟨C, by rw [cz_lp4_s, l_CP_sendBody_65, pc_in (show k < cp_ln 25 by show k < 20; omega) (by decide), nI_clamp (show k < 2 ^ 31 by omega), h25, if_pos (nI_le (by omega) (by omega))], ?_, eC.rf C, dC.rf C⟩
    rw [enL, List.append_nil]
    exact hx
  | succ r ih =>
    intro j f C xs hj hf h25 hC hx hl
    obtain ⟨f, rfl⟩ : ∃ g, f = g + 1 := ⟨f - 1, by omega⟩
    rw [enL, List.length_append] at hl
    obtain ⟨C1, a1, a2, a3⟩ := hx.num (hh j (by omega)) (by omega)
    have a4 := fr_num a1
    obtain ⟨C', b1, b2, b3, b4⟩ := ih (j + 1) f C1 _ (by omega) (by omega) (by rw [a4 25 (by decide) (by decide)]; exact h25) (fun i hi => by rw [a4 _ (by omega) (by omega)]; exact hC i hi) a2 (by rw [List.length_append]; omega)
    refine ⟨C', ?_, ?_, a3.tr b3, a4.tr b4⟩
    · rw [cz_lp4_s, l_CP_sendBody_65, pc_in (show k < cp_ln 25 by show k < 20; omega) (by decide), pc_in (show k < 20 by omega) (by decide), nI_clamp (show k < 2 ^ 31 by omega), h25, if_neg (nI_ge (by omega) (by omega)), cp_ln89 hk, pc_in (show j < 8 by omega) (by decide), nI_clamp (show j < 2 ^ 31 by omega), hC j (by omega), a1, pb_v, nI_1]
      exact b1
    · rw [enL]
      rw [List.append_assoc] at b2
      exact b2
theorem mD_bod {k s : Nat} {h : Nat → Nat} (a1 a2 v3 : Int32) (hk : k < 20) (hs : s ≤ 8) (hh : ∀ i, i < s → h i < 2 ^ 31) : ∀ (r j f : Nat) (m : cz_M) (xs : List Int32), j + r = s → r < f → m.1 3 k = nI s → (∀ i, i < s → m.1 2 (8 * k + i) = nI (h i)) → mD m xs → xs.length + (enL h j r).length ≤ 60 → ∃ m', cz_lp4 (l_MO_hear_210 a1 a2) f m v3 (nI k) (nI j) = b_MO_hear_245 a1 a2 m' v3 ∧ mD m' (xs ++ enL h j r) ∧ eM m m' ∧ dM m m' := by
  intro r
  induction r with
  | zero =>
    intro j f m xs hj hf h3 hm hx hl
    obtain ⟨f, rfl⟩ : ∃ g, f = g + 1 := ⟨f - 1, by omega⟩
    refine ⟨m, by rw [cz_lp4_s, l_MO_hear_210, pc_in (show k < mo_ln 3 by show k < 20; omega) (by decide), nI_clamp (show k < 2 ^ 31 by omega), h3, if_pos (nI_le (by omega) (by omega))], ?_, eM.rf m, dM.rf m⟩
    rw [enL, List.append_nil]
    exact hx
  | succ r ih =>
    intro j f m xs hj hf h3 hm hx hl
    obtain ⟨f, rfl⟩ : ∃ g, f = g + 1 := ⟨f - 1, by omega⟩
    rw [enL, List.length_append] at hl
    obtain ⟨m1, b1, b2, b3⟩ := hx.num (hh j (by omega)) (by omega)
    have b4 := fm_write b1
    obtain ⟨m', c1, c2, c3, c4⟩ := ih (j + 1) f m1 _ (by omega) (by omega) (by rw [b4 3 (by decide) (by decide)]; exact h3) (fun i hi => by rw [b4 2 (by decide) (by decide)]; exact hm i hi) b2 (by rw [List.length_append]; omega)
    refine ⟨m', ?_, ?_, b3.tr c3, b4.tr c4⟩
    · rw [cz_lp4_s, l_MO_hear_210, pc_in (show k < mo_ln 3 by show k < 20; omega) (by decide), nI_clamp (show k < 2 ^ 31 by omega), h3, if_neg (nI_ge (by omega) (by omega)), show (8 : Int32) * nI k = nI (8 * k) from pk_mul 8 k, nI_add, pc_in (show 8 * k + j < mo_ln 2 by show _ < 160; omega) (by decide), nI_clamp (show 8 * k + j < 2 ^ 31 by omega), hm j (by omega), b1, pb_v, nI_1]
      exact c1
    · rw [enL]
      rw [List.append_assoc] at c2
      exact c2
