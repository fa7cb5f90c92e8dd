/-! PURE: how messages are written -/
def lD (f : Nat → Int32) (xs : List Int32) : Prop := ∀ i v, xs[i]? = some v → f i = v
theorem lD.nil (f : Nat → Int32) : lD f [] := fun i v h => by simp at h
theorem lD.push {f g : Nat → Int32} {xs : List Int32} {v : Int32} (h : lD f xs) (h1 : ∀ i, i < xs.length → g i = f i) (h2 : g xs.length = v) : lD g (xs ++ [v]) := by
  intro i w hw
  by_cases e : i < xs.length
  · rw [List.getElem?_append_left e] at hw
    rw [h1 i e]
    exact h i w hw
  · rw [List.getElem?_append_right (by omega)] at hw
    have e2 : i = xs.length := by
      have := (List.getElem?_eq_some_iff.mp hw).1
      simp at this
      omega
    subst e2
    simp at hw
    rw [h2, hw]
theorem lD.cong {f g : Nat → Int32} {xs : List Int32} (h : lD f xs) (h1 : ∀ i, i < xs.length → g i = f i) : lD g xs := fun i v hv => by
  rw [h1 i (List.getElem?_eq_some_iff.mp hv).1]
  exact h i v hv
def cD (C : cz_M) (xs : List Int32) : Prop := xs.length ≤ 56 ∧ C.1 12 1 = nI xs.length ∧ lD (C.1 13) xs
def mD (m : cz_M) (xs : List Int32) : Prop := xs.length ≤ 60 ∧ m.1 0 26 = nI xs.length ∧ lD (m.1 18) xs
/-- the last r bytes of k -/
def en_b (k : Nat) : Nat → List Int32
  | 0 => []
  | r + 1 => nI (k / 2 ^ (8 * r) % 256) :: en_b k r
theorem en_b_len (k : Nat) : ∀ r, (en_b k r).length = r
  | 0 => rfl
  | r + 1 => by rw [en_b, List.length_cons, en_b_len k r]
/-- how many bytes behind the first -/
def en_n (k : Nat) : Nat := if k < 128 then 0 else if k < 256 then 1 else if k < 65536 then 2 else if k < 16777216 then 3 else 4
/-- the code of a number -/
def en (k : Nat) : List Int32 := if k = 0 then [128] else if k < 128 then [nI k] else nI (128 + en_n k) :: en_b k (en_n k)
theorem en_n_le (k : Nat) : en_n k ≤ 4 := by
  unfold en_n
  split
  · omega
  · split
    · omega
    · split
      · omega
      · split <;> omega
theorem en_len (k : Nat) : (en k).length = 1 + en_n k := by
  unfold en
  by_cases e : k = 0
  · subst e
    rfl
  · rw [if_neg e]
    by_cases e2 : k < 128
    · rw [if_pos e2]
      unfold en_n
      rw [if_pos e2]
      rfl
    · rw [if_neg e2, List.length_cons, en_b_len]
      omega
theorem en_b_byte (k : Nat) : ∀ r x, x ∈ en_b k r → ∃ b, b < 256 ∧ x = nI b
  | 0, x, h => by cases h
  | r + 1, x, h => by
    rcases List.mem_cons.mp h with h | h
    · exact ⟨_, Nat.mod_lt _ (by decide), h⟩
    · exact en_b_byte k r x h
theorem en_byte (k : Nat) {x : Int32} (h : x ∈ en k) : ∃ b, b < 256 ∧ x = nI b := by
  unfold en at h
  by_cases e : k = 0
  · rw [if_pos e] at h
    exact ⟨128, by omega, List.mem_singleton.mp h⟩
  · rw [if_neg e] at h
    by_cases e2 : k < 128
    · rw [if_pos e2] at h
      exact ⟨k, by omega, List.mem_singleton.mp h⟩
    · rw [if_neg e2] at h
      rcases List.mem_cons.mp h with h | h
      · exact ⟨_, by have := en_n_le k; omega, h⟩
      · exact en_b_byte k _ x h
theorem cD.add {C : cz_M} {xs : List Int32} (h : cD C xs) (h56 : xs.length < 56) (v : Int32) : ∃ C', f_Bytes_add C 12 v = some C' ∧ cD C' (xs ++ [v]) ∧ eC C C' := by
  obtain ⟨h1, h2, h3⟩ := h
  rw [cp_add (by rfl) h2 h56]
  refine ⟨_, rfl, ⟨by simp; omega, by rw [pi_same, List.length_append]; rfl, ?_⟩, (eC.i (by omega)).tr (eC.i (by omega))⟩
  rw [pi_row _ _ _ _ (show (13 : Nat) ≠ 12 by decide)]
  exact h3.push (fun i hi => by rw [pi_get, if_neg (by omega)]) (by rw [pi_same])
theorem pn_ub {k r : Nat} (hk : k < 2 ^ 31) (hr : r < 4) : (cz_iushr (nI k) (8 * nI r)) &&& 255 = nI (k / 2 ^ (8 * r) % 256) := by
  have : r = 0 ∨ r = 1 ∨ r = 2 ∨ r = 3 := by omega
  have e : cz_iushr (nI k) (8 * nI r) = nI (k / 2 ^ (8 * r)) := by
    unfold cz_iushr
    exact pk_ushrN (by omega) (8 * nI r) (8 * r) (by rcases this with rfl | rfl | rfl | rfl <;> decide)
  rw [e]
  exact pk_andN (m := 255) (Nat.lt_of_le_of_lt (Nat.div_le_self _ _) (by omega)) 8 (by decide)
theorem pn_sb {k r : Nat} (hk : k < 2 ^ 31) (hr : r < 4) : (nI k >>> ((8 * nI r) &&& 31)) &&& 255 = nI (k / 2 ^ (8 * r) % 256) := by
  have : r = 0 ∨ r = 1 ∨ r = 2 ∨ r = 3 := by omega
  have e : nI k >>> ((8 * nI r) &&& 31) = nI (k / 2 ^ (8 * r)) := pk_shrN hk _ (8 * r) (by rcases this with rfl | rfl | rfl | rfl <;> decide)
  rw [e]
  exact pk_andN (m := 255) (Nat.lt_of_le_of_lt (Nat.div_le_self _ _) (by omega)) 8 (by decide)
theorem cD_bytes {k : Nat} (hk : k < 2 ^ 31) : ∀ (r f : Nat) (C : cz_M) (xs : List Int32), r ≤ 4 → r < f → cD C xs → xs.length + r ≤ 56 → ∃ C', cz_lp2 (l_Bytes_addNumber_40 12 (nI k)) f C (nI r - 1) = some C' ∧ cD C' (xs ++ en_b k r) ∧ eC C C' := by
  intro r
  induction r with
  | zero =>
    intro f C xs _ hf h _
    obtain ⟨f, rfl⟩ : ∃ g, f = g + 1 := ⟨f - 1, by omega⟩
    refine ⟨C, by rw [cz_lp2_s, l_Bytes_addNumber_40, if_pos (by decide)], ?_, eC.rf C⟩
    rw [en_b, List.append_nil]
    exact h
  | succ r ih =>
    intro f C xs h4 hf h hl
    obtain ⟨f, rfl⟩ : ∃ g, f = g + 1 := ⟨f - 1, by omega⟩
    obtain ⟨C1, a1, a2, a3⟩ := h.add (by omega) (nI (k / 2 ^ (8 * r) % 256))
    obtain ⟨C2, b1, b2, b3⟩ := ih f C1 (xs ++ [nI (k / 2 ^ (8 * r) % 256)]) (by omega) (by omega) a2 (by simp; omega)
    refine ⟨C2, ?_, ?_, a3.tr b3⟩
    · rw [nI_pred, cz_lp2_s, l_Bytes_addNumber_40, if_neg (pn_lt0 (by omega)), pn_ub hk (by omega), a1, pb_v]
      exact b1
    · rw [en_b]
      rw [List.append_assoc] at b2
      exact b2
theorem cp_codeLength {M : cz_M} {k : Nat} (hk : k < 2 ^ 31) : f_Bytes_codeLength M (nI k) = some (nI (1 + en_n k), M) := by
  rw [f_Bytes_codeLength]
  unfold en_n
  by_cases e1 : k < 128
  · rw [if_neg (show ¬ (128 : Int32) ≤ nI k from nI_ge (b := 128) e1 (by decide)), if_pos e1]
    rfl
  rw [if_pos (show (128 : Int32) ≤ nI k from nI_le (a := 128) (by omega) hk), if_neg e1]
  by_cases e2 : k < 256
  · rw [if_neg (show ¬ (256 : Int32) ≤ nI k from nI_ge (b := 256) e2 (by decide)), if_pos e2]
    rfl
  rw [if_pos (show (256 : Int32) ≤ nI k from nI_le (a := 256) (by omega) hk), if_neg e2]
  by_cases e3 : k < 65536
  · rw [if_neg (show ¬ (65536 : Int32) ≤ nI k from nI_ge (b := 65536) e3 (by decide)), if_pos e3]
    rfl
  rw [if_pos (show (65536 : Int32) ≤ nI k from nI_le (a := 65536) (by omega) hk), if_neg e3]
  by_cases e4 : k < 16777216
  · rw [if_neg (show ¬ (16777216 : Int32) ≤ nI k from nI_ge (b := 16777216) e4 (by decide)), if_pos e4]
    rfl
  rw [if_pos (show (16777216 : Int32) ≤ nI k from nI_le (a := 16777216) (by omega) hk), if_neg e4]
  rfl
theorem cD.num {C : cz_M} {xs : List Int32} {k : Nat} (h : cD C xs) (hk : k < 2 ^ 31) (hl : xs.length + (en k).length ≤ 56) : ∃ C', f_Bytes_addNumber C 12 (nI k) = some C' ∧ cD C' (xs ++ en k) ∧ eC C C' := by
  rw [en_len] at hl
  have h4 := en_n_le k
  rw [f_Bytes_addNumber, cp_codeLength hk, pb_i, show nI (1 + en_n k) - (1 : Int32) = nI (en_n k) by rw [Nat.add_comm]; exact nI_pred _]
  by_cases e : k < 128
  · have e0 : en_n k = 0 := by
      unfold en_n
      rw [if_pos e]
    rw [e0, if_pos nI_0]
    by_cases e1 : k = 0
    · subst e1
      obtain ⟨C1, a1, a2, a3⟩ := h.add (by omega) 128
      refine ⟨C1, ?_, a2, a3⟩
      rw [if_pos nI_0, b_Bytes_addNumber_23, a1, pb_v]
    · obtain ⟨C1, a1, a2, a3⟩ := h.add (by omega) (nI k)
      refine ⟨C1, ?_, ?_, a3⟩
      · rw [if_neg (nI_ne0 (by omega) hk), b_Bytes_addNumber_23, a1, pb_v]
      · unfold en
        rw [if_neg e1, if_pos e]
        exact a2
  · have e0 : 1 ≤ en_n k := by
      unfold en_n
      rw [if_neg e]
      split
      · omega
      · split
        · omega
        · split <;> omega
    obtain ⟨C1, a1, a2, a3⟩ := h.add (by omega) (nI (128 + en_n k))
    obtain ⟨C2, b1, b2, b3⟩ := cD_bytes hk (en_n k) 100 C1 _ h4 (by omega) a2 (by simp; omega)
    refine ⟨C2, ?_, ?_, a3.tr b3⟩
    · rw [if_neg (nI_ne0 (by omega) (by omega)), show (128 : Int32) + nI (en_n k) = nI (128 + en_n k) from nI_add 128 _, a1, pb_v]
      exact b1
    · unfold en
      rw [if_neg (by omega), if_neg e]
      rw [List.append_assoc] at b2
      exact b2
/-! the reference's side -/
theorem mo_wr_lp {v n w : Nat} (hv : v < 2 ^ 31) (hn : n ≤ 4) : ∀ (r k f : Nat) (m : cz_M) (xs : List Int32), k + r = n + 1 → r < f → 1 ≤ k → xs.length = w + k → w + n < 60 → m.1 0 26 = nI w → lD (m.1 18) xs → ∃ m', cz_lp3 (l_MO_write_89 (nI v)) f m (nI n) (nI k) = some (cz_i m' 0 26 (nI (w + (1 + n)))) ∧ lD (m'.1 18) (xs ++ en_b v r) ∧ eM m m' := by
  intro r
  induction r with
  | zero =>
    intro k f m xs hk hf hk1 hl hw h26 h
    obtain ⟨f, rfl⟩ : ∃ g, f = g + 1 := ⟨f - 1, by omega⟩
    refine ⟨m, ?_, by rw [en_b, List.append_nil]; exact h, eM.rf m⟩
    rw [cz_lp3_s, l_MO_write_89, if_pos (nI_lt (by omega) (by omega)), b_MO_write_123, h26, show (1 : Int32) + nI n = nI (1 + n) from nI_add 1 n, nI_add]
  | succ r ih =>
    intro k f m xs hk hf hk1 hl hw h26 h
    obtain ⟨f, rfl⟩ : ∃ g, f = g + 1 := ⟨f - 1, by omega⟩
    have e1 : lD ((cz_i m 18 (w + k) (nI (v / 2 ^ (8 * r) % 256))).1 18) (xs ++ [nI (v / 2 ^ (8 * r) % 256)]) := h.push (fun i hi => by rw [pi_get, if_neg (by omega)]) (by rw [hl, pi_same])
    obtain ⟨m', a1, a2, a3⟩ := ih (k + 1) f (cz_i m 18 (w + k) (nI (v / 2 ^ (8 * r) % 256))) _ (by omega) (by omega) (by omega) (by simp; omega) hw (by rw [pi_row _ _ _ _ (by decide)]; exact h26) e1
    refine ⟨m', ?_, ?_, (eM.i (by omega)).tr a3⟩
    · rw [cz_lp3_s, l_MO_write_89, if_neg (nI_nlt (by omega) (by omega)), h26, nI_add, pc_in (show w + k < mo_ln 18 by show w + k < 60; omega) (by decide), nI_clamp (by omega), show nI n - nI k = nI r by rw [pk_sub (by omega)]; congr 1; omega, pn_sb hv (by omega), nI_1]
      exact a1
    · rw [en_b]
      rw [List.append_assoc] at a2
      exact a2
theorem mo_wr72 {m : cz_M} {xs : List Int32} {v n : Nat} (h : mD m xs) (hv : v < 2 ^ 31) (hn : n ≤ 4) (hl : xs.length + (1 + n) ≤ 60) : ∃ m', b_MO_write_72 (nI v) m (nI n) = some m' ∧ mD m' (xs ++ nI (128 + n) :: en_b v n) ∧ eM m m' := by
  obtain ⟨h1, h2, h3⟩ := h
  have e1 : lD ((cz_i m 18 xs.length (nI (128 + n))).1 18) (xs ++ [nI (128 + n)]) := h3.push (fun i hi => by rw [pi_get, if_neg (by omega)]) (pi_same _ _ _ _)
  obtain ⟨m', a1, a2, a3⟩ := mo_wr_lp (w := xs.length) hv hn n 1 100 (cz_i m 18 xs.length (nI (128 + n))) _ (by omega) (by omega) (by omega) (by simp) (by omega) (by rw [pi_row _ _ _ _ (by decide)]; exact h2) e1
  refine ⟨cz_i m' 0 26 (nI (xs.length + (1 + n))), ?_, ⟨by simp [en_b_len]; omega, ?_, ?_⟩, ((eM.i (by omega)).tr a3).tr (eM.i0 (by omega))⟩
  · rw [b_MO_write_72, h2, pc_in (show xs.length < mo_ln 18 by show xs.length < 60; omega) (by decide), nI_clamp (by omega), show (128 : Int32) + nI n = nI (128 + n) from nI_add 128 n]
    exact a1
  · rw [pi_same, List.length_append, List.length_cons, en_b_len, Nat.add_comm 1 n]
  · rw [pi_row _ _ _ _ (show (18 : Nat) ≠ 0 by decide)]
    rw [List.append_assoc] at a2
    exact a2
theorem mD.num {m : cz_M} {xs : List Int32} {k : Nat} (h : mD m xs) (hk : k < 2 ^ 31) (hl : xs.length + (en k).length ≤ 60) : ∃ m', f_MO_write m (nI k) = some m' ∧ mD m' (xs ++ en k) ∧ eM m m' := by
  rw [en_len] at hl
  have h4 := en_n_le k
  rw [f_MO_write]
  by_cases e : k = 0
  · subst e
    obtain ⟨m', a1, a2, a3⟩ := mo_wr72 (v := 0) (n := 0) h (by omega) (by omega) (by omega)
    refine ⟨m', ?_, a2, a3⟩
    rw [if_pos (by decide), b_MO_write_32, if_pos (by decide)]
    exact a1
  rw [if_neg (nI_nle (by omega) hk)]
  by_cases e1 : k < 128
  · obtain ⟨h1, h2, h3⟩ := h
    rw [if_neg (show ¬ (128 : Int32) ≤ nI k from nI_ge (b := 128) e1 (by decide)), h2, pc_in (show xs.length < mo_ln 18 by show xs.length < 60; omega) (by decide), nI_clamp (by omega), pi_row _ _ _ _ (show (0 : Nat) ≠ 18 by decide), h2, nI_1]
    refine ⟨_, rfl, ⟨?_, ?_, ?_⟩, (eM.i (by omega)).tr (eM.i0 (by omega))⟩
    · rw [List.length_append, en_len]
      omega
    · rw [pi_same, List.length_append, en_len]
      unfold en_n
      rw [if_pos e1]
    · rw [pi_row _ _ _ _ (show (18 : Nat) ≠ 0 by decide)]
      unfold en
      rw [if_neg e, if_pos e1]
      exact h3.push (fun i hi => by rw [pi_get, if_neg (by omega)]) (pi_same _ _ _ _)
  rw [if_pos (show (128 : Int32) ≤ nI k from nI_le (a := 128) (by omega) hk), b_MO_write_32, if_neg (nI_ne0 (by omega) hk)]
  have hen : en k = nI (128 + en_n k) :: en_b k (en_n k) := by
    unfold en
    rw [if_neg e, if_neg e1]
  obtain ⟨m', a1, a2, a3⟩ := mo_wr72 (v := k) (n := en_n k) h hk h4 hl
  rw [hen]
  refine ⟨m', ?_, a2, a3⟩
  rw [← a1]
  unfold en_n
  rw [if_neg e1]
  by_cases e2 : k < 256
  · rw [if_neg (show ¬ (256 : Int32) ≤ nI k from nI_ge (b := 256) e2 (by decide)), if_pos e2]
    rfl
  rw [if_pos (show (256 : Int32) ≤ nI k from nI_le (a := 256) (by omega) hk), if_neg e2]
  by_cases e3 : k < 65536
  · rw [if_neg (show ¬ (65536 : Int32) ≤ nI k from nI_ge (b := 65536) e3 (by decide)), if_pos e3]
    rfl
  rw [if_pos (show (65536 : Int32) ≤ nI k from nI_le (a := 65536) (by omega) hk), if_neg e3]
  by_cases e4 : k < 16777216
  · rw [if_neg (show ¬ (16777216 : Int32) ≤ nI k from nI_ge (b := 16777216) e4 (by decide)), if_pos e4]
    rfl
  rw [if_pos (show (16777216 : Int32) ≤ nI k from nI_le (a := 16777216) (by omega) hk), if_neg e4]
  rfl
