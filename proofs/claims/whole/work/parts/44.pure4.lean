/-! PURE: the class's blocks; block, tx, state -/
theorem pc_k {ρ : Type} {k N : Nat} (h : k < N) (hN : k < 2 ^ 31) (x : Option ρ) : (if nI k < 0 ∨ N ≤ k then none else x) = x := if_neg (fun z => z.elim (pn_lt0 hN) (fun z => by omega))
theorem cp_gt1 {C : cz_M} {n : Nat} (hn : C.1 19 7 = nI n) (h20 : n ≤ 20) : ∀ (r b k f : Nat), b < n → k + r = n → r < f → cz_lp3 l_Blocks_head_4 f C (nI b) (nI k) = some (nI (bk_gt (C.1 23) (fun k => ¬ C.1 26 k = 0) b k r), C)
  | r, b, k, 0, _, _, hf => by omega
  | 0, b, k, f + 1, _, hk, _ => by
    rw [cz_lp3_s, l_Blocks_head_4, hn, if_pos (nI_le (by omega) (by omega))]
    rfl
  | r + 1, b, k, f + 1, hb, hk, hf => by
    rw [cz_lp3_s, l_Blocks_head_4, hn, if_neg (nI_ge (by omega) (by omega)), pc_in (show k < 20 by omega) (by decide), nI_clamp (show k < 2 ^ 31 by omega), b_Blocks_head_38, b_Blocks_head_38, nI_1, pc_k (show k < cp_ln 23 by show k < 20; omega) (by omega), pc_in (show b < cp_ln 23 by show b < 20; omega) (by decide), nI_clamp (show b < 2 ^ 31 by omega)]
    unfold bk_gt
    by_cases e : C.1 26 k = 0
    · rw [if_pos e, if_neg (fun h => h.1 e)]
      exact cp_gt1 hn h20 r b (k + 1) f hb (by omega) (by omega)
    · rw [if_neg e]
      by_cases e2 : C.1 23 k ≤ C.1 23 b
      · rw [if_pos e2, if_neg (fun h => h.2 e2)]
        exact cp_gt1 hn h20 r b (k + 1) f hb (by omega) (by omega)
      · rw [if_neg e2, if_pos ⟨e, e2⟩]
        exact cp_gt1 hn h20 r k (k + 1) f (by omega) (by omega) (by omega)
theorem cp_gt0 {C : cz_M} {n : Nat} (hn : C.1 19 7 = nI n) (h20 : n ≤ 20) : ∀ (r b k f : Nat), b < n → k + r = n → r < f → cz_lp3 l_Blocks_heaviest_4 f C (nI b) (nI k) = some (nI (bk_gt (C.1 23) (fun _ => True) b k r), C)
  | r, b, k, 0, _, _, hf => by omega
  | 0, b, k, f + 1, _, hk, _ => by
    rw [cz_lp3_s, l_Blocks_heaviest_4, hn, if_pos (nI_le (by omega) (by omega))]
    rfl
  | r + 1, b, k, f + 1, hb, hk, hf => by
    rw [cz_lp3_s, l_Blocks_heaviest_4, hn, if_neg (nI_ge (by omega) (by omega)), b_Blocks_heaviest_29, b_Blocks_heaviest_29, nI_1, pc_in (show k < cp_ln 23 by show k < 20; omega) (by decide), pc_in (show b < cp_ln 23 by show b < 20; omega) (by decide), nI_clamp (show b < 2 ^ 31 by omega), nI_clamp (show k < 2 ^ 31 by omega)]
    unfold bk_gt
    by_cases e2 : C.1 23 k ≤ C.1 23 b
    · rw [if_pos e2, if_neg (fun h => h.2 e2)]
      exact cp_gt0 hn h20 r b (k + 1) f hb (by omega) (by omega)
    · rw [if_neg e2, if_pos ⟨trivial, e2⟩]
      exact cp_gt0 hn h20 r k (k + 1) f (by omega) (by omega) (by omega)
theorem cp_head {C : cz_M} {n : Nat} (hn : C.1 19 7 = nI n) (h1 : 1 ≤ n) (h20 : n ≤ 20) : f_Blocks_head C = some (nI (bk_head n (C.1 23) (C.1 26)), C) := cp_gt1 hn h20 (n - 1) 0 1 100 (by omega) (by omega) (by omega)
theorem cp_heaviest {C : cz_M} {n : Nat} (hn : C.1 19 7 = nI n) (h1 : 1 ≤ n) (h20 : n ≤ 20) : f_Blocks_heaviest C = some (nI (bk_heavy n (C.1 23)), C) := cp_gt0 hn h20 (n - 1) 0 1 100 (by omega) (by omega) (by omega)
theorem cp_ln69 {k : Nat} (h : k < 20) : cp_ln (69 + k) = 5 := by
  unfold cp_ln
  rw [if_neg (by omega), if_neg (by omega), if_neg (by omega), if_neg (by omega), if_neg (by omega), if_neg (by omega), if_pos (by omega)]
theorem cp_ln61 {k : Nat} (h : k < 8) : cp_ln (61 + k) = 5 := by
  unfold cp_ln
  rw [if_neg (by omega), if_neg (by omega), if_neg (by omega), if_neg (by omega), if_neg (by omega), if_neg (by omega), if_pos (by omega)]
theorem cp_ln89 {k : Nat} (h : k < 20) : cp_ln (89 + k) = 8 := by
  unfold cp_ln
  rw [if_neg (by omega), if_neg (by omega), if_neg (by omega), if_neg (by omega), if_neg (by omega), if_neg (by omega), if_neg (by omega)]
theorem cp_numberOf {C : cz_M} {k : Nat} (h : k < 20) : f_Blocks_numberOf C (nI k) = some (C.1 (69 + k) 1, C) := by
  rw [f_Blocks_numberOf, pc_in h (by decide), nI_clamp (by omega), cp_ln69 h, if_neg (by decide)]
  rfl
theorem cp_isFull {C : cz_M} {n : Nat} (hn : C.1 19 7 = nI n) (h20 : n ≤ 20) : f_Blocks_isFull C = some (if n = 20 then 1 else 0, C) := by
  rw [f_Blocks_isFull, hn]
  by_cases e : n = 20
  · subst e
    rw [if_neg (by decide), if_pos rfl]
  · rw [if_pos (show nI n < (20 : Int32) from nI_lt (b := 20) (by omega) (by decide)), if_neg e]
theorem cp_hasBody {C : cz_M} {k : Nat} (h : k < 20) : f_Blocks_hasBody C (nI k) = some (if C.1 25 k = -1 then 0 else 1, C) := by
  rw [f_Blocks_hasBody, pc_in (show k < cp_ln 25 by show k < 20; omega) (by decide), nI_clamp (by omega)]
  by_cases e : C.1 25 k = -1
  · rw [if_pos e, if_pos e]
  · rw [if_neg e, if_neg e]
theorem cp_isKnown {C : cz_M} {n : Nat} (hn : C.1 19 7 = nI n) (h20 : n ≤ 20) (h : Int32) : f_Blocks_isKnown C h = some (if bk_find (C.1 21) h 0 n = -1 then 0 else 1, C) := by
  rw [f_Blocks_isKnown, cp_Blocks_find hn h20, pb_i]
  by_cases e : bk_find (C.1 21) h 0 n = -1
  · rw [if_pos e, if_pos e]
  · rw [if_neg e, if_neg e]
theorem st_state {t : Nat} {C m : cz_M} (h : rR t C m) (a : Int32) : ∃ r, f_CP_state C a = some (r, C) ∧ f_MO_state m a = some (r, m) := by
  obtain ⟨n, ⟨hn, hB, hE⟩, -, -, hG⟩ := h
  obtain ⟨-, -, -, x1, y, -, y1, y2⟩ := hG
  rw [f_CP_state, f_MO_state, cp_heaviest hn hB.1.1 hB.1.2, cp_head hn hB.1.1 hB.1.2, mo_heavy hB hE, mo_head hB hE, pb_i, pb_i, pb_i, pb_i, hn, hE.1, x1, y1, y2]
  by_cases e0 : a = 0
  · rw [if_pos e0, if_pos e0]
    exact ⟨_, rfl, rfl⟩
  rw [if_neg e0, if_neg e0]
  by_cases e1 : a = 1
  · rw [if_pos e1, if_pos e1]
    exact ⟨_, rfl, rfl⟩
  rw [if_neg e1, if_neg e1]
  by_cases e2 : a = 2
  · rw [if_pos e2, if_pos e2]
    exact ⟨_, rfl, rfl⟩
  rw [if_neg e2, if_neg e2]
  by_cases e3 : a = 3
  · rw [if_pos e3, if_pos e3]
    exact ⟨_, rfl, rfl⟩
  rw [if_neg e3, if_neg e3]
  by_cases e4 : a = 4
  · rw [if_pos e4, if_pos e4]
    exact ⟨_, rfl, rfl⟩
  rw [if_neg e4, if_neg e4]
  exact ⟨_, rfl, rfl⟩
theorem cp_isBlock {C : cz_M} {n k : Nat} (hn : C.1 19 7 = nI n) (h20 : n ≤ 20) (hk : k < n) : f_Blocks_isBlock C (nI k) = some (1, C) := by
  rw [f_Blocks_isBlock, hn, if_neg (pn_lt0 (by omega)), if_neg (nI_ge hk (by omega))]
theorem cp_isBlockN {C : cz_M} {n : Nat} (hn : C.1 19 7 = nI n) {a : Int32} (h : a < 0 ∨ nI n ≤ a) : f_Blocks_isBlock C a = some (0, C) := by
  rw [f_Blocks_isBlock, hn]
  by_cases e : a < 0
  · rw [if_pos e]
  · rw [if_neg e, if_pos (h.resolve_left e)]
theorem st_block {t : Nat} {C m : cz_M} (h : rR t C m) (a b : Int32) : ∃ r, f_CP_block C a b = some (r, C) ∧ f_MO_block m a b = some (r, m) := by
  obtain ⟨n, ⟨hn, hB, hE⟩, -⟩ := h
  have h20 := hB.1.2
  have hno : (a < 0 ∨ nI n ≤ a) → ∃ r, f_CP_block C a b = some (r, C) ∧ f_MO_block m a b = some (r, m) := by
    intro h1
    refine ⟨-1, by rw [f_CP_block, f_Blocks_look, cp_isBlockN hn h1, pb_i, if_pos rfl, pb_i], ?_⟩
    rw [f_MO_block, hE.1]
    by_cases e : a < 0
    · rw [if_pos e]
    · rw [if_neg e, if_pos (h1.resolve_left e)]
  rcases pk_ix a (n := n) (by omega) with h1 | h1 | ⟨k, hk, rfl⟩
  · exact hno (Or.inl h1)
  · exact hno (Or.inr h1)
  · have hrow : ∀ j, j < 5 → b = nI j → ∃ r, f_CP_block C (nI k) b = some (r, C) ∧ f_MO_block m (nI k) b = some (r, m) := by
      intro j hj e
      subst e
      have hb60 : b_Blocks_look_60 (nI k) (nI j) C = some (C.1 (69 + k) j, C) := by
        rw [b_Blocks_look_60, pc_in (show k < 20 by omega) (by decide), nI_clamp (show k < 2 ^ 31 by omega), cp_ln69 (by omega), pc_in hj (by decide), nI_clamp (by omega)]
      refine ⟨C.1 (69 + k) j, ?_, ?_⟩
      · rw [f_CP_block, f_Blocks_look, cp_isBlock hn h20 hk, pb_i, if_neg (show ¬ (1 : Int32) = 0 by decide), hb60]
        have : j = 0 ∨ j = 1 ∨ j = 2 ∨ j = 3 ∨ j = 4 := by omega
        rcases this with rfl | rfl | rfl | rfl | rfl <;> rfl
      · rw [f_MO_block, hE.1, if_neg (pn_lt0 (by omega)), if_neg (nI_ge hk (by omega)), if_neg (pn_lt0 (by omega)), if_pos (show nI j ≤ (8 : Int32) from nI_le (b := 8) (by omega) (by decide)), if_neg (show ¬ (5 : Int32) ≤ nI j from nI_ge (b := 5) hj (by decide)), show (5 : Int32) = nI 5 from rfl, pk_mul, nI_add, pc_in (show 5 * k + j < mo_ln 1 by show 5 * k + j < 100; omega) (by decide), nI_clamp (by omega), hE.2.1 k j hk hj]
    by_cases e0 : b = 0
    · exact hrow 0 (by decide) e0
    by_cases e1 : b = 1
    · exact hrow 1 (by decide) e1
    by_cases e2 : b = 2
    · exact hrow 2 (by decide) e2
    by_cases e3 : b = 3
    · exact hrow 3 (by decide) e3
    by_cases e4 : b = 4
    · exact hrow 4 (by decide) e4
    rw [f_CP_block, f_Blocks_look, cp_isBlock hn h20 hk, pb_i, if_neg (show ¬ (1 : Int32) = 0 by decide), if_neg e0, if_neg e1, if_neg e2, if_neg e3, if_neg e4, f_MO_block, hE.1, if_neg (pn_lt0 (by omega)), if_neg (nI_ge hk (by omega)), pc_in (show k < cp_ln 21 by show k < 20; omega) (by decide), pc_in (show k < cp_ln 23 by show k < 20; omega) (by decide), pc_in (show k < cp_ln 25 by show k < 20; omega) (by decide), pc_in (show k < 20 by omega) (by decide), nI_clamp (show k < 2 ^ 31 by omega), mo_total hB hE hk, mo_imported hB hE hk, show (5 : Int32) * nI k = nI (5 * k) from pk_mul 5 k, mo_hash1 (show 5 * k + 5 ≤ 100 by omega), pc_k (show k < mo_ln 3 by show k < 20; omega) (by omega), hE.2.2.1 k hk]
    by_cases e5 : b = 5
    · subst e5
      refine ⟨C.1 21 k, rfl, ?_⟩
      rw [if_neg (by decide), if_pos (by decide), if_pos (by decide), if_pos rfl, pb_i, hB.2.1 k hk]
      refine congrArg (fun x => some (x, m)) (zm_h_cong (fun j hj => hE.2.1 k j hk hj))
    by_cases e6 : b = 6
    · subst e6
      exact ⟨C.1 23 k, rfl, rfl⟩
    by_cases e7 : b = 7
    · subst e7
      exact ⟨C.1 25 k, rfl, rfl⟩
    by_cases e8 : b = 8
    · subst e8
      rw [if_neg (show ¬ (8 : Int32) = 5 by decide), if_neg (show ¬ (8 : Int32) = 6 by decide), if_neg (show ¬ (8 : Int32) = 7 by decide), if_pos rfl, if_neg (show ¬ (8 : Int32) < 0 by decide), if_pos (show (8 : Int32) ≤ 8 by decide), if_pos (show (5 : Int32) ≤ 8 by decide), if_neg (show ¬ (8 : Int32) = 5 by decide), if_neg (show ¬ (8 : Int32) = 6 by decide), if_neg (show ¬ (8 : Int32) = 7 by decide), pb_i]
      by_cases e : C.1 26 k = 0
      · rw [if_pos e, if_pos e]
        exact ⟨_, rfl, rfl⟩
      · rw [if_neg e, if_neg e]
        exact ⟨_, rfl, rfl⟩
    rw [if_neg e5, if_neg e6, if_neg e7, if_neg e8]
    refine ⟨-1, rfl, ?_⟩
    by_cases x1 : b < 0
    · rw [if_pos x1]
    · rw [if_neg x1, if_neg]
      intro x2
      obtain ⟨j, hj, rfl⟩ := nI_of2 (n := 8) (M := 8) (by decide) x1 x2
      have : j = 0 ∨ j = 1 ∨ j = 2 ∨ j = 3 ∨ j = 4 ∨ j = 5 ∨ j = 6 ∨ j = 7 ∨ j = 8 := by omega
      rcases this with rfl | rfl | rfl | rfl | rfl | rfl | rfl | rfl | rfl
      · exact e0 rfl
      · exact e1 rfl
      · exact e2 rfl
      · exact e3 rfl
      · exact e4 rfl
      · exact e5 rfl
      · exact e6 rfl
      · exact e7 rfl
      · exact e8 rfl
theorem st_tx {t : Nat} {C m : cz_M} (h : rR t C m) (a b : Int32) : ∃ r, f_CP_tx C a b = some (r, C) ∧ f_MO_tx m a b = some (r, m) := by
  obtain ⟨n, ⟨hn, hB, hE⟩, -⟩ := h
  have h20 := hB.1.2
  have hno : (a < 0 ∨ nI n ≤ a) → ∃ r, f_CP_tx C a b = some (r, C) ∧ f_MO_tx m a b = some (r, m) := by
    intro h1
    refine ⟨-1, by rw [f_CP_tx, f_Blocks_hasInBody, cp_isBlockN hn h1, pb_i, if_pos rfl, pb_i, if_pos rfl], ?_⟩
    rw [f_MO_tx, hE.1]
    by_cases e : a < 0
    · rw [if_pos e, b_MO_tx_26]
    · rw [if_neg e, if_pos (h1.resolve_left e), b_MO_tx_26]
  rcases pk_ix a (n := n) (by omega) with h1 | h1 | ⟨k, hk, rfl⟩
  · exact hno (Or.inl h1)
  · exact hno (Or.inr h1)
  · rw [f_CP_tx, f_Blocks_hasInBody, cp_isBlock hn h20 hk, pb_i, if_neg (show ¬ (1 : Int32) = 0 by decide), f_MO_tx, hE.1, if_neg (show ¬ nI k < 0 from pn_lt0 (by omega)), if_neg (nI_ge hk (by omega)), pc_in (show k < cp_ln 25 by show k < 20; omega) (by decide), pc_in (show k < mo_ln 3 by show k < 20; omega) (by decide), nI_clamp (show k < 2 ^ 31 by omega), hE.2.2.1 k hk, b_MO_tx_26]
    by_cases e : b < 0
    · rw [if_pos e, if_pos e]
      exact ⟨-1, rfl, rfl⟩
    rw [if_neg e, if_neg e]
    by_cases e2 : C.1 25 k ≤ b
    · have e3 : ¬ b < C.1 25 k := Int32.not_lt.mpr e2
      rw [if_pos e2, if_neg e3]
      exact ⟨-1, rfl, rfl⟩
    · have e3 : b < C.1 25 k := Int32.not_le.mp e2
      rw [if_neg e2, if_pos e3, pb_i, if_neg (show ¬ (1 : Int32) = 0 by decide)]
      obtain ⟨i, hi, rfl⟩ := nI_of e
      rcases hB.2.2.2.2.2.2.1 k hk with hs | ⟨s, s1, s2, s3⟩
      · exfalso
        rw [hs] at e3
        exact nI_pos hi (Int32.lt_trans e3 (by decide))
      · rw [s2, nI_ltI hi (by omega)] at e3
        rw [pc_k (show k < 20 by omega) (by omega), cp_ln89 (by omega), pc_in (show i < 8 by omega) (by decide), nI_clamp hi, show (8 : Int32) * nI k = nI (8 * k) from pk_mul 8 k, nI_add, pc_in (show 8 * k + i < mo_ln 2 by show 8 * k + i < 160; omega) (by decide), nI_clamp (by omega), hE.2.2.2 k i s hk s2 s1 e3]
        exact ⟨_, rfl, rfl⟩
