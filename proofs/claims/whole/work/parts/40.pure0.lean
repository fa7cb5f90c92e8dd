/-! PURE: how the functions of the two sides run. First the tools. -/
theorem cz_lp1_s {α ρ : Type} (b : (α → Option ρ) → α → Option ρ) (n : Nat) (x : α) : cz_lp1 b (n + 1) x = b (cz_lp1 b n) x := rfl
theorem cz_lp2_s {α β ρ : Type} (b : (α → β → Option ρ) → α → β → Option ρ) (n : Nat) (x : α) (y : β) : cz_lp2 b (n + 1) x y = b (cz_lp2 b n) x y := rfl
theorem cz_lp3_s {α β γ ρ : Type} (b : (α → β → γ → Option ρ) → α → β → γ → Option ρ) (n : Nat) (x : α) (y : β) (z : γ) : cz_lp3 b (n + 1) x y z = b (cz_lp3 b n) x y z := rfl
theorem cz_lp4_s {α β γ δ ρ : Type} (b : (α → β → γ → δ → Option ρ) → α → β → γ → δ → Option ρ) (n : Nat) (x : α) (y : β) (z : γ) (w : δ) : cz_lp4 b (n + 1) x y z w = b (cz_lp4 b n) x y z w := rfl
theorem cz_lp6_s {α β γ δ ε ζ ρ : Type} (b : (α → β → γ → δ → ε → ζ → Option ρ) → α → β → γ → δ → ε → ζ → Option ρ) (n : Nat) (x : α) (y : β) (z : γ) (w : δ) (v : ε) (u : ζ) : cz_lp6 b (n + 1) x y z w v u = b (cz_lp6 b n) x y z w v u := rfl
theorem pi_get (M : cz_M) (k j : Nat) (v : Int32) (k' j' : Nat) : (cz_i M k j v).1 k' j' = if k' = k ∧ j' = j then v else M.1 k' j' := rfl
theorem pi_same (M : cz_M) (k j : Nat) (v : Int32) : (cz_i M k j v).1 k j = v := by simp [cz_i]
theorem pi_row (M : cz_M) (k j : Nat) (v : Int32) {k' : Nat} (h : k' ≠ k) : (cz_i M k j v).1 k' = M.1 k' := by
  funext t
  simp [cz_i, h]
theorem pi_snd (M : cz_M) (k j : Nat) (v : Int32) : (cz_i M k j v).2 = M.2 := rfl
theorem pa_get (M : cz_M) (k : Nat) (f : Nat → Int32) (k' j' : Nat) : (cz_a M k f).1 k' j' = if k' = k then f j' else M.1 k' j' := rfl
theorem pa_row (M : cz_M) (k : Nat) (f : Nat → Int32) {k' : Nat} (h : k' ≠ k) : (cz_a M k f).1 k' = M.1 k' := by
  funext t
  simp [cz_a, h]
theorem pr_get (M : cz_M) (k j v k' j' : Nat) : (cz_r M k j v).2 k' j' = if k' = k ∧ j' = j then v else M.2 k' j' := rfl
theorem pb_i {ρ : Type} (r : Int32) (M : cz_M) (e : Int32 → cz_M → Option ρ) : cz_bi (some (r, M)) e = e r M := rfl
theorem pb_v {ρ : Type} (M : cz_M) (e : cz_M → Option ρ) : cz_bv (some M) e = e M := rfl
/-- a place within: the check is passed -/
theorem pc_in {ρ : Type} {k N : Nat} (h : k < N) (hN : N < 2 ^ 31) (x : Option ρ) : (if nI k < 0 ∨ N ≤ (nI k).toNatClampNeg then none else x) = x := if_neg (nI_in h hN)
theorem pn_lt0 {k : Nat} (h : k < 2 ^ 31) : ¬ nI k < 0 := nI_pos h
theorem pn_m1 {k : Nat} (h : k < 2 ^ 31) : ¬ nI k = -1 := by
  intro e
  have h1 := congrArg Int32.toInt e
  rw [nI_toInt h] at h1
  have h2 : (-1 : Int32).toInt = -1 := by decide
  rw [h2] at h1
  omega
/-- the mixing of two numbers, sealed: nobody computes it -/
theorem zm_ex : ∃ f : Int32 → Int32 → Int32, f = hs_m := ⟨hs_m, rfl⟩
noncomputable def zm_m : Int32 → Int32 → Int32 := Classical.choose zm_ex
theorem zm_m_eq (h v : Int32) : (((h ^^^ v) * (16777619 : Int32)) ^^^ (cz_iushr ((h ^^^ v) * (16777619 : Int32)) (15 : Int32))) &&& (2147483647 : Int32) = zm_m h v := by
  have e : zm_m = hs_m := Classical.choose_spec zm_ex
  rw [e, hs_m]
noncomputable def zm_h (r : Nat → Int32) : Int32 := zm_m (zm_m (zm_m (zm_m (zm_m 7 (r 0)) (r 1)) (r 2)) (r 3)) (r 4)
theorem zm_h_eq (r : Nat → Int32) : hs_h r = zm_h r := by
  have e : zm_m = hs_m := Classical.choose_spec zm_ex
  rw [hs_h, zm_h, e]
/-- the block of a hash among the first n -/
def bk_find (ha : Nat → Int32) (h : Int32) (k : Nat) : Nat → Int32
  | 0 => -1
  | n + 1 => if ha k = h then nI k else bk_find ha h (k + 1) n
theorem bk_find_cong {ha hb : Nat → Int32} {h : Int32} : ∀ (n k : Nat), (∀ i, k ≤ i → i < k + n → ha i = hb i) → bk_find ha h k n = bk_find hb h k n
  | 0, _, _ => rfl
  | n + 1, k, e => by
    unfold bk_find
    rw [e k (Nat.le_refl _) (by omega), bk_find_cong n (k + 1) (fun i h1 h2 => e i (by omega) (by omega))]
theorem bk_find_spec {ha : Nat → Int32} {h : Int32} : ∀ (n k : Nat), (bk_find ha h k n = -1 ∧ ∀ i, k ≤ i → i < k + n → ha i ≠ h) ∨ ∃ i, k ≤ i ∧ i < k + n ∧ ha i = h ∧ bk_find ha h k n = nI i
  | 0, k => Or.inl ⟨rfl, fun i h1 h2 => by omega⟩
  | n + 1, k => by
    unfold bk_find
    by_cases e : ha k = h
    · rw [if_pos e]
      exact Or.inr ⟨k, Nat.le_refl _, by omega, e, rfl⟩
    · rw [if_neg e]
      rcases bk_find_spec (ha := ha) (h := h) n (k + 1) with ⟨h1, h2⟩ | ⟨i, h1, h2, h3, h4⟩
      · refine Or.inl ⟨h1, fun i h3 h4 => ?_⟩
        by_cases hi : i = k
        · rw [hi]
          exact e
        · exact h2 i (by omega) (by omega)
      · exact Or.inr ⟨i, by omega, by omega, h3, h4⟩
theorem bk_find_at {ha : Nat → Int32} {n i : Nat} (hd : ∀ i j, i < n → j < n → ha i = ha j → i = j) (hi : i < n) : bk_find ha (ha i) 0 n = nI i := by
  rcases bk_find_spec (ha := ha) (h := ha i) n 0 with ⟨-, h2⟩ | ⟨j, -, h2, h3, h4⟩
  · exact absurd rfl (h2 i (Nat.zero_le _) (by omega))
  · rw [h4, hd j i (by omega) hi h3]
/-! the class's blocks -/
theorem cp_find {C : cz_M} {n : Nat} (hn : C.1 19 7 = nI n) (h20 : n ≤ 20) (h : Int32) : ∀ (r k f : Nat), k + r = n → r < f → cz_lp2 (l_Blocks_find_2 h) f C (nI k) = some (bk_find (C.1 21) h k r, C)
  | r, k, 0, _, hf => by omega
  | 0, k, f + 1, hk, _ => by
    rw [cz_lp2_s, l_Blocks_find_2, hn, if_pos (nI_le (by omega) (by omega))]
    rfl
  | r + 1, k, f + 1, hk, hf => by
    rw [cz_lp2_s, l_Blocks_find_2, hn, if_neg (nI_ge (by omega) (by omega)), pc_in (show k < cp_ln 21 by show k < 20; omega) (by decide), nI_clamp (by omega), nI_1]
    unfold bk_find
    by_cases e : C.1 21 k = h
    · rw [if_pos e, if_pos e]
    · rw [if_neg e, if_neg e]
      exact cp_find hn h20 h r (k + 1) f (by omega) (by omega)
theorem cp_Blocks_find {C : cz_M} {n : Nat} (hn : C.1 19 7 = nI n) (h20 : n ≤ 20) (h : Int32) : f_Blocks_find C h = some (bk_find (C.1 21) h 0 n, C) := cp_find hn h20 h n 0 100 (by omega) (by omega)
/-! the reference's hash and blocks -/
theorem mo_hash1 {m : cz_M} {i : Nat} (hi : i + 5 ≤ 100) : f_MO_hash m 1 (nI i) = some (zm_h (fun j => m.1 1 (i + j)), m) := by
  have hs : ∀ (rec : cz_M → Int32 → Int32 → Option (Int32 × cz_M)) (j : Nat) (v : Int32), j < 5 → l_MO_hash_6 1 (nI i) rec m v (nI j) = rec m (zm_m v (m.1 1 (i + j))) (nI (j + 1)) := by
    intro rec j v hj
    rw [l_MO_hash_6, if_neg (show ¬ (5 : Int32) ≤ nI j from nI_ge (b := 5) (by omega) (by decide)), if_neg (by decide), nI_add, pc_in (show i + j < mo_ln 1 by show i + j < 100; omega) (by decide), nI_clamp (by omega), b_MO_hash_38, f_MO_mix, pb_i, zm_m_eq, nI_1]
  show cz_lp3 (l_MO_hash_6 1 (nI i)) (95 + 1 + 1 + 1 + 1 + 1) m 7 (nI 0) = _
  rw [cz_lp3_s, hs _ 0 _ (by decide), cz_lp3_s, hs _ 1 _ (by decide), cz_lp3_s, hs _ 2 _ (by decide), cz_lp3_s, hs _ 3 _ (by decide), cz_lp3_s, hs _ 4 _ (by decide)]
  show cz_lp3 (l_MO_hash_6 1 (nI i)) (94 + 1) m _ (nI 5) = _
  rw [cz_lp3_s, l_MO_hash_6, if_pos (by decide), zm_h]
theorem mo_hash0 {m : cz_M} {i : Nat} (hi : i + 5 ≤ 60) : f_MO_hash m 0 (nI i) = some (zm_h (fun j => m.1 17 (i + j)), m) := by
  have hs : ∀ (rec : cz_M → Int32 → Int32 → Option (Int32 × cz_M)) (j : Nat) (v : Int32), j < 5 → l_MO_hash_6 0 (nI i) rec m v (nI j) = rec m (zm_m v (m.1 17 (i + j))) (nI (j + 1)) := by
    intro rec j v hj
    rw [l_MO_hash_6, if_neg (show ¬ (5 : Int32) ≤ nI j from nI_ge (b := 5) (by omega) (by decide)), if_pos (by decide), nI_add, pc_in (show i + j < mo_ln 17 by show i + j < 60; omega) (by decide), nI_clamp (by omega), b_MO_hash_38, f_MO_mix, pb_i, zm_m_eq, nI_1]
  show cz_lp3 (l_MO_hash_6 0 (nI i)) (95 + 1 + 1 + 1 + 1 + 1) m 7 (nI 0) = _
  rw [cz_lp3_s, hs _ 0 _ (by decide), cz_lp3_s, hs _ 1 _ (by decide), cz_lp3_s, hs _ 2 _ (by decide), cz_lp3_s, hs _ 3 _ (by decide), cz_lp3_s, hs _ 4 _ (by decide)]
  show cz_lp3 (l_MO_hash_6 0 (nI i)) (94 + 1) m _ (nI 5) = _
  rw [cz_lp3_s, l_MO_hash_6, if_pos (by decide), zm_h]
/-- the row of block k -/
def mo_hd (m : cz_M) (k : Nat) : Nat → Int32 := fun j => m.1 1 (5 * k + j)
theorem mo_find {m : cz_M} {n : Nat} (hn : m.1 0 4 = nI n) (h20 : n ≤ 20) (h : Int32) : ∀ (r k f : Nat), k + r = n → r < f → cz_lp2 (l_MO_blockOf_2 h) f m (nI k) = some (bk_find (fun k => zm_h (mo_hd m k)) h k r, m)
  | r, k, 0, _, hf => by omega
  | 0, k, f + 1, hk, _ => by
    rw [cz_lp2_s, l_MO_blockOf_2, hn, if_pos (nI_le (by omega) (by omega))]
    rfl
  | r + 1, k, f + 1, hk, hf => by
    rw [cz_lp2_s, l_MO_blockOf_2, hn, if_neg (nI_ge (by omega) (by omega)), show (5 : Int32) = nI 5 from rfl, pk_mul, mo_hash1 (by omega), pb_i, nI_1]
    unfold bk_find
    by_cases e : zm_h (mo_hd m k) = h
    · rw [if_pos e]
      exact if_pos e
    · rw [if_neg e]
      exact (if_neg e).trans (mo_find hn h20 h r (k + 1) f (by omega) (by omega))
theorem mo_blockOf {m : cz_M} {n : Nat} (hn : m.1 0 4 = nI n) (h20 : n ≤ 20) (h : Int32) : f_MO_blockOf m h = some (bk_find (fun k => zm_h (mo_hd m k)) h 0 n, m) := mo_find hn h20 h n 0 100 (by omega) (by omega)
