/-! PURE: good headers, a block more -/
theorem pl0 {ρ : Type} {N : Nat} (h : 1 ≤ N) (x : Option ρ) : (if (0 : Int32) < 0 ∨ N ≤ (0 : Int32).toNatClampNeg then none else x) = x := if_neg (fun z => z.elim (by decide) (fun z => by rw [show (0 : Int32).toNatClampNeg = 0 by decide] at z; omega))
theorem pl1 {ρ : Type} {N : Nat} (h : 2 ≤ N) (x : Option ρ) : (if (1 : Int32) < 0 ∨ N ≤ (1 : Int32).toNatClampNeg then none else x) = x := if_neg (fun z => z.elim (by decide) (fun z => by rw [show (1 : Int32).toNatClampNeg = 1 by decide] at z; omega))
theorem pl2 {ρ : Type} {N : Nat} (h : 3 ≤ N) (x : Option ρ) : (if (2 : Int32) < 0 ∨ N ≤ (2 : Int32).toNatClampNeg then none else x) = x := if_neg (fun z => z.elim (by decide) (fun z => by rw [show (2 : Int32).toNatClampNeg = 2 by decide] at z; omega))
theorem pl3 {ρ : Type} {N : Nat} (h : 4 ≤ N) (x : Option ρ) : (if (3 : Int32) < 0 ∨ N ≤ (3 : Int32).toNatClampNeg then none else x) = x := if_neg (fun z => z.elim (by decide) (fun z => by rw [show (3 : Int32).toNatClampNeg = 3 by decide] at z; omega))
theorem pl4 {ρ : Type} {N : Nat} (h : 5 ≤ N) (x : Option ρ) : (if (4 : Int32) < 0 ∨ N ≤ (4 : Int32).toNatClampNeg then none else x) = x := if_neg (fun z => z.elim (by decide) (fun z => by rw [show (4 : Int32).toNatClampNeg = 4 by decide] at z; omega))
theorem pt0 : (0 : Int32).toNatClampNeg = 0 := by decide
theorem pt1 : (1 : Int32).toNatClampNeg = 1 := by decide
theorem pt2 : (2 : Int32).toNatClampNeg = 2 := by decide
theorem pt3 : (3 : Int32).toNatClampNeg = 3 := by decide
theorem pt4 : (4 : Int32).toNatClampNeg = 4 := by decide
theorem pt5 : (5 : Int32).toNatClampNeg = 5 := by decide
theorem gd_abs {w u : Nat} (hw : w ≤ 99) (hu : u ≤ 99) : cz_abs (nI w - nI u) = if u ≤ w then nI (w - u) else nI (u - w) := by
  unfold cz_abs
  by_cases e : u ≤ w
  · rw [if_pos e, pk_sub e, if_pos (nI_pos' (by omega))]
  · rw [if_neg e, if_neg (Int32.not_le.mpr (pk_sneg (by omega) (by omega))), ← pk_sub (show w ≤ u by omega), Int32.sub_eq_add_neg 0, Int32.zero_add, Int32.neg_sub]
theorem gd {n q i : Nat} {C m : cz_M} (hB : rB n C m) (hq : 5 ≤ cp_ln q) (hrow : ∀ j, j < 5 → m.1 17 (i + j) = C.1 q j) (hi : i + 5 ≤ 60) : ∃ g, f_Blocks_isGood C q = some (g, C) ∧ f_MO_good m (nI i) = some (g, m) ∧ (g = 0 ∨ (g = 1 ∧ ∃ k w, k < n ∧ bk_find (C.1 21) (C.1 q 0) 0 n = nI k ∧ C.1 21 k = C.1 q 0 ∧ C.1 q 1 = C.1 (69 + k) 1 + 1 ∧ C.1 (69 + k) 2 < C.1 q 2 ∧ 1 ≤ w ∧ w ≤ 99 ∧ C.1 q 3 = nI w)) := by
  obtain ⟨hn, hI, hE⟩ := hB
  have h20 := hI.1.2
  have hr0 : m.1 17 i = C.1 q 0 := by
    have := hrow 0 (by omega)
    rw [Nat.add_zero] at this
    exact this
  rw [f_Blocks_isGood, pl0 (by omega), pt0, cp_Blocks_find hn h20, pb_i, f_MO_good, pc_in (show i < mo_ln 17 by show i < 60; omega) (by decide), nI_clamp (show i < 2 ^ 31 by omega), hr0, mo_ha hI hE, pb_i]
  rcases bk_find_spec (ha := C.1 21) (h := C.1 q 0) n 0 with ⟨e, -⟩ | ⟨k, -, k2, k3, k4⟩
  · rw [e, if_pos rfl, if_neg (by decide)]
    exact ⟨0, rfl, rfl, Or.inl rfl⟩
  · have hk : k < n := by omega
    have h5k : (5 : Int32) * nI k = nI (5 * k) := pk_mul 5 k
    have e3 : nI (5 * k) + (3 : Int32) = nI (5 * k + 3) := nI_add _ 3
    have e1 : nI (5 * k) + (1 : Int32) = nI (5 * k + 1) := nI_add _ 1
    have e2 : nI (5 * k) + (2 : Int32) = nI (5 * k + 2) := nI_add _ 2
    have i3 : nI i + (3 : Int32) = nI (i + 3) := nI_add _ 3
    have i1 : nI i + (1 : Int32) = nI (i + 1) := nI_add _ 1
    have i2 : nI i + (2 : Int32) = nI (i + 2) := nI_add _ 2
    obtain ⟨⟨u, u1, u2, u3⟩, -⟩ := hI.2.2.2.2.2.1 k hk
    have u3 : C.1 (69 + k) 3 = nI u := u3
    have hm3 : m.1 1 (5 * k + 3) = nI u := (hE.2.1 k 3 hk (by decide)).trans u3
    have hm1 : m.1 1 (5 * k + 1) = C.1 (69 + k) 1 := hE.2.1 k 1 hk (by decide)
    have hm2 : m.1 1 (5 * k + 2) = C.1 (69 + k) 2 := hE.2.1 k 2 hk (by decide)
    have b105 : b_MO_good_105 (nI i) m (nI k) 1 = if C.1 q 1 = C.1 (69 + k) 1 + 1 then (if C.1 q 2 ≤ C.1 (69 + k) 2 then some (0, m) else some (1, m)) else some (0, m) := by
      rw [b_MO_good_105, if_neg (show ¬ (1 : Int32) = 0 by decide), i1, i2, h5k, e1, e2, pc_in (show i + 1 < mo_ln 17 by show _ < 60; omega) (by decide), pc_in (show 5 * k + 1 < mo_ln 1 by show _ < 100; omega) (by decide), pc_in (show i + 2 < mo_ln 17 by show _ < 60; omega) (by decide), pc_in (show 5 * k + 2 < mo_ln 1 by show _ < 100; omega) (by decide), nI_clamp (show i + 1 < 2 ^ 31 by omega), nI_clamp (show i + 2 < 2 ^ 31 by omega), nI_clamp (show 5 * k + 1 < 2 ^ 31 by omega), nI_clamp (show 5 * k + 2 < 2 ^ 31 by omega), hrow 1 (by omega), hrow 2 (by omega), hm1, hm2]
    have b104 : b_MO_good_104 (nI i) m (nI k) = some (0, m) := by
      rw [b_MO_good_104, b_MO_good_105, if_pos rfl]
    have b63 : ∀ s, b_MO_good_63 (nI i) m (nI k) (nI u) s = if C.1 q 3 < 1 then some (0, m) else if 99 < C.1 q 3 then some (0, m) else if nI u / 4 + 1 < s then some (0, m) else b_MO_good_105 (nI i) m (nI k) 1 := by
      intro s
      rw [b_MO_good_63, i3, pc_in (show i + 3 < mo_ln 17 by show _ < 60; omega) (by decide), pc_in (show i + 3 < mo_ln 17 by show _ < 60; omega) (by decide), nI_clamp (show i + 3 < 2 ^ 31 by omega), hrow 3 (by omega), b104]
    rw [k4, if_neg (pn_m1 (by omega)), pl3 (by omega), pc_in (show k < 20 by omega) (by decide), nI_clamp (show k < 2 ^ 31 by omega), pl3 (show 4 ≤ cp_ln (69 + k) by rw [cp_ln69 (by omega)]; omega), pl1 (by omega), cp_numberOf (by omega), pb_i, pl2 (by omega), pc_k (show k < 20 by omega) (by omega), pl2 (show 3 ≤ cp_ln (69 + k) by rw [cp_ln69 (by omega)]; omega), pt1, pt2, pt3, u3, if_pos (nI_pos' (show k < 2 ^ 31 by omega)), h5k, e3, i3, pc_in (show 5 * k + 3 < mo_ln 1 by show _ < 100; omega) (by decide), pc_in (show i + 3 < mo_ln 17 by show _ < 60; omega) (by decide), pc_in (show i + 3 < mo_ln 17 by show _ < 60; omega) (by decide), pc_in (show i + 3 < mo_ln 17 by show _ < 60; omega) (by decide), nI_clamp (show 5 * k + 3 < 2 ^ 31 by omega), nI_clamp (show i + 3 < 2 ^ 31 by omega), hm3, hrow 3 (by omega), b63, b63, b105]
    by_cases w1 : C.1 q 3 < 1
    · refine ⟨0, ?_, ?_, Or.inl rfl⟩
      · rw [if_pos w1]
        by_cases x1 : C.1 q 1 = C.1 (69 + k) 1 + 1
        · rw [if_pos x1]
          by_cases x2 : C.1 q 2 ≤ C.1 (69 + k) 2
          · rw [if_pos x2]
          · rw [if_neg x2]
        · rw [if_neg x1]
      · rw [if_pos w1, if_pos w1]
        by_cases x : nI u ≤ C.1 q 3
        · rw [if_pos x]
        · rw [if_neg x]
    rw [if_neg w1, if_neg w1, if_neg w1]
    by_cases w2 : 99 < C.1 q 3
    · refine ⟨0, ?_, ?_, Or.inl rfl⟩
      · rw [if_pos w2]
        by_cases x1 : C.1 q 1 = C.1 (69 + k) 1 + 1
        · rw [if_pos x1]
          by_cases x2 : C.1 q 2 ≤ C.1 (69 + k) 2
          · rw [if_pos x2]
          · rw [if_neg x2]
        · rw [if_neg x1]
      · rw [if_pos w2, if_pos w2]
        by_cases x : nI u ≤ C.1 q 3
        · rw [if_pos x]
        · rw [if_neg x]
    rw [if_neg w2, if_neg w2, if_neg w2]
    obtain ⟨w, hw, hw3⟩ := nI_of2 (n := 99) (M := 99) (x := C.1 q 3) (by decide) (fun z => w1 (Int32.lt_trans z (by decide))) (Int32.not_lt.mp w2)
    have hw1 : 1 ≤ w := by
      by_cases z : w = 0
      · subst z
        exact absurd (show C.1 q 3 < 1 by rw [hw3]; decide) w1
      · omega
    rw [hw3, gd_abs hw u2]
    have hfin : ∀ s, ∃ g, (if C.1 q 1 = C.1 (69 + k) 1 + 1 then (if C.1 q 2 ≤ C.1 (69 + k) 2 then some ((0 : Int32), C) else (if nI u / 4 + 1 < s then some (0, C) else some (1, C))) else some (0, C)) = some (g, C) ∧ (if nI u / 4 + 1 < s then some ((0 : Int32), m) else if C.1 q 1 = C.1 (69 + k) 1 + 1 then (if C.1 q 2 ≤ C.1 (69 + k) 2 then some (0, m) else some (1, m)) else some (0, m)) = some (g, m) ∧ (g = 0 ∨ (g = 1 ∧ C.1 q 1 = C.1 (69 + k) 1 + 1 ∧ C.1 (69 + k) 2 < C.1 q 2)) := by
      intro s
      by_cases x1 : C.1 q 1 = C.1 (69 + k) 1 + 1
      · rw [if_pos x1, if_pos x1]
        by_cases x2 : C.1 q 2 ≤ C.1 (69 + k) 2
        · rw [if_pos x2, if_pos x2]
          refine ⟨0, rfl, ?_, Or.inl rfl⟩
          by_cases x3 : nI u / 4 + 1 < s
          · rw [if_pos x3]
          · rw [if_neg x3]
        · rw [if_neg x2, if_neg x2]
          by_cases x3 : nI u / 4 + 1 < s
          · rw [if_pos x3, if_pos x3]
            exact ⟨0, rfl, rfl, Or.inl rfl⟩
          · rw [if_neg x3, if_neg x3]
            exact ⟨1, rfl, rfl, Or.inr ⟨rfl, x1, Int32.not_le.mp x2⟩⟩
      · rw [if_neg x1, if_neg x1]
        refine ⟨0, rfl, ?_, Or.inl rfl⟩
        by_cases x3 : nI u / 4 + 1 < s
        · rw [if_pos x3]
        · rw [if_neg x3]
    by_cases e : u ≤ w
    · obtain ⟨g, g1, g2, g3⟩ := hfin (nI (w - u))
      rw [if_pos e, if_pos (nI_le e (by omega)), pk_sub e]
      refine ⟨g, g1, g2, ?_⟩
      rcases g3 with g3 | ⟨g3, g4, g5⟩
      · exact Or.inl g3
      · exact Or.inr ⟨g3, k, w, hk, rfl, k3, g4, g5, hw1, hw, rfl⟩
    · obtain ⟨g, g1, g2, g3⟩ := hfin (nI (u - w))
      rw [if_neg e, if_neg (nI_ge (by omega) (by omega)), pk_sub (show w ≤ u by omega)]
      refine ⟨g, g1, g2, ?_⟩
      rcases g3 with g3 | ⟨g3, g4, g5⟩
      · exact Or.inl g3
      · exact Or.inr ⟨g3, k, w, hk, rfl, k3, g4, g5, hw1, hw, rfl⟩
/-! a block more -/
theorem cp_append {n q k : Nat} {C : cz_M} (hn : C.1 19 7 = nI n) (h20 : n < 20) (hq : 5 ≤ cp_ln q) (hl : cp_ln q ≤ 56) (hq2 : q < 69) (hk : k < n) (hf : bk_find (C.1 21) (C.1 q 0) 0 n = nI k) (hq3 : q < 19 ∨ 26 < q) : f_Blocks_append C q = some (cz_i (cz_i (cz_i (cz_i (cz_i (cz_a C (69 + n) (va_cpy (C.1 q) (C.1 (69 + n)) 0 0 5)) 21 n (zm_h (C.1 q))) 22 n (nI k)) 23 n (C.1 23 k + C.1 q 3)) 25 n (-1)) 19 7 (nI (n + 1))) := by
  rw [f_Blocks_append, pl0 (by omega), pt0, cp_Blocks_find hn (by omega), pb_i, hf, cp_isFull hn (by omega), pb_i, if_neg (show ¬ n = 20 by omega), if_pos rfl, if_neg (pn_m1 (by omega)), hn, pc_in h20 (by decide), nI_clamp (show n < 2 ^ 31 by omega), pt5, pt3, if_neg (show ¬ ((0 : Int32) < 0 ∨ (0 : Int32) < 0 ∨ (5 : Int32) < 0 ∨ cp_ln q < 0 + 5 ∨ cp_ln (69 + n) < 0 + 5) by rw [cp_ln69 h20]; intro z; rcases z with z | z | z | z | z <;> first | exact absurd z (by decide) | omega), cp_hashOf hq hl, pb_i, pa_row _ _ _ (show (19 : Nat) ≠ 69 + n by omega), hn, pc_in (show n < cp_ln 21 by show n < 20; omega) (by decide), nI_clamp (show n < 2 ^ 31 by omega)]
  simp only [pi_row _ _ _ _ (show (19 : Nat) ≠ 21 by decide), pi_row _ _ _ _ (show (19 : Nat) ≠ 22 by decide), pi_row _ _ _ _ (show (19 : Nat) ≠ 23 by decide), pi_row _ _ _ _ (show (19 : Nat) ≠ 25 by decide), pi_row _ _ _ _ (show (23 : Nat) ≠ 21 by decide), pi_row _ _ _ _ (show (23 : Nat) ≠ 22 by decide), pi_row _ _ _ _ (show q ≠ 21 by omega), pi_row _ _ _ _ (show q ≠ 22 by omega), pa_row _ _ _ (show (19 : Nat) ≠ 69 + n by omega), pa_row _ _ _ (show (23 : Nat) ≠ 69 + n by omega), pa_row _ _ _ (show q ≠ 69 + n by omega), hn]
  rw [pc_in (show n < cp_ln 22 by show n < 20; omega) (by decide), pc_in (show k < cp_ln 23 by show k < 20; omega) (by decide), if_neg (show ¬ ((3 : Int32) < 0 ∨ cp_ln q ≤ 3) by intro z; rcases z with z | z; exact absurd z (by decide); omega), pc_in (show n < cp_ln 23 by show n < 20; omega) (by decide), pc_in (show n < cp_ln 25 by show n < 20; omega) (by decide), nI_clamp (show n < 2 ^ 31 by omega), nI_clamp (show k < 2 ^ 31 by omega), nI_1]
theorem mo_add_lp {n i : Nat} (hn : n < 20) (hi : i + 5 ≤ 60) : ∀ (r j f : Nat) (m : cz_M), j + r = 5 → r < f → m.1 0 4 = nI n → ∃ m', cz_lp2 (l_MO_add_2 (nI i)) f m (nI j) = b_MO_add_34 (nI i) m' ∧ (∀ k, k ≠ 1 → m'.1 k = m.1 k) ∧ (∀ x, x < 5 * n + j ∨ 5 * n + 5 ≤ x → m'.1 1 x = m.1 1 x) ∧ ∀ x, j ≤ x → x < 5 → m'.1 1 (5 * n + x) = m.1 17 (i + x) := by
  intro r
  induction r with
  | zero =>
    intro j f m hj hf h4
    obtain ⟨f, rfl⟩ : ∃ g, f = g + 1 := ⟨f - 1, by omega⟩
    have e : j = 5 := by omega
    subst e
    exact ⟨m, by rw [cz_lp2_s, l_MO_add_2, if_pos (by decide)], fun _ _ => rfl, fun _ _ => rfl, fun x h1 h2 => by omega⟩
  | succ r ih =>
    intro j f m hj hf h4
    obtain ⟨f, rfl⟩ : ∃ g, f = g + 1 := ⟨f - 1, by omega⟩
    obtain ⟨m', a1, a2, a3, a4⟩ := ih (j + 1) f (cz_i m 1 (5 * n + j) (m.1 17 (i + j))) (by omega) (by omega) (by rw [pi_row _ _ _ _ (by decide)]; exact h4)
    refine ⟨m', ?_, fun k hk => (a2 k hk).trans (pi_row _ _ _ _ hk), fun x hx => ?_, fun x h1 h2 => ?_⟩
    · rw [cz_lp2_s, l_MO_add_2, if_neg (show ¬ (5 : Int32) ≤ nI j from nI_ge (b := 5) (by omega) (by decide)), h4, show (5 : Int32) * nI n = nI (5 * n) from pk_mul 5 n, nI_add, nI_add, pc_in (show i + j < mo_ln 17 by show _ < 60; omega) (by decide), pc_in (show 5 * n + j < mo_ln 1 by show _ < 100; omega) (by decide), nI_clamp (show i + j < 2 ^ 31 by omega), nI_clamp (show 5 * n + j < 2 ^ 31 by omega), nI_1]
      exact a1
    · rw [a3 x (by omega), pi_get, if_neg (by omega)]
    · by_cases e : x = j
      · subst e
        rw [a3 _ (by omega), pi_same]
      · rw [a4 x (by omega) h2, pi_row _ _ _ _ (by decide)]
theorem mo_add {n i : Nat} {m : cz_M} (hn : n < 20) (hi : i + 5 ≤ 60) (h4 : m.1 0 4 = nI n) : ∃ m', f_MO_add m (nI i) = some m' ∧ (∀ k, k ≠ 0 → k ≠ 1 → k ≠ 3 → m'.1 k = m.1 k) ∧ (∀ j, j ≠ 4 → m'.1 0 j = m.1 0 j) ∧ m'.1 0 4 = nI (n + 1) ∧ (∀ x, x ≠ n → m'.1 3 x = m.1 3 x) ∧ m'.1 3 n = -1 ∧ (∀ x, x < 5 * n ∨ 5 * n + 5 ≤ x → m'.1 1 x = m.1 1 x) ∧ ∀ x, x < 5 → m'.1 1 (5 * n + x) = m.1 17 (i + x) := by
  obtain ⟨m1, a1, a2, a3, a4⟩ := mo_add_lp hn hi 5 0 100 m (by omega) (by omega) h4
  have h5 : m1.1 0 4 = nI n := by rw [a2 0 (by decide), h4]
  refine ⟨cz_i (cz_i m1 3 n (-1)) 0 4 (nI (n + 1)), ?_, fun k k0 k1 k3 => ?_, fun j hj => ?_, pi_same _ _ _ _, fun x hx => ?_, ?_, fun x hx => ?_, fun x hx => ?_⟩
  · refine Eq.trans a1 ?_
    rw [b_MO_add_34, h5, pc_in (show n < mo_ln 3 by show n < 20; omega) (by decide), nI_clamp (by omega), pi_row _ _ _ _ (show (0 : Nat) ≠ 3 by decide), h5, nI_1]
  · rw [pi_row _ _ _ _ k0, pi_row _ _ _ _ k3, a2 k k1]
  · rw [pi_get, if_neg (fun z => hj z.2), pi_row _ _ _ _ (by decide), a2 0 (by decide)]
  · rw [pi_row _ _ _ _ (by decide), pi_get, if_neg (fun z => hx z.2), a2 3 (by decide)]
  · rw [pi_row _ _ _ _ (by decide), pi_same]
  · rw [pi_row _ _ _ _ (by decide), pi_row _ _ _ _ (by decide), a3 x (by omega)]
  · rw [pi_row _ _ _ _ (by decide), pi_row _ _ _ _ (by decide), a4 x (by omega) hx]
