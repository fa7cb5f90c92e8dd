/-! PURE: the store grows; bodies; seal -/
theorem rB.app {n q k w : Nat} {C C' m m' : cz_M} (h : rB n C m) (hn : n < 20) (hk : k < n) (q0 : C.1 21 k = C.1 q 0) (q1 : C.1 q 1 = C.1 (69 + k) 1 + 1) (q2 : C.1 (69 + k) 2 < C.1 q 2) (w1 : 1 ≤ w) (w2 : w ≤ 99) (q3 : C.1 q 3 = nI w) (q4 : 0 ≤ C.1 q 4) (hf : bk_find (C.1 21) (zm_h (C.1 q)) 0 n = -1)
    (c1 : C'.1 19 7 = nI (n + 1)) (c2 : ∀ j, j ≠ n → C'.1 (69 + j) = C.1 (69 + j)) (c3 : ∀ j, j < 5 → C'.1 (69 + n) j = C.1 q j) (c21 : ∀ j, C'.1 21 j = if j = n then zm_h (C.1 q) else C.1 21 j) (c22 : ∀ j, C'.1 22 j = if j = n then nI k else C.1 22 j) (c23 : ∀ j, C'.1 23 j = if j = n then C.1 23 k + C.1 q 3 else C.1 23 j) (c25 : ∀ j, C'.1 25 j = if j = n then -1 else C.1 25 j) (c26 : C'.1 26 = C.1 26)
    (m0 : m'.1 0 4 = nI (n + 1)) (m1 : ∀ x, x < 5 * n ∨ 5 * n + 5 ≤ x → m'.1 1 x = m.1 1 x) (m1' : ∀ x, x < 5 → m'.1 1 (5 * n + x) = C.1 q x) (m2 : m'.1 2 = m.1 2) (m3 : ∀ x, x ≠ n → m'.1 3 x = m.1 3 x) (m3' : m'.1 3 n = -1) : rB (n + 1) C' m' := by
  obtain ⟨hc, hI, hE⟩ := h
  obtain ⟨i1, i2, i3, ⟨g0, g1, g2, g3, g4, g5, g6, g7⟩, i5, i6, i7, i8⟩ := hI
  have hlt : ∀ j, j < n + 1 → j ≠ n → j < n := fun j h1 h2 => by omega
  have hnf : ∀ j, j < n → C.1 21 j ≠ zm_h (C.1 q) := by
    rcases bk_find_spec (ha := C.1 21) (h := zm_h (C.1 q)) n 0 with ⟨-, e⟩ | ⟨j, -, j2, -, j4⟩
    · exact fun j hj => e j (by omega) (by omega)
    · rw [hf] at j4
      exact absurd j4.symm (pn_m1 (by omega))
  have ehash : zm_h (C'.1 (69 + n)) = zm_h (C.1 q) := zm_h_cong c3
  refine ⟨c1, ⟨⟨by omega, by omega⟩, fun j hj => ?_, fun i j hi hj he => ?_, ?_, fun j h0 hj => ?_, fun j hj => ?_, fun j hj => ?_, fun j hj => ?_⟩, m0, fun j x hj hx => ?_, fun j hj => ?_, fun j x s hj hs h8 hx => ?_⟩
  · show C'.1 21 j = zm_h (C'.1 (69 + j))
    by_cases e : j = n
    · subst e
      rw [c21, if_pos rfl, ehash]
    · rw [c21, if_neg e, c2 j e]
      exact i2 j (hlt j hj e)
  · rw [c21, c21] at he
    by_cases e1 : i = n <;> by_cases e2 : j = n
    · omega
    · rw [if_pos e1, if_neg e2] at he
      exact absurd he.symm (hnf j (hlt j hj e2))
    · rw [if_neg e1, if_pos e2] at he
      exact absurd he (hnf i (hlt i hi e1))
    · rw [if_neg e1, if_neg e2] at he
      exact i3 i j (hlt i hi e1) (hlt j hj e2) he
  · have e : (0 : Nat) ≠ n := by omega
    simp only
    rw [c2 0 e, c23, if_neg e, c25, if_neg e, c26]
    exact ⟨g0, g1, g2, g3, g4, g5, g6, g7⟩
  · simp only
    by_cases e : j = n
    · subst e
      refine ⟨k, hk, ?_, ?_, ?_, ?_, ?_⟩
      · rw [c22, if_pos rfl]
      · rw [c3 0 (by omega), c21, if_neg (by omega), q0]
      · rw [c3 1 (by omega), c2 k (by omega), q1]
      · rw [c23, if_pos rfl, c23, if_neg (by omega), c3 3 (by omega)]
      · rw [c25, if_pos rfl, if_pos rfl, c26]
        exact i8 j (Nat.le_refl _)
    · obtain ⟨p, p1, p2, p3, p4, p5, p6⟩ := i5 j h0 (hlt j hj e)
      have ep : p ≠ n := by omega
      refine ⟨p, p1, ?_, ?_, ?_, ?_, ?_⟩
      · rw [c22, if_neg e, p2]
      · rw [c2 j e, c21, if_neg ep]
        exact p3
      · rw [c2 j e, c2 p ep]
        exact p4
      · rw [c23, if_neg e, c23, if_neg ep, c2 j e]
        exact p5
      · rw [c25, if_neg e, c26]
        exact p6
  · simp only
    by_cases e : j = n
    · subst e
      refine ⟨⟨w, w1, w2, by rw [c3 3 (by omega), q3]⟩, ?_, ?_, ?_⟩
      · rw [c3 0 (by omega), ← q0, i2 k hk]
        obtain ⟨v, v1, v2⟩ := zm_nn (C.1 (69 + k))
        rw [v2]
        exact nI_pos' v1
      · rw [c3 2 (by omega)]
        exact Int32.le_trans (i6 k hk).2.2.1 (Int32.le_of_lt q2)
      · rw [c3 4 (by omega)]
        exact q4
    · rw [c2 j e]
      exact i6 j (hlt j hj e)
  · simp only
    by_cases e : j = n
    · subst e
      rw [c25, if_pos rfl]
      exact Or.inl rfl
    · rw [c25, if_neg e, show 89 + j = 69 + (20 + j) by omega, c2 (20 + j) (by omega), show 69 + (20 + j) = 89 + j by omega]
      exact i7 j (hlt j hj e)
  · rw [c26]
    exact i8 j (by omega)
  · simp only
    by_cases e : j = n
    · subst e
      rw [m1' x hx, c3 x hx]
    · rw [m1 _ (by omega), c2 j e]
      exact hE.2.1 j x (hlt j hj e) hx
  · by_cases e : j = n
    · subst e
      rw [m3', c25, if_pos rfl]
    · rw [m3 j e, c25, if_neg e]
      exact hE.2.2.1 j (hlt j hj e)
  · simp only
    by_cases e : j = n
    · subst e
      rw [c25, if_pos rfl] at hs
      exact absurd hs.symm (pn_m1 (by omega))
    · rw [c25, if_neg e] at hs
      rw [m2, show 89 + j = 69 + (20 + j) by omega, c2 (20 + j) (by omega), show 69 + (20 + j) = 89 + j by omega]
      exact hE.2.2.2 j x s (hlt j hj e) hs h8 hx
theorem sb_lp {n : Nat} (h20 : n ≤ 20) (a1 : Int32) (a2 : Nat) (a3 : Int32) : ∀ (r c f : Nat) (M : cz_M), c + r = n → r < f → 0 < c → M.1 19 7 = nI n → (∀ j, 0 < j → j < n → ∃ p, p < j ∧ M.1 22 j = nI p) → (∀ j, j < c → M.1 26 j = 0 ∨ M.1 26 j = 1) → (∀ j p, 0 < j → j < c → p < j → M.1 22 j = nI p → M.1 26 j = if M.1 25 j = -1 then 0 else M.1 26 p) → ∃ M', cz_lp2 (l_Blocks_setBody_23 a1 a2 a3) f M (nI c) = some M' ∧ (∀ x, x ≠ 26 → M'.1 x = M.1 x) ∧ M'.2 = M.2 ∧ (∀ j, j = 0 ∨ n ≤ j → M'.1 26 j = M.1 26 j) ∧ ∀ j p, 0 < j → j < n → p < j → M'.1 22 j = nI p → M'.1 26 j = if M'.1 25 j = -1 then 0 else M'.1 26 p := by
  intro r
  induction r with
  | zero =>
    intro c f M hc hf h0 hn hp hb hi
    obtain ⟨f, rfl⟩ : ∃ g, f = g + 1 := ⟨f - 1, by omega⟩
    have e : c = n := by omega
    subst e
    exact ⟨M, by rw [cz_lp2_s, l_Blocks_setBody_23, hn, if_pos (nI_le (by omega) (by omega))], fun _ _ => rfl, rfl, fun _ _ => rfl, hi⟩
  | succ r ih =>
    intro c f M hc hf h0 hn hp hb hi
    obtain ⟨f, rfl⟩ : ∃ g, f = g + 1 := ⟨f - 1, by omega⟩
    obtain ⟨p, p1, p2⟩ := hp c h0 (by omega)
    have hv : ∃ v, (v = 0 ∨ v = 1) ∧ (v = if M.1 25 c = -1 then 0 else M.1 26 p) ∧ l_Blocks_setBody_23 a1 a2 a3 (cz_lp2 (l_Blocks_setBody_23 a1 a2 a3) f) M (nI c) = cz_lp2 (l_Blocks_setBody_23 a1 a2 a3) f (cz_i M 26 c v) (nI (c + 1)) := by
      have w0 : b_Blocks_setBody_67 a1 a2 a3 (cz_lp2 (l_Blocks_setBody_23 a1 a2 a3) f) M (nI c) 0 (nI c) = cz_lp2 (l_Blocks_setBody_23 a1 a2 a3) f (cz_i M 26 c 0) (nI (c + 1)) := by
        rw [b_Blocks_setBody_67, pc_in (show c < 20 by omega) (by decide), nI_clamp (by omega), nI_1]
        rfl
      have w1 : b_Blocks_setBody_67 a1 a2 a3 (cz_lp2 (l_Blocks_setBody_23 a1 a2 a3) f) M (nI c) 1 (nI c) = cz_lp2 (l_Blocks_setBody_23 a1 a2 a3) f (cz_i M 26 c 1) (nI (c + 1)) := by
        rw [b_Blocks_setBody_67, pc_in (show c < 20 by omega) (by decide), nI_clamp (by omega), nI_1]
        rfl
      rw [l_Blocks_setBody_23, hn, if_neg (nI_ge (by omega) (by omega)), cp_hasBody (by omega), pb_i, pc_in (show c < cp_ln 22 by show c < 20; omega) (by decide), nI_clamp (show c < 2 ^ 31 by omega), p2, pc_in (show p < 20 by omega) (by decide), nI_clamp (show p < 2 ^ 31 by omega), b_Blocks_setBody_66, w0, w1]
      by_cases e : M.1 25 c = -1
      · rw [if_pos e, if_pos e, if_pos rfl]
        exact ⟨0, Or.inl rfl, rfl, rfl⟩
      · rw [if_neg e, if_neg e, if_neg (show ¬ (1 : Int32) = 0 by decide)]
        rcases hb p (by omega) with e2 | e2
        · rw [if_pos e2, e2]
          exact ⟨0, Or.inl rfl, rfl, rfl⟩
        · rw [e2, if_neg (show ¬ (1 : Int32) = 0 by decide)]
          exact ⟨1, Or.inr rfl, rfl, rfl⟩
    obtain ⟨v, v1, v2, v3⟩ := hv
    have r22 : (cz_i M 26 c v).1 22 = M.1 22 := pi_row _ _ _ _ (by decide)
    have r25 : (cz_i M 26 c v).1 25 = M.1 25 := pi_row _ _ _ _ (by decide)
    obtain ⟨M', a1, a2, a3, a4, a5⟩ := ih (c + 1) f (cz_i M 26 c v) (by omega) (by omega) (by omega) (by rw [pi_row _ _ _ _ (by decide)]; exact hn) (by rw [r22]; exact hp) (fun j hj => by
      by_cases e : j = c
      · subst e
        rw [pi_same]
        exact v1
      · rw [pi_get, if_neg (fun z => e z.2)]
        exact hb j (by omega)) (fun j p' j0 hj hp' h22 => by
      rw [r22] at h22
      rw [r25, pi_get _ _ _ _ _ p', if_neg (show ¬ ((26 : Nat) = 26 ∧ p' = c) by omega)]
      by_cases e : j = c
      · subst e
        have e2 : p' = p := by
          rw [p2, nI_eq (by omega) (by omega)] at h22
          exact h22.symm
        subst e2
        rw [pi_same, v2]
      · rw [pi_get, if_neg (fun z => e z.2)]
        exact hi j p' j0 (by omega) hp' h22)
    refine ⟨M', by rw [cz_lp2_s, v3, a1], fun x hx => (a2 x hx).trans (pi_row _ _ _ _ hx), a3, fun j hj => ?_, a5⟩
    rw [a4 j hj, pi_get, if_neg (by omega)]
theorem cp_setBody {n k q s : Nat} {C m : cz_M} (hB : rB n C m) (hk0 : 0 < k) (hk : k < n) (hs : s ≤ 8) (hq : s ≤ cp_ln q) : ∃ C', f_Blocks_setBody C (nI k) q (nI s) = some C' ∧ (∀ x, x ≠ 25 → x ≠ 26 → x ≠ 89 + k → C'.1 x = C.1 x) ∧ C'.2 = C.2 ∧ (∀ i, i < s → C'.1 (89 + k) i = C.1 q i) ∧ (∀ j, C'.1 25 j = if j = k then nI s else C.1 25 j) ∧ (∀ j, j = 0 ∨ n ≤ j → C'.1 26 j = C.1 26 j) ∧ ∀ j p, 0 < j → j < n → p < j → C.1 22 j = nI p → C'.1 26 j = if C'.1 25 j = -1 then 0 else C'.1 26 p := by
  obtain ⟨hc, hI, hE⟩ := hB
  have h20 := hI.1.2
  have r19 : (cz_i (cz_a C (89 + k) (va_cpy (C.1 q) (C.1 (89 + k)) 0 0 s)) 25 k (nI s)).1 19 = C.1 19 := by rw [pi_row _ _ _ _ (by decide), pa_row _ _ _ (by omega)]
  have r22 : (cz_i (cz_a C (89 + k) (va_cpy (C.1 q) (C.1 (89 + k)) 0 0 s)) 25 k (nI s)).1 22 = C.1 22 := by rw [pi_row _ _ _ _ (by decide), pa_row _ _ _ (by omega)]
  have r26 : (cz_i (cz_a C (89 + k) (va_cpy (C.1 q) (C.1 (89 + k)) 0 0 s)) 25 k (nI s)).1 26 = C.1 26 := by rw [pi_row _ _ _ _ (by decide), pa_row _ _ _ (by omega)]
  have r25 : ∀ j, (cz_i (cz_a C (89 + k) (va_cpy (C.1 q) (C.1 (89 + k)) 0 0 s)) 25 k (nI s)).1 25 j = if j = k then nI s else C.1 25 j := by
    intro j
    rw [pi_get, pa_row _ _ _ (show (25 : Nat) ≠ 89 + k by omega)]
    simp
  obtain ⟨C', a1, a2, a3, a4, a5⟩ := sb_lp h20 (nI k) q (nI s) (n - k) k 100 (cz_i (cz_a C (89 + k) (va_cpy (C.1 q) (C.1 (89 + k)) 0 0 s)) 25 k (nI s)) (by omega) (by omega) hk0 (by rw [r19]; exact hc) (by
    rw [r22]
    intro j j0 hj
    obtain ⟨p, p1, p2, -⟩ := hI.2.2.2.2.1 j j0 hj
    exact ⟨p, p1, p2⟩) (by
    rw [r26]
    intro j hj
    obtain ⟨d, t', -, -, -, -, -, z⟩ := bk_dep hI (show j < n by omega)
    exact z) (by
    rw [r22, r26]
    intro j p j0 hj hp h22
    rw [r25, if_neg (show ¬ j = k by omega)]
    obtain ⟨p', p1, p2, p3, p4, p5, p6⟩ := hI.2.2.2.2.1 j j0 (by omega)
    have e : p' = p := by
      rw [p2, nI_eq (by omega) (by omega)] at h22
      exact h22
    subst e
    exact p6)
  refine ⟨C', ?_, fun x x1 x2 x3 => ?_, a3, fun i hi => ?_, fun j => ?_, fun j hj => ?_, fun j p j0 hj hp h22 => ?_⟩
  · rw [f_Blocks_setBody, pc_in (show k < 20 by omega) (by decide), pc_in (show k < cp_ln 25 by show k < 20; omega) (by decide), nI_clamp (show k < 2 ^ 31 by omega), nI_clamp (show s < 2 ^ 31 by omega), pt0, cp_ln89 (by omega), if_neg (show ¬ ((0 : Int32) < 0 ∨ (0 : Int32) < 0 ∨ nI s < 0 ∨ cp_ln q < 0 + s ∨ 8 < 0 + s) by
      intro z
      rcases z with z | z | z | z | z
      · exact absurd z (by decide)
      · exact absurd z (by decide)
      · exact pn_lt0 (by omega) z
      · omega
      · omega), a1]
  · rw [a2 x x2, pi_row _ _ _ _ x1, pa_row _ _ _ x3]
  · rw [a2 _ (by omega), pi_row _ _ _ _ (by omega), pa_get, if_pos rfl, pk_cpy_in (by omega) (by omega), Nat.zero_add, Nat.sub_zero]
  · rw [a2 25 (by decide), r25]
  · rw [a4 j hj, r26]
  · refine a5 j p j0 hj hp ?_
    rw [a2 22 (by decide), r22]
    exact h22
theorem rB.body {n k s : Nat} {C C' m m' : cz_M} (h : rB n C m) (hk0 : 0 < k) (hk : k < n) (hs : s ≤ 8) (c1 : ∀ x, x ≠ 25 → x ≠ 26 → x ≠ 89 + k → C'.1 x = C.1 x) (c25 : ∀ j, C'.1 25 j = if j = k then nI s else C.1 25 j) (c26 : ∀ j, j = 0 ∨ n ≤ j → C'.1 26 j = C.1 26 j) (c26' : ∀ j p, 0 < j → j < n → p < j → C.1 22 j = nI p → C'.1 26 j = if C'.1 25 j = -1 then 0 else C'.1 26 p) (cb : ∀ i, i < s → 0 ≤ C'.1 (89 + k) i)
    (m0 : m'.1 0 4 = m.1 0 4) (m1 : m'.1 1 = m.1 1) (m3 : ∀ x, x ≠ k → m'.1 3 x = m.1 3 x) (m3' : m'.1 3 k = nI s) (m2 : ∀ x, x < 8 * k ∨ 8 * k + 8 ≤ x → m'.1 2 x = m.1 2 x) (m2' : ∀ i, i < s → m'.1 2 (8 * k + i) = C'.1 (89 + k) i) : rB n C' m' := by
  obtain ⟨hc, hI, hE⟩ := h
  have h20 := hI.1.2
  obtain ⟨i1, i2, i3, ⟨g0, g1, g2, g3, g4, g5, g6, g7⟩, i5, i6, i7, i8⟩ := hI
  have chd : ∀ j, j < n → C'.1 (69 + j) = C.1 (69 + j) := fun j hj => c1 _ (by omega) (by omega) (by omega)
  refine ⟨by rw [c1 19 (by decide) (by decide) (by omega)]; exact hc, ⟨i1, fun j hj => ?_, ?_, ?_, fun j j0 hj => ?_, fun j hj => ?_, fun j hj => ?_, fun j hj => ?_⟩, by rw [m0]; exact hE.1, fun j x hj hx => ?_, fun j hj => ?_, fun j x s' hj h25 h8 hx => ?_⟩
  · show C'.1 21 j = zm_h (C'.1 (69 + j))
    rw [c1 21 (by decide) (by decide) (by omega), chd j hj]
    exact i2 j hj
  · rw [c1 21 (by decide) (by decide) (by omega)]
    exact i3
  · simp only
    rw [chd 0 (by omega), c1 23 (by decide) (by decide) (by omega), c25, if_neg (by omega), c26 0 (Or.inl rfl)]
    exact ⟨g0, g1, g2, g3, g4, g5, g6, g7⟩
  · obtain ⟨p, p1, p2, p3, p4, p5, p6⟩ := i5 j j0 hj
    simp only at p3 p4 p5
    refine ⟨p, p1, ?_, ?_, ?_, ?_, c26' j p j0 hj p1 p2⟩
    · rw [c1 22 (by decide) (by decide) (by omega), p2]
    · simp only
      rw [chd j hj, c1 21 (by decide) (by decide) (by omega), p3]
    · simp only
      rw [chd j hj, chd p (by omega), p4]
    · simp only
      rw [chd j hj, c1 23 (by decide) (by decide) (by omega), p5]
  · simp only
    rw [chd j hj]
    exact i6 j hj
  · simp only
    by_cases e : j = k
    · subst e
      rw [c25, if_pos rfl]
      exact Or.inr ⟨s, hs, rfl, cb⟩
    · rw [c25, if_neg e, c1 (89 + j) (by omega) (by omega) (by omega)]
      exact i7 j hj
  · rw [c26 j (Or.inr hj)]
    exact i8 j hj
  · simp only
    rw [m1, chd j hj]
    exact hE.2.1 j x hj hx
  · by_cases e : j = k
    · subst e
      rw [m3', c25, if_pos rfl]
    · rw [m3 j e, c25, if_neg e]
      exact hE.2.2.1 j hj
  · simp only
    by_cases e : j = k
    · subst e
      rw [c25, if_pos rfl, nI_eq (by omega) (by omega)] at h25
      exact m2' x (by omega)
    · rw [c25, if_neg e] at h25
      rw [m2 _ (by omega), c1 (89 + j) (by omega) (by omega) (by omega)]
      exact hE.2.2.2 j x s' hj h25 h8 hx
theorem rP.up {n n' t p q : Nat} {C m : cz_M} (h : rP n t C m p q) (hn : n ≤ n') : rP n' t C m p q := by
  obtain ⟨h1, h2, h3, h4, h5, h6⟩ := h
  refine ⟨h1, h2, h3, h4, ?_, h6⟩
  rcases h5 with h5 | ⟨a1, a2, a3, a4, a5⟩
  · exact Or.inl h5
  · refine Or.inr ⟨a1, a2, a3, a4, ?_⟩
    rcases a5 with a5 | ⟨b1, b2, k, k1, k2, k3⟩
    · exact Or.inl a5
    · exact Or.inr ⟨b1, b2, k, k1, by omega, k3⟩
/-- the store alone is changed -/
theorem rR.store {t n n' : Nat} {C C' m m' : cz_M} (hP : ∀ p, p < 4 → rP n t C m p (2 + 2 * p)) (hW : rW C m) (hG : rG t C m) (hB : rB n' C' m') (hn : n ≤ n') (c1 : ∀ k, k ≤ 11 ∨ (29 ≤ k ∧ k ≤ 60) → C'.1 k = C.1 k) (c2 : C'.2 = C.2) (m0 : ∀ j, j < 4 ∨ j = 19 → m'.1 0 j = m.1 0 j) (m1 : ∀ k, 4 ≤ k → k ≤ 15 → m'.1 k = m.1 k) : (∀ p, p < 4 → rP n' t C' m' p (2 + 2 * p)) ∧ rW C' m' ∧ rG t C' m' := by
  refine ⟨fun p hp => ((hP p hp).fr (c1 _ (by omega)) (by rw [c2]) (fun e he => c1 _ (by omega)) (fun k a b => by rw [m1 k (by omega) (by omega)]) (fun j hj => by rw [m1 13 (by omega) (by omega)]) (fun i hi => by rw [m1 14 (by omega) (by omega)])).up hn, hW.fr (c1 10 (by omega)) (c1 11 (by omega)) (m0 19 (by omega)) (m1 15 (by omega) (by omega)), hG.fr (c1 0 (by omega)) (fun j hj => m0 j (by omega))⟩
