/-! PURE: the start, the law -/
theorem m0_c (a b : Int32) : ∃ z : Int32, z = hs_h (upd (fun _ => 0) 3 8) ∧ cp_M0 a b = (fun k => if k = 0 then (fun j => if j = 0 then cz_max a 0 else if j = 1 then cz_min (cz_max b 1) 30 else 0) else if k = 19 then (fun j => if j = 7 then 1 else 0) else if k = 21 then upd (fun _ => 0) 0 z else if k = 23 then upd (fun _ => 0) 0 8 else if k = 26 then upd (fun _ => 0) 0 (vp_nar .boolean 1) else if k = 69 then upd (fun _ => 0) 3 8 else fun _ => 0, fun k j => 29 + 8 * ((k - 3) / 2) + 2 * j) := by
  unfold cp_M0
  exact ⟨_, rfl, rfl⟩
theorem m0_nar : vp_nar .boolean 1 = 1 := by decide
theorem m0_m (a b : Int32) : ∀ k j, 2 ≤ k → (mo_M0 a b).1 k j = 0 := by
  intro k j hk
  unfold mo_M0
  simp only
  rw [if_neg (by omega), if_neg (by omega)]
theorem m0_m1 (a b : Int32) : (mo_M0 a b).1 1 = upd (fun _ => 0) 3 8 := by
  unfold mo_M0
  simp only
  rw [if_neg (by decide), if_pos trivial]
theorem m0_4 (a b : Int32) : (mo_M0 a b).1 0 4 = 1 := by
  unfold mo_M0
  rfl
theorem rB0 {a b z : Int32} {C : cz_M} (hz : z = zm_h (upd (fun _ => 0) 3 8)) (c19 : C.1 19 7 = 1) (c21 : C.1 21 0 = z) (c23 : C.1 23 0 = 8) (c25 : C.1 25 0 = 0) (c26 : ∀ k, C.1 26 k = if k = 0 then 1 else 0) (c69 : C.1 69 = upd (fun _ => 0) 3 8) : rB 1 C (mo_M0 a b) := by
  have m1 := m0_m1 a b
  have hm := m0_m a b
  refine ⟨c19, ⟨⟨by omega, by omega⟩, fun k hk => ?_, fun i j hi hj _ => by omega, ?_, fun k h0 h1 => by omega, fun k hk => ?_, fun k hk => ?_, fun k hk => ?_⟩, m0_4 a b, fun k j hk hj => ?_, fun k hk => ?_, fun k i s hk h25 hs hi => ?_⟩
  · have e : k = 0 := by omega
    subst e
    show C.1 21 0 = zm_h (C.1 69)
    rw [c21, hz, c69]
  · show C.1 69 0 = 0 ∧ C.1 69 1 = 0 ∧ C.1 69 2 = 0 ∧ C.1 69 3 = 8 ∧ C.1 69 4 = 0 ∧ C.1 23 0 = 8 ∧ C.1 25 0 = 0 ∧ C.1 26 0 = 1
    rw [c69, c23, c25, c26]
    exact ⟨rfl, rfl, rfl, rfl, rfl, rfl, rfl, rfl⟩
  · have e : k = 0 := by omega
    subst e
    show (∃ w, 1 ≤ w ∧ w ≤ 99 ∧ C.1 69 3 = nI w) ∧ 0 ≤ C.1 69 0 ∧ 0 ≤ C.1 69 2 ∧ 0 ≤ C.1 69 4
    rw [c69]
    refine ⟨⟨8, by omega, by omega, rfl⟩, ?_, ?_, ?_⟩ <;> decide
  · have e : k = 0 := by omega
    subst e
    exact Or.inr ⟨0, by omega, c25, fun i hi => by omega⟩
  · rw [c26, if_neg (by omega)]
  · have e : k = 0 := by omega
    subst e
    show (mo_M0 a b).1 1 (5 * 0 + j) = C.1 69 j
    rw [m1, c69, Nat.mul_zero, Nat.zero_add]
  · have e : k = 0 := by omega
    subst e
    rw [hm 3 0 (by omega), c25]
  · have e : k = 0 := by omega
    subst e
    rw [c25] at h25
    have e2 : s = 0 := ((nI_eq (a := 0) (b := s) (by omega) (by omega)).mp h25).symm
    omega
theorem rP0 {a b : Int32} {C : cz_M} {p : Nat} (hz : ∀ j, C.1 (2 + 2 * p) j = 0) (hr : ∀ j, C.2 (2 + 2 * p + 1) j = 29 + 8 * p + 2 * j) : rP 1 0 C (mo_M0 a b) p (2 + 2 * p) := by
  have hm := m0_m a b
  refine ⟨⟨0, 7, by omega, hz 0, hm 4 p (by omega), by omega, ?_, ?_, Or.inr (by omega)⟩, by rw [hz, hm 6 p (by omega)], by rw [hz, hm 7 p (by omega)], by rw [hz, hm 10 p (by omega)], Or.inl ⟨hm 8 p (by omega), hz 5⟩, ⟨0, by omega, hz 9, hm 12 p (by omega), fun j hj => by omega⟩, fun j hj => ⟨j, hj, hr j⟩, fun i j hi hj e => ?_⟩
  · rw [hz]
    decide
  · rw [hm 5 p (by omega)]
    decide
  · rw [hr, hr] at e
    omega
theorem rG0 {a b : Int32} {C : cz_M} (c0 : C.1 0 0 = cz_max a 0) (c1 : C.1 0 1 = cz_min (cz_max b 1) 30) (c9 : C.1 0 9 = 0) (c10 : C.1 0 10 = 0) : rG 0 C (mo_M0 a b) := by
  have g0 : C.1 0 0 = (mo_M0 a b).1 0 0 := by
    rw [c0]
    show cz_max a 0 = if 0 ≤ a then a else 0
    unfold cz_max
    by_cases e : a < 0
    · rw [if_pos e, if_neg (Int32.not_le.mpr e)]
    · rw [if_neg e, if_pos (Int32.not_lt.mp e)]
  have g1 : 0 ≤ (mo_M0 a b).1 0 0 := by
    show 0 ≤ if 0 ≤ a then a else 0
    by_cases e : 0 ≤ a
    · rw [if_pos e]
      exact e
    · rw [if_neg e]
      decide
  have g2 : C.1 0 1 = (mo_M0 a b).1 0 1 := by
    rw [c1]
    show cz_min (cz_max b 1) 30 = if 1 ≤ b then (if b ≤ 30 then b else 30) else 1
    unfold cz_min cz_max
    by_cases e : b < 1
    · rw [if_pos e, if_neg (Int32.not_le.mpr e), if_neg (by decide)]
    · rw [if_neg e, if_pos (Int32.not_lt.mp e)]
      by_cases f : 30 < b
      · rw [if_pos f, if_neg (Int32.not_le.mpr f)]
      · rw [if_neg f, if_pos (Int32.not_lt.mp f)]
  exact ⟨g0, by rw [g0]; exact g1, g2, c9, 0, by omega, c10, rfl⟩
theorem rR0 (a b : Int32) : rR 0 (cp_M0 a b) (mo_M0 a b) := by
  obtain ⟨z, hz, e⟩ := m0_c a b
  rw [zm_h_eq] at hz
  rw [e, m0_nar]
  clear e
  refine ⟨1, rB0 hz rfl rfl rfl rfl (fun k => rfl) rfl, fun p hp => rP0 (fun j => ?_) (fun j => ?_), ⟨0, by omega, rfl, rfl, fun i hi => by omega⟩, rG0 rfl rfl rfl rfl⟩
  · have : p = 0 ∨ p = 1 ∨ p = 2 ∨ p = 3 := by omega
    rcases this with rfl | rfl | rfl | rfl <;> rfl
  · show 29 + 8 * ((2 + 2 * p + 1 - 3) / 2) + 2 * j = _
    omega
theorem lw_0 {u : Nat} {X Y : Option (Int32 × cz_M)} {rec : cz_M → cz_M → Int32 → Option Int32} {v : Int32} (h : ∃ r C' m', X = some (r, C') ∧ Y = some (r, m') ∧ rR u C' m') (hrec : ∀ C' m', rR u C' m' → rec C' m' v = some 1) : cz_bi X (fun r M => cz_bi Y (fun r' m' => if r = r' then rec M m' v else some 0)) = some 1 := by
  obtain ⟨r, C', m', rfl, rfl, h3⟩ := h
  rw [pb_i, pb_i, if_pos rfl]
  exact hrec _ _ h3
theorem lw_1 {u L i : Nat} {X Y : Option (Int32 × cz_M)} {rec : cz_M → cz_M → Int32 → Option Int32} {v : Int32} (hi : i < L) (hL : L < 2 ^ 31) (h : ∃ r C' m', X = some (r, C') ∧ Y = some (r, m') ∧ rR u C' m') (hrec : ∀ C' m', rR u C' m' → rec C' m' v = some 1) : (if nI i < 0 ∨ L ≤ (nI i).toNatClampNeg then none else cz_bi X (fun r M => (if nI i < 0 ∨ L ≤ (nI i).toNatClampNeg then none else cz_bi Y (fun r' m' => if r = r' then rec M m' v else some 0)))) = some 1 := by
  obtain ⟨r, C', m', rfl, rfl, h3⟩ := h
  rw [pc_in hi hL, pb_i, pc_in hi hL, pb_i, if_pos rfl]
  exact hrec _ _ h3
theorem lw_2 {u L i j : Nat} {X Y : Option (Int32 × cz_M)} {rec : cz_M → cz_M → Int32 → Option Int32} {v : Int32} (hi : i < L) (hj : j < L) (hL : L < 2 ^ 31) (h : ∃ r C' m', X = some (r, C') ∧ Y = some (r, m') ∧ rR u C' m') (hrec : ∀ C' m', rR u C' m' → rec C' m' v = some 1) : (if nI i < 0 ∨ L ≤ (nI i).toNatClampNeg then none else (if nI j < 0 ∨ L ≤ (nI j).toNatClampNeg then none else cz_bi X (fun r M => (if nI i < 0 ∨ L ≤ (nI i).toNatClampNeg then none else (if nI j < 0 ∨ L ≤ (nI j).toNatClampNeg then none else cz_bi Y (fun r' m' => if r = r' then rec M m' v else some 0)))))) = some 1 := by
  obtain ⟨r, C', m', rfl, rfl, h3⟩ := h
  rw [pc_in hi hL, pc_in hj hL, pb_i, pc_in hi hL, pc_in hj hL, pb_i, if_pos rfl]
  exact hrec _ _ h3
theorem lw_3 {u L i j k : Nat} {X Y : Option (Int32 × cz_M)} {rec : cz_M → cz_M → Int32 → Option Int32} {v : Int32} (hi : i < L) (hj : j < L) (hk : k < L) (hL : L < 2 ^ 31) (h : ∃ r C' m', X = some (r, C') ∧ Y = some (r, m') ∧ rR u C' m') (hrec : ∀ C' m', rR u C' m' → rec C' m' v = some 1) : (if nI i < 0 ∨ L ≤ (nI i).toNatClampNeg then none else (if nI j < 0 ∨ L ≤ (nI j).toNatClampNeg then none else (if nI k < 0 ∨ L ≤ (nI k).toNatClampNeg then none else cz_bi X (fun r M => (if nI i < 0 ∨ L ≤ (nI i).toNatClampNeg then none else (if nI j < 0 ∨ L ≤ (nI j).toNatClampNeg then none else (if nI k < 0 ∨ L ≤ (nI k).toNatClampNeg then none else cz_bi Y (fun r' m' => if r = r' then rec M m' v else some 0)))))))) = some 1 := by
  obtain ⟨r, C', m', rfl, rfl, h3⟩ := h
  rw [pc_in hi hL, pc_in hj hL, pc_in hk hL, pb_i, pc_in hi hL, pc_in hj hL, pc_in hk hL, pb_i, if_pos rfl]
  exact hrec _ _ h3
theorem lw_more {L k : Nat} (hL : L ≤ 2050) (hk : k ≤ 2050) (h : ¬ (Int32.ofNat L - 4) < nI k) : k + 4 ≤ L := by
  by_cases e : 4 ≤ L
  · have e1 : Int32.ofNat L - 4 = nI (L - 4) := pk_sub (b := 4) e
    rw [e1] at h
    by_cases e2 : k + 4 ≤ L
    · exact e2
    · exact absurd (Int32.not_lt.mp h) (nI_ge (by omega) (by omega))
  · refine absurd (Int32.lt_of_lt_of_le (b := 0) ?_ (nI_pos' (by omega))) h
    have : L = 0 ∨ L = 1 ∨ L = 2 ∨ L = 3 := by omega
    rcases this with rfl | rfl | rfl | rfl <;> decide
theorem law_lp (L : Nat) (xs : Nat → Int32) (hL : L ≤ 2050) : ∀ (f t : Nat) (C m : cz_M), t ≤ 512 → 513 ≤ f + t → rR t C m → cz_lp3 (l_LAW L xs) f C m (nI (2 + 4 * t)) = some 1 := by
  intro f
  induction f with
  | zero =>
    intro t C m ht hf h
    omega
  | succ f ih =>
    intro t C m ht hf h
    rw [cz_lp3_s, l_LAW]
    by_cases hc : (Int32.ofNat L - 4) < nI (2 + 4 * t)
    · rw [if_pos hc]
    · have hl : 2 + 4 * t + 4 ≤ L := lw_more hL (by omega) hc
      have hL' : L < 2 ^ 31 := by omega
      have hrec : ∀ C' m', rR (t + 1) C' m' → cz_lp3 (l_LAW L xs) f C' m' (nI (2 + 4 * t + 4)) = some 1 := by
        intro C' m' h'
        have e := ih (t + 1) C' m' (by omega) (by omega) h'
        rw [show 2 + 4 * (t + 1) = 2 + 4 * t + 4 by omega] at e
        exact e
      generalize cz_lp3 (l_LAW L xs) f = rec at hrec ⊢
      have hu : ∀ {X Y : Option (Int32 × cz_M)}, (∃ r C' m', X = some (r, C') ∧ Y = some (r, m') ∧ rR t C' m') → ∃ r C' m', X = some (r, C') ∧ Y = some (r, m') ∧ rR (t + 1) C' m' := fun ⟨r, C', m', h1, h2, h3⟩ => ⟨r, C', m', h1, h2, h3.mono (by omega)⟩
      have hk : ∀ {X Y : Option (Int32 × cz_M)}, (∃ r, X = some (r, C) ∧ Y = some (r, m)) → ∃ r C' m', X = some (r, C') ∧ Y = some (r, m') ∧ rR (t + 1) C' m' := fun ⟨r, h1, h2⟩ => ⟨r, C, m, h1, h2, h.mono (by omega)⟩
      have i1 : 2 + 4 * t + 1 < L := by omega
      have i2 : 2 + 4 * t + 2 < L := by omega
      have i3 : 2 + 4 * t + 3 < L := by omega
      rw [if_neg hc, pc_in (show 2 + 4 * t < L by omega) hL', show nI (2 + 4 * t) + (1 : Int32) = nI (2 + 4 * t + 1) from nI_add _ 1, show nI (2 + 4 * t) + (2 : Int32) = nI (2 + 4 * t + 2) from nI_add _ 2, show nI (2 + 4 * t) + (3 : Int32) = nI (2 + 4 * t + 3) from nI_add _ 3, show nI (2 + 4 * t) + (4 : Int32) = nI (2 + 4 * t + 4) from nI_add _ 4]
      generalize xs (nI (2 + 4 * t)).toNatClampNeg &&& (15 : Int32) = op
      by_cases e0 : op = 0
      · rw [if_pos e0]
        exact lw_1 i1 hL' (hu (st_open h _)) hrec
      rw [if_neg e0]
      by_cases e1 : op = 1
      · rw [if_pos e1]
        exact lw_1 i1 hL' (hu (st_close h _)) hrec
      rw [if_neg e1]
      by_cases e2 : op = 2
      · rw [if_pos e2]
        exact lw_3 i1 i2 i3 hL' (hu (st_put h _ _)) hrec
      rw [if_neg e2]
      by_cases e3 : op = 3
      · rw [if_pos e3]
        obtain ⟨C', m', x1, x2, x3⟩ := st_clear h
        rw [x1, pb_v, x2, pb_v]
        exact hrec C' m' (x3.mono (by omega))
      rw [if_neg e3]
      by_cases e4 : op = 4
      · rw [if_pos e4]
        exact lw_1 i1 hL' (hk (st_wire h _)) hrec
      rw [if_neg e4]
      by_cases e5 : op = 5
      · rw [if_pos e5]
        exact lw_1 i1 hL' (hu (st_receive h _)) hrec
      rw [if_neg e5]
      by_cases e6 : op = 6
      · rw [if_pos e6]
        exact lw_1 i1 hL' (hu (st_send h _)) hrec
      rw [if_neg e6]
      by_cases e7 : op = 7
      · rw [if_pos e7]
        exact lw_0 (st_work h (by omega)) hrec
      rw [if_neg e7]
      by_cases e8 : op = 8
      · rw [if_pos e8]
        exact lw_1 i1 hL' (hu (st_tick h _)) hrec
      rw [if_neg e8]
      by_cases e9 : op = 9
      · rw [if_pos e9]
        exact lw_3 i1 i2 i3 hL' (hu (st_seal h _ _ _)) hrec
      rw [if_neg e9]
      by_cases e10 : op = 10
      · rw [if_pos e10]
        exact lw_2 i1 i2 hL' (hk (st_peer h _ _)) hrec
      rw [if_neg e10]
      by_cases e11 : op = 11
      · rw [if_pos e11]
        exact lw_2 i1 i2 hL' (hk (st_block h _ _)) hrec
      rw [if_neg e11]
      by_cases e12 : op = 12
      · rw [if_pos e12]
        exact lw_2 i1 i2 hL' (hk (st_tx h _ _)) hrec
      rw [if_neg e12]
      by_cases e13 : op = 13
      · rw [if_pos e13]
        exact lw_1 i1 hL' (hk (st_state h _)) hrec
      rw [if_neg e13]
      exact hrec C m (h.mono (by omega))
