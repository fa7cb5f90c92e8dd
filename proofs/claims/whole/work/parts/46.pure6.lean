/-! PURE: tick -/
/-- fields of peer p are set; its outbox stays -/
theorem rP.set {n t p : Nat} {C C' m m' : cz_M} (h : rP n t C m p (2 + 2 * p)) (hp : p < 4) (c1 : ∀ k, k ≠ 2 + 2 * p → C'.1 k = C.1 k) (c2 : C'.2 = C.2) (m1 : m'.1 13 = m.1 13) (m2 : m'.1 14 = m.1 14) (ho : C'.1 (2 + 2 * p) 9 = C.1 (2 + 2 * p) 9) (ho2 : m'.1 12 p = m.1 12 p)
    (hs : ∃ st s, st < 4 ∧ C'.1 (2 + 2 * p) 0 = nI st ∧ m'.1 4 p = nI st ∧ s ≤ 10 ∧ C'.1 (2 + 2 * p) 1 = nI s - nI 7 ∧ m'.1 5 p = nI s - nI 7 ∧ (st = 3 ∨ 4 ≤ s)) (hb : C'.1 (2 + 2 * p) 2 = m'.1 6 p) (hb3 : C'.1 (2 + 2 * p) 3 = m'.1 7 p) (hi : C'.1 (2 + 2 * p) 5 = m'.1 10 p) (hq : rQ n t C' m' p (2 + 2 * p)) : rP n t C' m' p (2 + 2 * p) := by
  obtain ⟨-, -, -, -, -, ⟨o, o1, o2, o3, o4⟩, q7, q8⟩ := h
  refine ⟨hs, hb, hb3, hi, hq, ⟨o, o1, ho.trans o2, ho2.trans o3, fun j hj => ?_⟩, by rw [c2]; exact q7, by rw [c2]; exact q8⟩
  obtain ⟨x, x1, x2⟩ := q7 j (by omega)
  have o5 := o4 j hj
  rw [c2, x2]
  rw [x2] at o5
  exact o5.fr (by rw [c1 _ (by omega)]) (c1 _ (by omega)) (by rw [m1]) (fun i _ => by rw [m2])
theorem rR.drop {t p : Nat} {C m : cz_M} (h : rR t C m) (hp : p < 4) : rR t (cz_i C (2 + 2 * p) 5 0) (cz_i (cz_i m 8 p 0) 10 p 0) := by
  obtain ⟨n, hB, hP, hW, hG⟩ := h
  obtain ⟨⟨st, s, s1, s2, s3, s4, s5, s6, s7⟩, q2, q3, -⟩ := hP p hp
  refine rR.peer hp hB hP hW hG (fun k hk => pi_row _ _ _ _ hk) rfl ?_ (fun k a b => ?_) (fun k j a b hj => ?_) ((hP p hp).set hp (fun k hk => pi_row _ _ _ _ hk) rfl ?_ ?_ ?_ ?_ ⟨st, s, s1, ?_, ?_, s4, ?_, ?_, s7⟩ ?_ ?_ ?_ (Or.inl ⟨?_, ?_⟩))
  · rw [pi_row _ _ _ _ (by decide), pi_row _ _ _ _ (by decide)]
  · rw [pi_row _ _ _ _ (by omega), pi_row _ _ _ _ (by omega)]
  · simp [pi_get, hj]
  · rw [pi_row _ _ _ _ (by decide), pi_row _ _ _ _ (by decide)]
  · rw [pi_row _ _ _ _ (by decide), pi_row _ _ _ _ (by decide)]
  · simp [pi_get]
  · simp [pi_get]
  · simp [pi_get, s2]
  · simp [pi_get, s3]
  · simp [pi_get, s5]
  · simp [pi_get, s6]
  · simp [pi_get, q2]
  · simp [pi_get, q3]
  · simp [pi_get]
  · simp [pi_get]
  · simp [pi_get]
theorem rR.time {t : Nat} {C m : cz_M} (h : rR t C m) {x y : Int32} (hxy : x = y) : rR t (cz_i C 0 9 x) (cz_i m 0 2 y) := by
  obtain ⟨n, hB, hP, hW, hG⟩ := h
  refine ⟨n, hB.fr ?_ ?_ ?_ ?_, fun p hp => (hP p hp).fr ?_ ?_ ?_ ?_ ?_ ?_, hW.fr ?_ ?_ ?_ ?_, ?_⟩
  · rw [pi_row _ _ _ _ (by decide)]
  · intro k hk
    rw [pi_row _ _ _ _ (by omega)]
  · rw [pi_get, if_neg (by decide)]
  · intro k h1 h2
    rw [pi_row _ _ _ _ (by omega)]
  · rw [pi_row _ _ _ _ (by omega)]
  · rfl
  · intro e he
    rw [pi_row _ _ _ _ (by omega)]
  · intro k h1 h2
    rw [pi_row _ _ _ _ (by omega)]
  · intro j hj
    rw [pi_row _ _ _ _ (by omega)]
  · intro i hi
    rw [pi_row _ _ _ _ (by omega)]
  · rw [pi_row _ _ _ _ (by decide)]
  · rw [pi_row _ _ _ _ (by decide)]
  · rw [pi_get, if_neg (by decide)]
  · rw [pi_row _ _ _ _ (by decide)]
  · obtain ⟨g1, g2, g3, g4, z, z1, z2, z3⟩ := hG
    exact ⟨by simp [pi_get, g1], by simp [pi_get, g2], by simp [pi_get, g3], by simp [pi_get, hxy], z, z1, by simp [pi_get, z2], by simp [pi_get, z3]⟩
theorem tick_in {t : Nat} (a1 : Int32) (rec16 : cz_M → Int32 → Int32 → Option (Int32 × cz_M)) : ∀ (r p f1 f2 : Nat) (C m : cz_M) (v1 v2 v3 : Int32), p + r = 4 → r < f1 → r < f2 → rR t C m → ∃ k C' m', cz_lp3 l_CP_loseLateRequests_4 f1 C v1 (nI p) = some (v1 + nI k, C') ∧ cz_lp4 (l_MO_tick_34 a1 rec16) f2 m v2 v3 (nI p) = rec16 m' (v2 + nI k) (v3 + 1) ∧ rR t C' m' := by
  intro r
  induction r with
  | zero =>
    intro p f1 f2 C m v1 v2 v3 hp h1 h2 h
    obtain ⟨f1, rfl⟩ : ∃ g, f1 = g + 1 := ⟨f1 - 1, by omega⟩
    obtain ⟨f2, rfl⟩ : ∃ g, f2 = g + 1 := ⟨f2 - 1, by omega⟩
    have e : p = 4 := by omega
    subst e
    refine ⟨0, C, m, ?_, ?_, h⟩
    · rw [cz_lp3_s, l_CP_loseLateRequests_4, if_pos (by decide), nI_0, Int32.add_zero]
    · rw [cz_lp4_s, l_MO_tick_34, if_pos (by decide), b_MO_tick_98, nI_0, Int32.add_zero]
  | succ r ih =>
    intro p f1 f2 C m v1 v2 v3 hp h1 h2 h
    obtain ⟨f1, rfl⟩ : ∃ g, f1 = g + 1 := ⟨f1 - 1, by omega⟩
    obtain ⟨f2, rfl⟩ : ∃ g, f2 = g + 1 := ⟨f2 - 1, by omega⟩
    have hp4 : p < 4 := by omega
    have h0 := h
    obtain ⟨n, hB, hP, hW, hG⟩ := h0
    obtain ⟨-, -, -, -, q5, -⟩ := hP p hp4
    have hT := hG.2.2.2.1
    rw [cz_lp3_s, l_CP_loseLateRequests_4, if_neg (show ¬ (4 : Int32) ≤ nI p from nI_ge (b := 4) hp4 (by decide)), pc_in hp4 (by decide), cz_lp4_s, l_MO_tick_34, if_neg (show ¬ (4 : Int32) ≤ nI p from nI_ge (b := 4) hp4 (by decide)), pc_p hp4 (by omega) (by omega), nI_clamp (show p < 2 ^ 31 by omega), f_Peer_isLate]
    have hskip : ∃ k C' m', b_CP_loseLateRequests_47 (cz_lp3 l_CP_loseLateRequests_4 f1) C v1 (nI p) = some (v1 + nI k, C') ∧ b_MO_tick_92 a1 rec16 (cz_lp4 (l_MO_tick_34 a1 rec16) f2) m v2 v3 (nI p) = rec16 m' (v2 + nI k) (v3 + 1) ∧ rR t C' m' := by
      rw [b_CP_loseLateRequests_47, b_MO_tick_92, nI_1]
      exact ih (p + 1) f1 f2 C m v1 v2 v3 (by omega) (by omega) (by omega) h
    rcases q5 with ⟨e1, e2⟩ | ⟨e1, e2, e3, ⟨x, x1, x2, x3⟩, e4⟩
    · rw [if_pos e2, if_pos (show m.1 8 p ≤ 0 by rw [e1]; decide), pb_i, if_pos rfl]
      exact hskip
    · have e5 : ¬ C.1 (2 + 2 * p) 5 = 0 := by
        rw [x3]
        exact nI_ne0 (by omega) (by omega)
      have e6 : ¬ m.1 8 p ≤ 0 := by
        rcases e4 with ⟨e4, -⟩ | ⟨e4, -⟩ <;> (rw [e4]; decide)
      rw [if_neg e5, if_neg e6, pc_k (show p < mo_ln 11 by rw [mo_ln4 (by omega) (by omega)]; exact hp4) (by omega), ← e3, ← hT]
      by_cases e7 : C.1 0 9 ≤ C.1 (2 + 2 * p) 7
      · rw [if_pos e7, if_pos e7, pb_i, if_pos rfl]
        exact hskip
      · rw [if_neg e7, if_neg e7, pb_i, if_neg (show ¬ (1 : Int32) = 0 by decide), pc_k hp4 (by omega), pc_k (show p < mo_ln 8 by rw [mo_ln4 (by omega) (by omega)]; exact hp4) (by omega), pc_k (show p < mo_ln 10 by rw [mo_ln4 (by omega) (by omega)]; exact hp4) (by omega), f_Peer_dropRequest, pb_v, pc_k hp4 (by omega)]
        obtain ⟨C', m', g1, g2, g3⟩ := (h.drop hp4).fault (c := 1) hp4 (by omega) (by rw [pi_get, if_neg (by omega), pi_get, if_neg (by omega), e1]; decide)
        have g1 : f_Peer_fault (cz_i C (2 + 2 * p) 5 0) (2 + 2 * p) 1 = some C' := g1
        have g2 : f_MO_fault (cz_i (cz_i m 8 p 0) 10 p 0) (nI p) 1 = some (0, m') := g2
        rw [g1, g2, pb_v, pb_i, b_CP_loseLateRequests_47, b_MO_tick_92, nI_1]
        obtain ⟨k, C2, m3, k1, k2, k3⟩ := ih (p + 1) f1 f2 C' m' (v1 + 1) (v2 + 1) v3 (by omega) (by omega) (by omega) g3
        refine ⟨k + 1, C2, m3, ?_, ?_, k3⟩
        · rw [k1, nI_succ, Int32.add_assoc, Int32.add_comm 1]
        · rw [k2, nI_succ, Int32.add_assoc, Int32.add_comm 1]
theorem tick_out {t N : Nat} (hN : N ≤ 50) : ∀ (r k f : Nat) (C m : cz_M) (v : Int32), k + r = N → r < f → rR t C m → ∃ x C' m', cz_lp3 (l_CP_tick_16 (nI N)) f C v (nI k) = some (x, C') ∧ cz_lp3 (l_MO_tick_16 (nI N)) f m v (nI k) = some (x, m') ∧ rR t C' m' := by
  intro r
  induction r with
  | zero =>
    intro k f C m v hk hf h
    obtain ⟨f, rfl⟩ : ∃ g, f = g + 1 := ⟨f - 1, by omega⟩
    refine ⟨v, C, m, ?_, ?_, h⟩
    · rw [cz_lp3_s, l_CP_tick_16, if_pos (nI_le (by omega) (by omega))]
    · rw [cz_lp3_s, l_MO_tick_16, if_pos (nI_le (by omega) (by omega))]
  | succ r ih =>
    intro k f C m v hk hf h
    obtain ⟨f, rfl⟩ : ∃ g, f = g + 1 := ⟨f - 1, by omega⟩
    have hT : C.1 0 9 + 1 = m.1 0 2 + 1 := by
      obtain ⟨n, -, -, -, hG⟩ := h
      rw [hG.2.2.2.1]
    obtain ⟨j, C', m', j1, j2, j3⟩ := tick_in (nI N) (cz_lp3 (l_MO_tick_16 (nI N)) f) 4 0 100 100 _ _ 0 v (nI k) rfl (by omega) (by omega) (h.time hT)
    have j1 : f_CP_loseLateRequests (cz_i C 0 9 (C.1 0 9 + 1)) = some (0 + nI j, C') := j1
    have j2 : cz_lp4 (l_MO_tick_34 (nI N) (cz_lp3 (l_MO_tick_16 (nI N)) f)) 100 (cz_i m 0 2 (m.1 0 2 + 1)) v (nI k) 0 = _ := j2
    rw [cz_lp3_s, l_CP_tick_16, if_neg (nI_ge (by omega) (by omega)), j1, pb_i, cz_lp3_s, l_MO_tick_16, if_neg (nI_ge (by omega) (by omega)), j2, Int32.zero_add, nI_1]
    exact ih (k + 1) f C' m' (v + nI j) (by omega) (by omega) j3
theorem st_tick {t : Nat} {C m : cz_M} (h : rR t C m) (a : Int32) : ∃ r C' m', f_CP_tick C a = some (r, C') ∧ f_MO_tick m a = some (r, m') ∧ rR t C' m' := by
  rw [f_CP_tick, f_MO_tick]
  by_cases e : a < 0
  · rw [if_pos e, if_pos e]
    exact ⟨_, _, _, rfl, rfl, h⟩
  rw [if_neg e, if_neg e]
  by_cases e2 : a ≤ 50
  · rw [if_pos e2, if_pos e2]
    obtain ⟨N, hN, rfl⟩ := nI_of2 (n := 50) (M := 50) (by decide) e e2
    exact tick_out hN N 0 100 C m 0 (by omega) (by omega) h
  · rw [if_neg e2, if_neg e2]
    exact ⟨_, _, _, rfl, rfl, h⟩
