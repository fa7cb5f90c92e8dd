/-! PURE: send -/
theorem cp_lnB {b : Nat} (h : cp_B b) : cp_ln (b + 1) = 56 := by
  unfold cp_ln
  rcases h with h | h
  · rw [if_pos (by omega)]
  · rw [if_neg (by omega), if_neg (by omega), if_neg (by omega), if_neg (by omega), if_neg (by omega), if_pos (by omega)]
theorem cp_copy {C : cz_M} {a b : Nat} (ha : cp_B a) (hb : cp_B b) : ∃ C', f_Bytes_copyFrom C a b = some C' ∧ C'.2 = C.2 ∧ (∀ k, k ≠ a → k ≠ a + 1 → C'.1 k = C.1 k) ∧ C'.1 a 1 = C.1 b 1 ∧ ∀ i, i < 56 → C'.1 (a + 1) i = C.1 (b + 1) i := by
  rw [f_Bytes_copyFrom, cp_lnB ha, cp_lnB hb, if_neg (by decide)]
  refine ⟨_, rfl, rfl, fun k h1 h2 => ?_, ?_, fun i hi => ?_⟩
  · rw [pi_row _ _ _ _ h1, pa_row _ _ _ h2]
  · rw [pi_same, pa_get, if_neg]
    intro e
    rcases ha with ha | ha <;> rcases hb with hb | hb <;> omega
  · rw [pi_row _ _ _ _ (show a + 1 ≠ a by omega), pa_get, if_pos rfl]
    show va_cpy (C.1 (b + 1)) (C.1 (a + 1)) 0 0 56 i = _
    unfold va_cpy
    rw [if_pos (by omega), Nat.zero_add, Nat.sub_zero]
theorem cp_move {C : cz_M} {q : Nat} (hq : q < 9) (hB : ∀ j, j < 4 → cp_B (C.2 (q + 1) j)) : ∃ C', f_Peer_moveFirstTo C q 10 = some C' ∧ (∀ k, k ≠ 10 → k ≠ 11 → k ≠ q → C'.1 k = C.1 k) ∧ (∀ j, j ≠ 9 → C'.1 q j = C.1 q j) ∧ C'.1 q 9 = C.1 q 9 - 1 ∧ C'.1 10 1 = C.1 (C.2 (q + 1) 0) 1 ∧ (∀ i, i < 56 → C'.1 11 i = C.1 (C.2 (q + 1) 0 + 1) i) ∧ (∀ k, k ≠ q + 1 → C'.2 k = C.2 k) ∧ (∀ j, j < 3 → C'.2 (q + 1) j = C.2 (q + 1) (j + 1)) ∧ C'.2 (q + 1) 3 = C.2 (q + 1) 0 := by
  obtain ⟨C1, g1, g2, g3, g4, g5⟩ := cp_copy (C := C) (a := 10) (b := C.2 (q + 1) 0) (by decide) (hB 0 (by decide))
  have hs : ∀ (rec : cz_M → Nat → Int32 → Option cz_M) (M : cz_M) (b j : Nat), 1 ≤ j → j < 4 → cp_B (M.2 (q + 1) j) → l_Peer_moveFirstTo_14 q 10 rec M b (nI j) = rec (cz_r M (q + 1) (j - 1) (M.2 (q + 1) j)) b (nI (j + 1)) := by
    intro rec M b j h1 h4 hb
    rw [l_Peer_moveFirstTo_14, if_neg (show ¬ (4 : Int32) ≤ nI j from nI_ge (b := 4) h4 (by decide)), pc_in h4 (by decide), nI_clamp (show j < 2 ^ 31 by omega), if_pos hb, show nI j - (1 : Int32) = nI (j - 1) from pk_sub (b := 1) h1, pc_in (show j - 1 < 4 by omega) (by decide), nI_clamp (show j - 1 < 2 ^ 31 by omega), nI_1]
  have e0 : f_Peer_moveFirstTo C q 10 = cz_lp3 (l_Peer_moveFirstTo_14 q 10) 100 C1 (C.2 (q + 1) 0) (nI 1) := by
    rw [f_Peer_moveFirstTo, if_neg (by decide), if_pos (show cp_B (C.2 (q + 1) (Int32.toNatClampNeg 0)) from hB 0 (by decide))]
    show cz_bv (f_Bytes_copyFrom C 10 (C.2 (q + 1) 0)) _ = _
    rw [g1, pb_v]
    rfl
  have b1 : cp_B (C1.2 (q + 1) 1) := by rw [g2]; exact hB 1 (by decide)
  have b2 : cp_B ((cz_r C1 (q + 1) (1 - 1) (C1.2 (q + 1) 1)).2 (q + 1) 2) := by rw [pr_get, if_neg (by omega), g2]; exact hB 2 (by decide)
  have b3 : cp_B ((cz_r (cz_r C1 (q + 1) (1 - 1) (C1.2 (q + 1) 1)) (q + 1) (2 - 1) ((cz_r C1 (q + 1) (1 - 1) (C1.2 (q + 1) 1)).2 (q + 1) 2)).2 (q + 1) 3) := by rw [pr_get, if_neg (by omega), pr_get, if_neg (by omega), g2]; exact hB 3 (by decide)
  have e1 : ∃ C', f_Peer_moveFirstTo C q 10 = some C' ∧ C'.1 = (cz_i C1 q 9 (C1.1 q 9 - 1)).1 ∧ C'.2 = (cz_r (cz_r (cz_r (cz_r C1 (q + 1) 0 (C1.2 (q + 1) 1)) (q + 1) 1 (C1.2 (q + 1) 2)) (q + 1) 2 (C1.2 (q + 1) 3)) (q + 1) 3 (C.2 (q + 1) 0)).2 := by
    rw [e0, show (100 : Nat) = 96 + 1 + 1 + 1 + 1 from rfl, cz_lp3_s, hs _ _ _ 1 (by decide) (by decide) b1, cz_lp3_s, hs _ _ _ 2 (by decide) (by decide) b2, cz_lp3_s, hs _ _ _ 3 (by decide) (by decide) b3, cz_lp3_s, l_Peer_moveFirstTo_14, if_pos (by decide), b_Peer_moveFirstTo_39, if_neg (by decide)]
    refine ⟨_, rfl, rfl, ?_⟩
    show (cz_r _ _ _ _).2 = _
    have x1 : (cz_r C1 (q + 1) (1 - 1) (C1.2 (q + 1) 1)).2 (q + 1) 2 = C1.2 (q + 1) 2 := by rw [pr_get, if_neg (by omega)]
    have x2 : (cz_r (cz_r C1 (q + 1) (1 - 1) (C1.2 (q + 1) 1)) (q + 1) (2 - 1) ((cz_r C1 (q + 1) (1 - 1) (C1.2 (q + 1) 1)).2 (q + 1) 2)).2 (q + 1) 3 = C1.2 (q + 1) 3 := by rw [pr_get, if_neg (by omega), pr_get, if_neg (by omega)]
    rw [x2, x1]
    rfl
  obtain ⟨C', f1, f2, f3⟩ := e1
  refine ⟨C', f1, fun k h1 h2 h3 => ?_, fun j hj => ?_, ?_, ?_, fun i hi => ?_, fun k hk => ?_, fun j hj => ?_, ?_⟩
  · rw [f2, pi_row _ _ _ _ h3, g3 k h1 h2]
  · rw [f2, pi_get, if_neg (fun z => hj z.2), g3 q (by omega) (by omega)]
  · rw [f2, pi_same, g3 q (by omega) (by omega)]
  · rw [f2, pi_row _ _ _ _ (by omega), g4]
  · rw [f2, pi_row _ _ _ _ (by omega), g5 i hi]
  · rw [f3]
    funext j
    rw [pr_get, if_neg (fun z => hk z.1), pr_get, if_neg (fun z => hk z.1), pr_get, if_neg (fun z => hk z.1), pr_get, if_neg (fun z => hk z.1), g2]
  · rw [f3, g2]
    have : j = 0 ∨ j = 1 ∨ j = 2 := by omega
    rcases this with rfl | rfl | rfl <;> simp [pr_get, cz_r, g2]
  · rw [f3]
    simp [pr_get]
/-! the reference's side -/
theorem mo_send_cp (a1 : Int32) {p len : Nat} (hp : p < 4) (hlen : len ≤ 56) (ha : a1 = nI p) : ∀ (r k f : Nat) (m : cz_M), k + r = len → r < f → m.1 0 19 = nI len → ∃ m', cz_lp2 (l_MO_send_32 a1) f m (nI k) = b_MO_send_64 a1 m' ∧ (∀ j, j ≠ 15 → m'.1 j = m.1 j) ∧ ∀ i, i < len → (i < k → m'.1 15 i = m.1 15 i) ∧ (k ≤ i → m'.1 15 i = m.1 14 (224 * p + i)) := by
  subst ha
  intro r
  induction r with
  | zero =>
    intro k f m hk hf hl
    obtain ⟨f, rfl⟩ : ∃ g, f = g + 1 := ⟨f - 1, by omega⟩
    refine ⟨m, ?_, fun _ _ => rfl, fun i hi => ⟨fun _ => rfl, fun _ => by omega⟩⟩
    rw [cz_lp2_s, l_MO_send_32, hl, if_pos (nI_le (by omega) (by omega))]
  | succ r ih =>
    intro k f m hk hf hl
    obtain ⟨f, rfl⟩ : ∃ g, f = g + 1 := ⟨f - 1, by omega⟩
    obtain ⟨m', j1, j2, j3⟩ := ih (k + 1) f (cz_i m 15 k (m.1 14 (224 * p + k))) (by omega) (by omega) (by rw [pi_row _ _ _ _ (by decide)]; exact hl)
    refine ⟨m', ?_, fun j hj => (j2 j hj).trans (pi_row _ _ _ _ hj), fun i hi => ⟨fun h1 => ?_, fun h1 => ?_⟩⟩
    · rw [cz_lp2_s, l_MO_send_32, hl, if_neg (nI_ge (by omega) (by omega)), show (224 : Int32) * nI p = nI (224 * p) from pk_mul 224 p, nI_add, pc_in (show 224 * p + k < mo_ln 14 by show 224 * p + k < 896; omega) (by decide), pc_in (show k < mo_ln 15 by show k < 56; omega) (by decide), nI_clamp (show k < 2 ^ 31 by omega), nI_clamp (show 224 * p + k < 2 ^ 31 by omega), nI_1]
      exact j1
    · rw [(j3 i hi).1 (by omega), pi_get, if_neg (by omega)]
    · by_cases e : i = k
      · subst e
        rw [(j3 i hi).1 (by omega), pi_same]
      · rw [(j3 i hi).2 (by omega), pi_row _ _ _ _ (by decide)]
theorem mo_send_in (a1 : Int32) (rec : cz_M → Int32 → Option (Int32 × cz_M)) {j : Nat} (hj : j < 15) : ∀ (r k f : Nat) (m : cz_M), k + r = 56 → r < f → ∃ m', cz_lp3 (l_MO_send_108 a1 rec) f m (nI j) (nI k) = rec m' (nI (j + 1)) ∧ (∀ x, x ≠ 14 → m'.1 x = m.1 x) ∧ (∀ i, i < 56 * j + k ∨ 56 * j + 56 ≤ i → m'.1 14 i = m.1 14 i) ∧ ∀ i, k ≤ i → i < 56 → m'.1 14 (56 * j + i) = m.1 14 (56 * j + 56 + i) := by
  intro r
  induction r with
  | zero =>
    intro k f m hk hf
    obtain ⟨f, rfl⟩ : ∃ g, f = g + 1 := ⟨f - 1, by omega⟩
    refine ⟨m, ?_, fun _ _ => rfl, fun _ _ => rfl, fun i h1 h2 => by omega⟩
    have e : k = 56 := by omega
    subst e
    rw [cz_lp3_s, l_MO_send_108, if_pos (by decide), b_MO_send_145, nI_1]
  | succ r ih =>
    intro k f m hk hf
    obtain ⟨f, rfl⟩ : ∃ g, f = g + 1 := ⟨f - 1, by omega⟩
    obtain ⟨m', j1, j2, j3, j4⟩ := ih (k + 1) f (cz_i m 14 (56 * j + k) (m.1 14 (56 * j + 56 + k))) (by omega) (by omega)
    refine ⟨m', ?_, fun x hx => (j2 x hx).trans (pi_row _ _ _ _ hx), fun i hi => ?_, fun i h1 h2 => ?_⟩
    · rw [cz_lp3_s, l_MO_send_108, if_neg (show ¬ (56 : Int32) ≤ nI k from nI_ge (b := 56) (by omega) (by decide)), show (56 : Int32) * nI j = nI (56 * j) from pk_mul 56 j, show nI (56 * j) + (56 : Int32) = nI (56 * j + 56) from nI_add _ 56, nI_add, nI_add, pc_in (show 56 * j + 56 + k < mo_ln 14 by show 56 * j + 56 + k < 896; omega) (by decide), pc_in (show 56 * j + k < mo_ln 14 by show 56 * j + k < 896; omega) (by decide), nI_clamp (show 56 * j + k < 2 ^ 31 by omega), nI_clamp (show 56 * j + 56 + k < 2 ^ 31 by omega), nI_1]
      exact j1
    · rw [j3 i (by omega), pi_get, if_neg (by omega)]
    · by_cases e : i = k
      · subst e
        rw [j3 _ (by omega), pi_same]
      · rw [j4 i (by omega) h2, pi_get, if_neg (by omega)]
theorem mo_send_out {p o : Nat} (hp : p < 4) (ho : o ≤ 3) : ∀ (r j f : Nat) (m : cz_M), j + r = o → r < f → m.1 12 p = nI o → ∃ m', cz_lp2 (l_MO_send_78 (nI p)) f m (nI (4 * p + j)) = some (m.1 0 19, m') ∧ (∀ x, x ≠ 13 → x ≠ 14 → m'.1 x = m.1 x) ∧ (∀ i, i < 4 * p + j ∨ 4 * p + o ≤ i → m'.1 13 i = m.1 13 i) ∧ (∀ i, i < 56 * (4 * p + j) ∨ 56 * (4 * p + o) ≤ i → m'.1 14 i = m.1 14 i) ∧ (∀ i, j ≤ i → i < o → m'.1 13 (4 * p + i) = m.1 13 (4 * p + i + 1)) ∧ ∀ i k, j ≤ i → i < o → k < 56 → m'.1 14 (56 * (4 * p + i) + k) = m.1 14 (56 * (4 * p + i) + 56 + k) := by
  intro r
  induction r with
  | zero =>
    intro j f m hk hf hm
    obtain ⟨f, rfl⟩ : ∃ g, f = g + 1 := ⟨f - 1, by omega⟩
    refine ⟨m, ?_, fun _ _ _ => rfl, fun _ _ => rfl, fun _ _ => rfl, fun i h1 h2 => by omega, fun i k h1 h2 => by omega⟩
    rw [cz_lp2_s, l_MO_send_78, pc_p hp (by omega) (by omega), nI_clamp (show p < 2 ^ 31 by omega), hm, show (4 : Int32) * nI p = nI (4 * p) from pk_mul 4 p, nI_add, if_pos (nI_le (by omega) (by omega))]
  | succ r ih =>
    intro j f m hk hf hm
    obtain ⟨f, rfl⟩ : ∃ g, f = g + 1 := ⟨f - 1, by omega⟩
    obtain ⟨m1, k1, k2, k3, k4⟩ := mo_send_in (nI p) (cz_lp2 (l_MO_send_78 (nI p)) f) (j := 4 * p + j) (by omega) 56 0 100 (cz_i m 13 (4 * p + j) (m.1 13 (4 * p + j + 1))) (by omega) (by omega)
    obtain ⟨m', j1, j2, j3, j4, j5, j6⟩ := ih (j + 1) f m1 (by omega) (by omega) (by rw [k2 12 (by decide), pi_row _ _ _ _ (by decide)]; exact hm)
    have e13 : m1.1 13 = (cz_i m 13 (4 * p + j) (m.1 13 (4 * p + j + 1))).1 13 := k2 13 (by decide)
    have e14 : (cz_i m 13 (4 * p + j) (m.1 13 (4 * p + j + 1))).1 14 = m.1 14 := pi_row _ _ _ _ (by decide)
    rw [e14] at k3 k4
    refine ⟨m', ?_, fun x h1 h2 => ?_, fun i hi => ?_, fun i hi => ?_, fun i h1 h2 => ?_, fun i k h1 h2 h3 => ?_⟩
    · rw [cz_lp2_s, l_MO_send_78, pc_p hp (by omega) (by omega), nI_clamp (show p < 2 ^ 31 by omega), hm, show (4 : Int32) * nI p = nI (4 * p) from pk_mul 4 p, nI_add, if_neg (nI_ge (by omega) (by omega)), nI_1, pc_in (show 4 * p + j + 1 < mo_ln 13 by show 4 * p + j + 1 < 16; omega) (by decide), pc_in (show 4 * p + j < mo_ln 13 by show 4 * p + j < 16; omega) (by decide), nI_clamp (by omega), nI_clamp (by omega)]
      refine Eq.trans k1 ?_
      rw [Nat.add_assoc, j1, k2 0 (by decide), pi_row _ _ _ _ (by decide)]
    · rw [j2 x h1 h2, k2 x h2, pi_row _ _ _ _ h1]
    · rw [j3 i (by omega), e13, pi_get, if_neg (by omega)]
    · rw [j4 i (by omega), k3 i (by omega)]
    · by_cases e : i = j
      · subst e
        rw [j3 _ (by omega), e13, pi_same]
      · rw [j5 i (by omega) h2, e13, pi_get, if_neg (by omega)]
    · by_cases e : i = j
      · subst e
        rw [j4 _ (by omega), k4 k (by omega) h3]
      · rw [j6 i k (by omega) h2 h3, k3 _ (by omega)]
theorem st_send {t : Nat} {C m : cz_M} (h : rR t C m) (a : Int32) : ∃ r C' m', f_CP_send C a = some (r, C') ∧ f_MO_send m a = some (r, m') ∧ rR t C' m' := by
  have h0 := h
  obtain ⟨n, hB, hP, hW, hG⟩ := h0
  rcases pk_ix a (n := 4) (by decide) with h1 | h1 | ⟨p, hp, rfl⟩
  · exact ⟨-1, C, m, by rw [f_CP_send, pe_no (Or.inl h1), pb_i, if_pos rfl], by rw [f_MO_send, pe_no2 (Or.inl h1), pb_i, if_pos rfl], h⟩
  · exact ⟨-1, C, m, by rw [f_CP_send, pe_no (Or.inr h1), pb_i, if_pos rfl], by rw [f_MO_send, pe_no2 (Or.inr h1), pb_i, if_pos rfl], h⟩
  · obtain ⟨hs, q2, q3, q4, q5, ⟨o, o1, o2, o3, o4⟩, q7, q8⟩ := hP p hp
    rw [f_CP_send, pe_is hp, pb_i, if_neg (show ¬ (1 : Int32) = 0 by decide), pc_in hp (by decide), nI_clamp (show p < 2 ^ 31 by omega), o2, pc_k hp (by omega), f_MO_send, pe_is2 hp, pb_i, if_neg (show ¬ (1 : Int32) = 0 by decide), pc_p hp (by omega) (by omega), nI_clamp (show p < 2 ^ 31 by omega), o3]
    by_cases e : o = 0
    · subst e
      exact ⟨-1, C, m, rfl, rfl, h⟩
    · rw [if_neg (nI_ne0 (by omega) (by omega)), if_neg (nI_ne0 (by omega) (by omega)), show (4 : Int32) * nI p = nI (4 * p) from pk_mul 4 p, pc_in (show 4 * p < mo_ln 13 by show 4 * p < 16; omega) (by decide), nI_clamp (show 4 * p < 2 ^ 31 by omega)]
      obtain ⟨l, l1, l2, l3, l4, l5⟩ := o4 0 (by omega)
      rw [Nat.add_zero] at l4 l5
      obtain ⟨x, x1, x2⟩ := q7 0 (by omega)
      have hBq : ∀ j, j < 4 → cp_B (C.2 (2 + 2 * p + 1) j) := by
        intro j hj
        obtain ⟨y, y1, y2⟩ := q7 j hj
        rw [y2]
        exact Or.inr ⟨by omega, by omega, by omega⟩
      obtain ⟨C', f1, f2, f3, f4, f5, f6, f7, f8, f9⟩ := cp_move (C := C) (q := 2 + 2 * p) (by omega) hBq
      obtain ⟨m1, a1, a2, a3⟩ := mo_send_cp (nI p) hp l2 rfl l 0 100 (cz_i m 0 19 (m.1 13 (4 * p))) (by omega) (by omega) (by rw [pi_same]; exact l4)
      have hm12 : m1.1 12 p = nI o := by rw [a2 12 (by decide), pi_row _ _ _ _ (by decide)]; exact o3
      obtain ⟨m', b1, b2, b3, b4, b5, b6⟩ := mo_send_out hp (show o - 1 ≤ 3 by omega) (o - 1) 0 100 (cz_i m1 12 p (nI (o - 1))) (by omega) (by omega) (pi_same _ _ _ _)
      have hlen : (cz_i m1 12 p (nI (o - 1))).1 0 19 = nI l := by rw [pi_row _ _ _ _ (by decide), a2 0 (by decide), pi_same]; exact l4
      have g14 : (cz_i m1 12 p (nI (o - 1))).1 14 = m.1 14 := by rw [pi_row _ _ _ _ (by decide), a2 14 (by decide), pi_row _ _ _ _ (by decide)]
      have g13 : (cz_i m1 12 p (nI (o - 1))).1 13 = m.1 13 := by rw [pi_row _ _ _ _ (by decide), a2 13 (by decide), pi_row _ _ _ _ (by decide)]
      have gk : ∀ k, k ≠ 0 → k ≠ 12 → k ≠ 13 → k ≠ 14 → k ≠ 15 → m'.1 k = m.1 k := by
        intro k k0 k1 k2 k3 k4
        rw [b2 k k2 k3, pi_row _ _ _ _ k1, a2 k k4, pi_row _ _ _ _ k0]
      have g0 : ∀ j, j ≠ 19 → m'.1 0 j = m.1 0 j := by
        intro j hj
        rw [b2 0 (by decide) (by decide), pi_row _ _ _ _ (by decide), a2 0 (by decide), pi_get, if_neg (fun z => hj z.2)]
      rw [g13] at b3 b5
      rw [g14] at b4 b6
      refine ⟨nI l, C', m', ?_, ?_, n, hB.fr (by rw [f2 19 (by decide) (by decide) (by omega)]) (fun k hk => f2 k (by omega) (by omega) (by omega)) (g0 4 (by decide)) (fun k k1 k2 => gk k (by omega) (by omega) (by omega) (by omega) (by omega)), fun p' hp' => ?_, ⟨l, l2, ?_, ?_, fun i hi => ?_⟩, hG.fr (f2 0 (by decide) (by decide) (by omega)) (fun j hj => g0 j (by omega))⟩
      · rw [f1, pb_v, f5, l3]
      · have e1 : cz_lp2 (l_MO_send_32 (nI p)) 100 (cz_i m 0 19 (m.1 13 (4 * p))) 0 = b_MO_send_64 (nI p) m1 := a1
        rw [e1, b_MO_send_64, pc_p hp (by omega) (by omega), pc_p hp (by omega) (by omega), nI_clamp (show p < 2 ^ 31 by omega), hm12, show nI o - (1 : Int32) = nI (o - 1) from pk_sub (b := 1) (by omega), show (4 : Int32) * nI p = nI (4 * p + 0) from pk_mul 4 p, b1, hlen]
      · by_cases ep : p' = p
        · subst ep
          refine ⟨?_, ?_, ?_, ?_, ?_, ⟨o - 1, by omega, ?_, ?_, fun j hj => ?_⟩, fun j hj => ?_, fun i j hi hj he => ?_⟩
          · rw [f3 0 (by decide), f3 1 (by decide), gk 4 (by decide) (by decide) (by decide) (by decide) (by decide), gk 5 (by decide) (by decide) (by decide) (by decide) (by decide)]
            exact hs
          · rw [f3 2 (by decide), gk 6 (by decide) (by decide) (by decide) (by decide) (by decide)]
            exact q2
          · rw [f3 3 (by decide), gk 7 (by decide) (by decide) (by decide) (by decide) (by decide)]
            exact q3
          · rw [f3 5 (by decide), gk 10 (by decide) (by decide) (by decide) (by decide) (by decide)]
            exact q4
          · unfold rQ at q5 ⊢
            rw [f3 4 (by decide), f3 5 (by decide), f3 6 (by decide), f3 7 (by decide), gk 4 (by decide) (by decide) (by decide) (by decide) (by decide), gk 8 (by decide) (by decide) (by decide) (by decide) (by decide), gk 9 (by decide) (by decide) (by decide) (by decide) (by decide), gk 11 (by decide) (by decide) (by decide) (by decide) (by decide)]
            exact q5
          · rw [f4, o2]
            exact pk_sub (b := 1) (by omega)
          · rw [b2 12 (by decide) (by decide), pi_same]
          · obtain ⟨y, y1, y2⟩ := q7 (j + 1) (by omega)
            have o5 := o4 (j + 1) (by omega)
            rw [f8 j (by omega)]
            rw [y2] at o5 ⊢
            obtain ⟨u, u1, u2, u3, u4, u5⟩ := o5
            refine ⟨u, u1, u2, ?_, ?_, fun i hi => ?_⟩
            · rw [f2 _ (by omega) (by omega) (by omega)]
              exact u3
            · rw [b5 j (by omega) hj]
              exact u4
            · rw [f2 _ (by omega) (by omega) (by omega), b6 j i (by omega) hj (by omega), show 56 * (4 * p' + j) + 56 + i = 56 * (4 * p' + (j + 1)) + i by omega]
              exact u5 i hi
          · by_cases e3 : j = 3
            · subst e3
              rw [f9]
              exact q7 0 (by omega)
            · rw [f8 j (by omega)]
              exact q7 (j + 1) (by omega)
          · have hv : ∀ j, j < 4 → C'.2 (2 + 2 * p' + 1) j = C.2 (2 + 2 * p' + 1) (if j = 3 then 0 else j + 1) := by
              intro j hj
              by_cases e3 : j = 3
              · subst e3
                rw [f9, if_pos rfl]
              · rw [f8 j (by omega), if_neg e3]
            rw [hv i hi, hv j hj] at he
            have he2 := q8 _ _ (by split <;> omega) (by split <;> omega) he
            by_cases e3 : i = 3 <;> by_cases e4 : j = 3
            · omega
            · rw [if_pos e3, if_neg e4] at he2
              omega
            · rw [if_neg e3, if_pos e4] at he2
              omega
            · rw [if_neg e3, if_neg e4] at he2
              omega
        · refine (hP p' hp').fr (f2 _ (by omega) (by omega) (by omega)) (f7 _ (by omega)) (fun e he => f2 _ (by omega) (by omega) (by omega)) (fun k k1 k2 => ?_) (fun j hj => b3 _ (by omega)) (fun i hi => b4 _ (by omega))
          by_cases ek : k = 12
          · subst ek
            rw [b2 12 (by decide) (by decide), pi_get, if_neg (fun z => ep z.2), a2 12 (by decide), pi_row _ _ _ _ (by decide)]
          · rw [gk k (by omega) ek (by omega) (by omega) (by omega)]
      · rw [f5]
        exact l3
      · rw [b2 0 (by decide) (by decide)]
        exact hlen
      · have e15 : m'.1 15 = m1.1 15 := by rw [b2 15 (by decide) (by decide), pi_row _ _ _ _ (by decide)]
        rw [f6 i (by omega), e15, (a3 i hi).2 (by omega), pi_row _ _ _ _ (by decide), show 224 * p + i = 56 * (4 * p) + i by omega]
        exact l5 i hi
