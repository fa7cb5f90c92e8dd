/-! PURE: the relation between the class's memory C and the reference's m behind t calls -/
def rB (n : Nat) (C m : cz_M) : Prop := C.1 19 7 = nI n ∧ bk_I n (fun k => C.1 (69 + k)) (C.1 21) (C.1 22) (C.1 23) (C.1 25) (C.1 26) (fun k => C.1 (89 + k)) ∧ bk_E n (fun k => C.1 (69 + k)) (C.1 25) (fun k => C.1 (89 + k)) m
def rW (C m : cz_M) : Prop := ∃ w, w ≤ 56 ∧ C.1 10 1 = nI w ∧ m.1 0 19 = nI w ∧ ∀ i, i < w → C.1 11 i = m.1 15 i ∧ ∃ b, b < 256 ∧ C.1 11 i = nI b
def rG (t : Nat) (C m : cz_M) : Prop := C.1 0 0 = m.1 0 0 ∧ 0 ≤ C.1 0 0 ∧ C.1 0 1 = m.1 0 1 ∧ C.1 0 9 = m.1 0 2 ∧ ∃ x, x ≤ 4 * t ∧ C.1 0 10 = nI x ∧ m.1 0 3 = nI x
/-- a message in an outbox: b its cell, j its place in the reference -/
def rO (C m : cz_M) (b j : Nat) : Prop := ∃ l, 1 ≤ l ∧ l ≤ 56 ∧ C.1 b 1 = nI l ∧ m.1 13 j = nI l ∧ ∀ i, i < l → C.1 (b + 1) i = m.1 14 (56 * j + i) ∧ ∃ x, x < 256 ∧ C.1 (b + 1) i = nI x
/-- the request of peer p, its cell q -/
def rQ (n _t : Nat) (C m : cz_M) (p q : Nat) : Prop :=
  (m.1 8 p = 0 ∧ C.1 q 5 = 0) ∨ (m.1 4 p = 2 ∧ C.1 q 6 = m.1 9 p ∧ C.1 q 7 = m.1 11 p ∧ (∃ x, 1 ≤ x ∧ x ≤ 3000 ∧ C.1 q 5 = nI x) ∧ ((m.1 8 p = 1 ∧ C.1 q 4 = 1) ∨ (m.1 8 p = 2 ∧ C.1 q 4 = 3 ∧ ∃ k, 0 < k ∧ k < n ∧ C.1 q 6 = nI k)))
def rP (n t : Nat) (C m : cz_M) (p q : Nat) : Prop :=
  (∃ st s, st < 4 ∧ C.1 q 0 = nI st ∧ m.1 4 p = nI st ∧ s ≤ 10 ∧ C.1 q 1 = nI s - nI 7 ∧ m.1 5 p = nI s - nI 7 ∧ (st = 3 ∨ 4 ≤ s)) ∧
  C.1 q 2 = m.1 6 p ∧ C.1 q 3 = m.1 7 p ∧ C.1 q 5 = m.1 10 p ∧ rQ n t C m p q ∧
  (∃ o, o ≤ 4 ∧ C.1 q 9 = nI o ∧ m.1 12 p = nI o ∧ ∀ j, j < o → rO C m (C.2 (q + 1) j) (4 * p + j)) ∧
  (∀ j, j < 4 → ∃ e, e < 4 ∧ C.2 (q + 1) j = 29 + 8 * p + 2 * e) ∧ (∀ i j, i < 4 → j < 4 → C.2 (q + 1) i = C.2 (q + 1) j → i = j)
def rR (t : Nat) (C m : cz_M) : Prop := ∃ n, rB n C m ∧ (∀ p, p < 4 → rP n t C m p (2 + 2 * p)) ∧ rW C m ∧ rG t C m
theorem rG.mono {t u : Nat} {C m : cz_M} (h : rG t C m) (hu : t ≤ u) : rG u C m := by
  obtain ⟨h1, h2, h3, h4, y, y1, y2⟩ := h
  exact ⟨h1, h2, h3, h4, y, by omega, y2⟩
theorem rQ.mono {n t u p q : Nat} {C m : cz_M} (h : rQ n t C m p q) (hu : t ≤ u) : rQ n u C m p q := by
  rcases h with h | ⟨h1, h2, h3, ⟨x, x1, x2, x3⟩, h4⟩
  · exact Or.inl h
  · exact Or.inr ⟨h1, h2, h3, ⟨x, x1, by omega, x3⟩, h4⟩
theorem rP.mono {n t u p q : Nat} {C m : cz_M} (h : rP n t C m p q) (hu : t ≤ u) : rP n u C m p q := by
  obtain ⟨h1, h2, h3, h4, h5, h6⟩ := h
  exact ⟨h1, h2, h3, h4, h5.mono hu, h6⟩
theorem rR.mono {t u : Nat} {C m : cz_M} (h : rR t C m) (hu : t ≤ u) : rR u C m := by
  obtain ⟨n, h1, h2, h3, h4⟩ := h
  exact ⟨n, h1, fun p hp => (h2 p hp).mono hu, h3, h4.mono hu⟩
/-! frames: what isn't touched stays related -/
theorem rB.fr {n : Nat} {C C' m m' : cz_M} (h : rB n C m) (h1 : C'.1 19 7 = C.1 19 7) (h2 : ∀ k, (20 ≤ k ∧ k ≤ 26) ∨ 69 ≤ k → C'.1 k = C.1 k) (h3 : m'.1 0 4 = m.1 0 4) (h4 : ∀ k, 1 ≤ k → k ≤ 3 → m'.1 k = m.1 k) : rB n C' m' := by
  have e1 : (fun k => C'.1 (69 + k)) = fun k => C.1 (69 + k) := funext fun k => h2 _ (Or.inr (by omega))
  have e2 : (fun k => C'.1 (89 + k)) = fun k => C.1 (89 + k) := funext fun k => h2 _ (Or.inr (by omega))
  obtain ⟨g1, g2, g3, g4, g5, g6⟩ := h
  unfold rB bk_E
  rw [e1, e2, h1, h2 21 (by omega), h2 22 (by omega), h2 23 (by omega), h2 25 (by omega), h2 26 (by omega), h3, h4 1 (by omega) (by omega), h4 2 (by omega) (by omega), h4 3 (by omega) (by omega)]
  exact ⟨g1, g2, g3, g4, g5, g6⟩
theorem rW.fr {C C' m m' : cz_M} (h : rW C m) (h1 : C'.1 10 = C.1 10) (h2 : C'.1 11 = C.1 11) (h3 : m'.1 0 19 = m.1 0 19) (h4 : m'.1 15 = m.1 15) : rW C' m' := by
  obtain ⟨w, w1, w2, w3, w4⟩ := h
  exact ⟨w, w1, by rw [h1]; exact w2, by rw [h3]; exact w3, fun i hi => by rw [h2, h4]; exact w4 i hi⟩
theorem rG.fr {t : Nat} {C C' m m' : cz_M} (h : rG t C m) (h1 : C'.1 0 = C.1 0) (h2 : ∀ j, j < 4 → m'.1 0 j = m.1 0 j) : rG t C' m' := by
  unfold rG
  rw [h1, h2 0 (by decide), h2 1 (by decide), h2 2 (by decide), h2 3 (by decide)]
  exact h
theorem rO.fr {C C' m m' : cz_M} {b j : Nat} (h : rO C m b j) (h1 : C'.1 b 1 = C.1 b 1) (h2 : C'.1 (b + 1) = C.1 (b + 1)) (h3 : m'.1 13 j = m.1 13 j) (h4 : ∀ i, i < 56 → m'.1 14 (56 * j + i) = m.1 14 (56 * j + i)) : rO C' m' b j := by
  obtain ⟨l, l1, l2, l3, l4, l5⟩ := h
  exact ⟨l, l1, l2, by rw [h1]; exact l3, by rw [h3]; exact l4, fun i hi => by rw [h2, h4 i (by omega)]; exact l5 i hi⟩
/-- peer p is not touched at all -/
theorem rP.fr {n t p q : Nat} {C C' m m' : cz_M} (h : rP n t C m p q) (h1 : C'.1 q = C.1 q) (h2 : C'.2 (q + 1) = C.2 (q + 1)) (h3 : ∀ e, e < 8 → C'.1 (29 + 8 * p + e) = C.1 (29 + 8 * p + e)) (h4 : ∀ k, 4 ≤ k → k ≤ 12 → m'.1 k p = m.1 k p) (h5 : ∀ j, j < 4 → m'.1 13 (4 * p + j) = m.1 13 (4 * p + j)) (h6 : ∀ i, i < 224 → m'.1 14 (224 * p + i) = m.1 14 (224 * p + i)) : rP n t C' m' p q := by
  unfold rP rQ at h ⊢
  rw [h1, h2, h4 4 (by omega) (by omega), h4 5 (by omega) (by omega), h4 6 (by omega) (by omega), h4 7 (by omega) (by omega), h4 8 (by omega) (by omega), h4 9 (by omega) (by omega), h4 10 (by omega) (by omega), h4 11 (by omega) (by omega), h4 12 (by omega) (by omega)]
  obtain ⟨g1, g2, g3, g4, g5, ⟨o, o1, o2, o3, o4⟩, g7, g8⟩ := h
  refine ⟨g1, g2, g3, g4, g5, ⟨o, o1, o2, o3, fun j hj => ?_⟩, g7, g8⟩
  obtain ⟨e, e1, e2⟩ := g7 j (by omega)
  refine (o4 j hj).fr ?_ ?_ (h5 j (by omega)) (fun i hi => ?_)
  · rw [e2]
    exact congrFun (h3 (2 * e) (by omega)) 1
  · rw [e2, show 29 + 8 * p + 2 * e + 1 = 29 + 8 * p + (2 * e + 1) by omega, h3 (2 * e + 1) (by omega)]
  · rw [show 56 * (4 * p + j) + i = 224 * p + (56 * j + i) by omega]
    exact h6 _ (by omega)
/-! the easy calls -/
theorem pe_is {M : cz_M} {p : Nat} (hp : p < 4) : f_CP_isPeer M (nI p) = some (1, M) := by
  rw [f_CP_isPeer, if_neg (pn_lt0 (by omega)), if_neg (show ¬ (4 : Int32) ≤ nI p from nI_ge (b := 4) hp (by decide))]
theorem pe_is2 {M : cz_M} {p : Nat} (hp : p < 4) : f_MO_isPeer M (nI p) = some (1, M) := by
  rw [f_MO_isPeer, if_neg (pn_lt0 (by omega)), if_neg (show ¬ (4 : Int32) ≤ nI p from nI_ge (b := 4) hp (by decide))]
theorem pe_no {M : cz_M} {a : Int32} (h : a < 0 ∨ nI 4 ≤ a) : f_CP_isPeer M a = some (0, M) := by
  rw [f_CP_isPeer]
  by_cases e : a < 0
  · rw [if_pos e]
  · rw [if_neg e, if_pos (show (4 : Int32) ≤ a from h.resolve_left e)]
theorem pe_no2 {M : cz_M} {a : Int32} (h : a < 0 ∨ nI 4 ≤ a) : f_MO_isPeer M a = some (0, M) := by
  rw [f_MO_isPeer]
  by_cases e : a < 0
  · rw [if_pos e]
  · rw [if_neg e, if_pos (show (4 : Int32) ≤ a from h.resolve_left e)]
theorem st_peer {t : Nat} {C m : cz_M} (h : rR t C m) (a b : Int32) : ∃ r, f_CP_peer C a b = some (r, C) ∧ f_MO_peer m a b = some (r, m) := by
  obtain ⟨n, -, hP, -⟩ := h
  rcases pk_ix a (n := 4) (by decide) with h1 | h1 | ⟨p, hp, rfl⟩
  · exact ⟨0, by rw [f_CP_peer, pe_no (Or.inl h1), pb_i, if_pos rfl], by rw [f_MO_peer, pe_no2 (Or.inl h1), pb_i, if_pos rfl]⟩
  · exact ⟨0, by rw [f_CP_peer, pe_no (Or.inr h1), pb_i, if_pos rfl], by rw [f_MO_peer, pe_no2 (Or.inr h1), pb_i, if_pos rfl]⟩
  · obtain ⟨⟨st, s, -, s1, s2, -, s3, s4, -⟩, b1, x1, i1, -, ⟨o, -, o1, o2, -⟩, -⟩ := hP p hp
    have hm : ∀ k, 4 ≤ k → k ≤ 12 → p < mo_ln k := by
      intro k k1 k2
      have e : mo_ln k = 4 := by
        unfold mo_ln
        rw [if_neg (by omega), if_neg (by omega), if_neg (by omega), if_pos (by omega)]
      omega
    rw [f_CP_peer, pe_is hp, pb_i, if_neg (show ¬ (1 : Int32) = 0 by decide), pc_in hp (by decide), nI_clamp (by omega), f_Peer_look, f_MO_peer, pe_is2 hp, pb_i, if_neg (show ¬ (1 : Int32) = 0 by decide), pc_in (hm 4 (by omega) (by omega)) (by decide), pc_in (hm 5 (by omega) (by omega)) (by decide), pc_in (hm 6 (by omega) (by omega)) (by decide), pc_in (hm 7 (by omega) (by omega)) (by decide), pc_in (hm 10 (by omega) (by omega)) (by decide), pc_in (hm 12 (by omega) (by omega)) (by decide), nI_clamp (by omega), s1, s2, s3, s4, b1, x1, i1, o1, o2]
    by_cases e0 : b = 0
    · rw [if_pos e0, if_pos e0]
      exact ⟨_, rfl, rfl⟩
    rw [if_neg e0, if_neg e0]
    by_cases e1 : b = 1
    · rw [if_pos e1, if_pos e1]
      exact ⟨_, rfl, rfl⟩
    rw [if_neg e1, if_neg e1]
    by_cases e2 : b = 2
    · rw [if_pos e2, if_pos e2]
      exact ⟨_, rfl, rfl⟩
    rw [if_neg e2, if_neg e2]
    by_cases e3 : b = 3
    · rw [if_pos e3, if_pos e3]
      exact ⟨_, rfl, rfl⟩
    rw [if_neg e3, if_neg e3]
    by_cases e4 : b = 4
    · rw [if_pos e4, if_pos e4]
      exact ⟨_, rfl, rfl⟩
    rw [if_neg e4, if_neg e4]
    by_cases e5 : b = 5
    · rw [if_pos e5, if_pos e5]
      exact ⟨_, rfl, rfl⟩
    rw [if_neg e5, if_neg e5]
    exact ⟨_, rfl, rfl⟩
theorem st_wire {t : Nat} {C m : cz_M} (h : rR t C m) (a : Int32) : ∃ r, f_CP_wire C a = some (r, C) ∧ f_MO_wire m a = some (r, m) := by
  obtain ⟨n, -, -, ⟨w, w1, w2, w3, w4⟩, -⟩ := h
  rw [f_CP_wire, f_MO_wire, f_Bytes_at, w2, w3]
  by_cases e : a = -1
  · rw [if_pos e, if_pos e]
    exact ⟨_, rfl, rfl⟩
  rw [if_neg e, if_neg e]
  rcases pk_ix a (n := w) (by omega) with h1 | h1 | ⟨i, hi, rfl⟩
  · rw [if_pos h1, if_pos h1]
    exact ⟨_, rfl, rfl⟩
  · by_cases e2 : a < 0
    · rw [if_pos e2, if_pos e2]
      exact ⟨_, rfl, rfl⟩
    · have e3 : ¬ a < nI w := Int32.not_lt.mpr h1
      rw [if_neg e2, if_neg e2, if_pos h1, if_neg e3]
      exact ⟨_, rfl, rfl⟩
  · rw [if_neg (pn_lt0 (by omega)), if_neg (pn_lt0 (by omega)), if_neg (nI_ge hi (by omega)), if_pos (nI_lt hi (by omega)), pc_in (show i < cp_ln (10 + 1) by show i < 56; omega) (by decide), pc_in (show i < mo_ln 15 by show i < 56; omega) (by decide), nI_clamp (by omega), ← (w4 i hi).1]
    exact ⟨_, rfl, rfl⟩
theorem st_clear {t : Nat} {C m : cz_M} (h : rR t C m) : ∃ C' m', f_CP_clear C = some C' ∧ f_MO_clear m = some m' ∧ rR t C' m' := by
  obtain ⟨n, hB, hP, hW, hG⟩ := h
  refine ⟨_, _, rfl, rfl, n, hB.fr ?_ ?_ ?_ ?_, fun p hp => (hP p hp).fr ?_ ?_ ?_ ?_ ?_ ?_, ?_, hG.fr ?_ ?_⟩
  · rw [pi_row _ _ _ _ (by decide)]
  · intro k hk
    rw [pi_row _ _ _ _ (by omega)]
  · rw [pi_get, if_neg (by decide)]
  · intro k h1 h2
    rw [pi_row _ _ _ _ (by omega)]
  · rw [pi_row _ _ _ _ (by omega)]
  · rfl
  · intro e he
    rw [pi_row _ _ _ _ (by omega)]
  · intro k h1 h2
    rw [pi_row _ _ _ _ (by omega)]
  · intro j hj
    rw [pi_row _ _ _ _ (by omega)]
  · intro i hi
    rw [pi_row _ _ _ _ (by omega)]
  · exact ⟨0, by omega, pi_same _ _ _ _, pi_same _ _ _ _, fun i hi => by omega⟩
  · rw [pi_row _ _ _ _ (by decide)]
  · intro j hj
    rw [pi_get, if_neg (by omega)]
