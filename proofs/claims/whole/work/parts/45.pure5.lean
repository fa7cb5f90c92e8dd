/-! PURE: one peer is changed, the rest stays; leave, fault, close, tick -/
/-- cells that no call reads before it has written them -/
abbrev cp_scr (k : Nat) : Prop := (12 ≤ k ∧ k ≤ 18) ∨ k = 27 ∨ k = 28 ∨ (61 ≤ k ∧ k ≤ 68)
/-- all but scratch stays, on both sides -/
def eC (C C' : cz_M) : Prop := (∀ k, ¬ cp_scr k → C'.1 k = C.1 k) ∧ C'.2 = C.2
def eM (m m' : cz_M) : Prop := (∀ j, j < 5 ∨ j = 19 → m'.1 0 j = m.1 0 j) ∧ ∀ k, 1 ≤ k → k ≤ 15 → m'.1 k = m.1 k
theorem eC.rf (C : cz_M) : eC C C := ⟨fun _ _ => rfl, rfl⟩
theorem eM.rf (m : cz_M) : eM m m := ⟨fun _ _ => rfl, fun _ _ _ => rfl⟩
theorem eC.tr {A B C : cz_M} (h1 : eC A B) (h2 : eC B C) : eC A C := ⟨fun k hk => (h2.1 k hk).trans (h1.1 k hk), h2.2.trans h1.2⟩
theorem eM.tr {A B C : cz_M} (h1 : eM A B) (h2 : eM B C) : eM A C := ⟨fun j hj => (h2.1 j hj).trans (h1.1 j hj), fun k a b => (h2.2 k a b).trans (h1.2 k a b)⟩
theorem eC.i {C : cz_M} {k j : Nat} {v : Int32} (hk : cp_scr k) : eC C (cz_i C k j v) := ⟨fun k' h => pi_row _ _ _ _ (fun e => h (e ▸ hk)), rfl⟩
theorem eM.i0 {m : cz_M} {j : Nat} {v : Int32} (hj : ¬ (j < 5 ∨ j = 19)) : eM m (cz_i m 0 j v) := ⟨fun j' h => by rw [pi_get, if_neg (show ¬ ((0 : Nat) = 0 ∧ j' = j) from fun e => hj (e.2 ▸ h))], fun k a b => pi_row _ _ _ _ (by omega)⟩
theorem eM.i {m : cz_M} {k j : Nat} {v : Int32} (hk : 16 ≤ k) : eM m (cz_i m k j v) := ⟨fun j' h => by rw [pi_row _ _ _ _ (show (0 : Nat) ≠ k by omega)], fun k a b => pi_row _ _ _ _ (by omega)⟩
theorem rR.e {t : Nat} {C C' m m' : cz_M} (h : rR t C m) (h1 : eC C C') (h2 : eM m m') : rR t C' m' := by
  obtain ⟨n, hB, hP, hW, hG⟩ := h
  obtain ⟨c1, c2⟩ := h1
  obtain ⟨m1, m2⟩ := h2
  have c3 : ∀ k, ¬ cp_scr k → C'.1 k = C.1 k := c1
  refine ⟨n, hB.fr (by rw [c1 19 (by omega)]) (fun k hk => c1 k (by omega)) (m1 4 (by omega)) (fun k a b => m2 k a (by omega)), fun p hp => (hP p hp).fr (c1 _ (by omega)) (by rw [c2]) (fun e he => c1 _ (by omega)) (fun k a b => by rw [m2 k (by omega) (by omega)]) (fun j hj => by rw [m2 13 (by omega) (by omega)]) (fun i hi => by rw [m2 14 (by omega) (by omega)]), hW.fr (c1 10 (by omega)) (c1 11 (by omega)) (m1 19 (by omega)) (m2 15 (by omega) (by omega)), hG.fr (c1 0 (by omega)) (fun j hj => m1 j (by omega))⟩
/-- peer p alone is changed, and no message of its outbox -/
theorem rR.peer {t n p : Nat} {C C' m m' : cz_M} (hp : p < 4) (hB : rB n C m) (hP : ∀ p, p < 4 → rP n t C m p (2 + 2 * p)) (hW : rW C m) (hG : rG t C m) (c1 : ∀ k, k ≠ 2 + 2 * p → C'.1 k = C.1 k) (c2 : C'.2 = C.2) (m0 : m'.1 0 = m.1 0) (m1 : ∀ k, 1 ≤ k → k ≤ 3 ∨ 13 ≤ k → m'.1 k = m.1 k) (m2 : ∀ k j, 4 ≤ k → k ≤ 12 → j ≠ p → m'.1 k j = m.1 k j) (hn : rP n t C' m' p (2 + 2 * p)) : rR t C' m' := by
  refine ⟨n, hB.fr (by rw [c1 19 (by omega)]) (fun k hk => c1 k (by omega)) (by rw [m0]) (fun k a b => m1 k a (by omega)), fun p' hp' => ?_, hW.fr (c1 10 (by omega)) (c1 11 (by omega)) (by rw [m0]) (m1 15 (by omega) (by omega)), hG.fr (c1 0 (by omega)) (fun j hj => by rw [m0])⟩
  by_cases e : p' = p
  · subst e
    exact hn
  · exact (hP p' hp').fr (c1 _ (by omega)) (by rw [c2]) (fun e he => c1 _ (by omega)) (fun k a b => m2 k p' a b e) (fun j hj => by rw [m1 13 (by omega) (by omega)]) (fun i hi => by rw [m1 14 (by omega) (by omega)])
theorem mo_ln4 {k : Nat} (h1 : 4 ≤ k) (h2 : k ≤ 12) : mo_ln k = 4 := by
  unfold mo_ln
  rw [if_neg (by omega), if_neg (by omega), if_neg (by omega), if_pos (by omega)]
theorem pc_p {ρ : Type} {p k : Nat} (hp : p < 4) (h1 : 4 ≤ k) (h2 : k ≤ 12) (x : Option ρ) : (if nI p < 0 ∨ mo_ln k ≤ (nI p).toNatClampNeg then none else x) = x := pc_in (by rw [mo_ln4 h1 h2]; exact hp) (by rw [mo_ln4 h1 h2]; decide) x
theorem cp_leave (C : cz_M) (q : Nat) (s : Int32) : f_Peer_leave C q s = some (cz_i (cz_i (cz_i C q 0 s) q 9 0) q 5 0) := rfl
theorem mo_leave (m : cz_M) {p : Nat} (hp : p < 4) (s : Int32) : f_MO_leave m (nI p) s = some (cz_i (cz_i (cz_i (cz_i m 4 p s) 8 p 0) 10 p 0) 12 p 0) := by
  rw [f_MO_leave, pc_p hp (by omega) (by omega), pc_p hp (by omega) (by omega), pc_p hp (by omega) (by omega), pc_p hp (by omega) (by omega), nI_clamp (by omega)]
/-- score x, then gone to the state st -/
theorem rP.gone {n t p q st s : Nat} {C m : cz_M} (h : rP n t C m p q) (hst : st < 4) (hs : s ≤ 10) (hc : st = 3 ∨ 4 ≤ s) : rP n t (cz_i (cz_i (cz_i (cz_i C q 1 (nI s - nI 7)) q 0 (nI st)) q 9 0) q 5 0) (cz_i (cz_i (cz_i (cz_i (cz_i m 5 p (nI s - nI 7)) 4 p (nI st)) 8 p 0) 10 p 0) 12 p 0) p q := by
  obtain ⟨h1, h2, h3, h4, h5, h6, h7, h8⟩ := h
  refine ⟨⟨st, s, hst, by simp [pi_get], by simp [pi_get], hs, by simp [pi_get], by simp [pi_get], hc⟩, by simp [pi_get]; exact h2, by simp [pi_get]; exact h3, by simp [pi_get], Or.inl ⟨by simp [pi_get], by simp [pi_get]⟩, ⟨0, by omega, by simp [pi_get]; rfl, by simp [pi_get]; rfl, fun j hj => by omega⟩, h7, h8⟩
theorem rR.gone {t p st s : Nat} {C m : cz_M} (h : rR t C m) (hp : p < 4) (hst : st < 4) (hs : s ≤ 10) (hc : st = 3 ∨ 4 ≤ s) : rR t (cz_i (cz_i (cz_i (cz_i C (2 + 2 * p) 1 (nI s - nI 7)) (2 + 2 * p) 0 (nI st)) (2 + 2 * p) 9 0) (2 + 2 * p) 5 0) (cz_i (cz_i (cz_i (cz_i (cz_i m 5 p (nI s - nI 7)) 4 p (nI st)) 8 p 0) 10 p 0) 12 p 0) := by
  obtain ⟨n, hB, hP, hW, hG⟩ := h
  refine rR.peer hp hB hP hW hG (fun k hk => ?_) rfl ?_ (fun k a b => ?_) (fun k j a b hj => ?_) ((hP p hp).gone hst hs hc)
  · rw [pi_row _ _ _ _ hk, pi_row _ _ _ _ hk, pi_row _ _ _ _ hk, pi_row _ _ _ _ hk]
  · rw [pi_row _ _ _ _ (by decide), pi_row _ _ _ _ (by decide), pi_row _ _ _ _ (by decide), pi_row _ _ _ _ (by decide), pi_row _ _ _ _ (by decide)]
  · rw [pi_row _ _ _ _ (by omega), pi_row _ _ _ _ (by omega), pi_row _ _ _ _ (by omega), pi_row _ _ _ _ (by omega), pi_row _ _ _ _ (by omega)]
  · simp [pi_get, hj]
/-- a write of what is there already -/
theorem pi_id {M : cz_M} {k j : Nat} {v : Int32} (h : M.1 k j = v) : cz_i M k j v = M := by
  refine Prod.ext ?_ rfl
  funext k' j'
  show (if k' = k ∧ j' = j then v else M.1 k' j') = M.1 k' j'
  by_cases e : k' = k ∧ j' = j
  · rw [if_pos e, e.1, e.2, h]
  · rw [if_neg e]
theorem rR.leave {t p st : Nat} {C m : cz_M} (h : rR t C m) (hp : p < 4) (hst : st < 4) (hc : st = 3 ∨ ¬ m.1 4 p = 3) : rR t (cz_i (cz_i (cz_i C (2 + 2 * p) 0 (nI st)) (2 + 2 * p) 9 0) (2 + 2 * p) 5 0) (cz_i (cz_i (cz_i (cz_i m 4 p (nI st)) 8 p 0) 10 p 0) 12 p 0) := by
  have h0 := h
  obtain ⟨n, hB, hP, hW, hG⟩ := h0
  obtain ⟨⟨st0, s, s1, s2, s3, s4, s5, s6, s7⟩, -⟩ := hP p hp
  have h9 := h.gone (st := st) (s := s) hp hst s4 (by
    rcases hc with hc | hc
    · exact Or.inl hc
    · rcases s7 with s7 | s7
      · rw [s7] at s3
        exact absurd s3 hc
      · exact Or.inr s7)
  rw [pi_id s5, pi_id s6] at h9
  exact h9
theorem pn_score : ∀ s, s ≤ 10 → ((-3 : Int32) ≤ nI s - nI 7 ↔ 4 ≤ s) := by decide
theorem pn_sub7 {s c : Nat} (h : c ≤ s) : nI s - nI 7 - nI c = nI (s - c) - nI 7 := by
  rw [← pk_sub h, Int32.sub_eq_add_neg, Int32.sub_eq_add_neg, Int32.sub_eq_add_neg, Int32.sub_eq_add_neg, Int32.add_assoc, Int32.add_assoc, Int32.add_comm (-nI 7)]
theorem rR.fault {t p c : Nat} {C m : cz_M} (h : rR t C m) (hp : p < 4) (hc : c ≤ 4) (h3 : ¬ m.1 4 p = 3) : ∃ C' m', f_Peer_fault C (2 + 2 * p) (nI c) = some C' ∧ f_MO_fault m (nI p) (nI c) = some (0, m') ∧ rR t C' m' := by
  have h0 := h
  obtain ⟨n, hB, hP, hW, hG⟩ := h0
  obtain ⟨⟨st, s, s1, s2, s3, s4, s5, s6, s7⟩, q2, q3, q4, q5, q6, q7, q8⟩ := hP p hp
  have s8 : 4 ≤ s := by
    rcases s7 with s7 | s7
    · rw [s7] at s3
      exact absurd s3 h3
    · exact s7
  rw [f_Peer_fault, f_MO_fault, pc_p hp (by omega) (by omega), pc_p hp (by omega) (by omega), pc_p hp (by omega) (by omega), nI_clamp (by omega), pi_same, pi_same, s5, s6, pn_sub7 (by omega)]
  by_cases e : 4 ≤ s - c
  · rw [if_pos ((pn_score (s - c) (by omega)).mpr e), if_pos ((pn_score (s - c) (by omega)).mpr e)]
    refine ⟨_, _, rfl, rfl, rR.peer hp hB hP hW hG (fun k hk => pi_row _ _ _ _ hk) rfl (pi_row _ _ _ _ (by decide)) (fun k a b => pi_row _ _ _ _ (by omega)) (fun k j a b hj => by simp [pi_get, hj]) ?_⟩
    refine ⟨⟨st, s - c, s1, by simp [pi_get]; exact s2, by simp [pi_get]; exact s3, by omega, by simp [pi_get], by simp [pi_get], Or.inr e⟩, by simp [pi_get]; exact q2, by simp [pi_get]; exact q3, by simp [pi_get]; exact q4, ?_, ?_, q7, q8⟩
    · unfold rQ at q5 ⊢
      simp only [pi_get]
      simpa using q5
    · obtain ⟨o, o1, o2, o3, o4⟩ := q6
      refine ⟨o, o1, by simp [pi_get]; exact o2, by simp [pi_get]; exact o3, fun j hj => ?_⟩
      obtain ⟨x, x1, x2⟩ := q7 j (by omega)
      have x3 : (cz_i C (2 + 2 * p) 1 (nI (s - c) - nI 7)).2 (2 + 2 * p + 1) j = 29 + 8 * p + 2 * x := x2
      have o5 := o4 j hj
      rw [x2] at o5
      rw [x3]
      exact o5.fr (by rw [pi_row _ _ _ _ (by omega)]) (by rw [pi_row _ _ _ _ (by omega)]) (by rw [pi_row _ _ _ _ (by omega)]) (fun i hi => by rw [pi_row _ _ _ _ (by omega)])
  · rw [if_neg (fun z => e ((pn_score (s - c) (by omega)).mp z)), if_neg (fun z => e ((pn_score (s - c) (by omega)).mp z)), cp_leave, mo_leave _ hp]
    exact ⟨_, _, rfl, rfl, h.gone (st := 3) (s := s - c) hp (by omega) (by omega) (Or.inl rfl)⟩
theorem st_close {t : Nat} {C m : cz_M} (h : rR t C m) (a : Int32) : ∃ r C' m', f_CP_close C a = some (r, C') ∧ f_MO_close m a = some (r, m') ∧ rR t C' m' := by
  have h0 := h
  obtain ⟨n, hB, hP, hW, hG⟩ := h0
  rcases pk_ix a (n := 4) (by decide) with h1 | h1 | ⟨p, hp, rfl⟩
  · exact ⟨0, C, m, by rw [f_CP_close, pe_no (Or.inl h1), pb_i, if_pos rfl], by rw [f_MO_close, pe_no2 (Or.inl h1), pb_i, if_pos rfl], h⟩
  · exact ⟨0, C, m, by rw [f_CP_close, pe_no (Or.inr h1), pb_i, if_pos rfl], by rw [f_MO_close, pe_no2 (Or.inr h1), pb_i, if_pos rfl], h⟩
  · obtain ⟨⟨st, s, s1, s2, s3, s4, s5, s6, s7⟩, -⟩ := hP p hp
    rw [f_CP_close, pe_is hp, pb_i, if_neg (show ¬ (1 : Int32) = 0 by decide), pc_in hp (by decide), nI_clamp (show p < 2 ^ 31 by omega), f_Peer_isTalking, s2, b_Peer_isTalking_16, f_MO_close, pe_is2 hp, pb_i, if_neg (show ¬ (1 : Int32) = 0 by decide), pc_p hp (by omega) (by omega), pc_p hp (by omega) (by omega), nI_clamp (show p < 2 ^ 31 by omega), s3, b_MO_close_31, mo_leave _ hp, pb_v]
    by_cases e : st = 1 ∨ st = 2
    · have hf : ∃ C' m', (cz_bv (f_Peer_leave C (2 + 2 * p) 0) fun M28 => some ((1 : Int32), M28)) = some (1, C') ∧ some ((1 : Int32), cz_i (cz_i (cz_i (cz_i m 4 p 0) 8 p 0) 10 p 0) 12 p 0) = some (1, m') ∧ rR t C' m' :=
        ⟨_, _, rfl, rfl, h.leave (st := 0) hp (by omega) (Or.inr (by rw [s3]; rcases e with e | e <;> (subst e; decide)))⟩
      obtain ⟨C', m', f1, f2, f3⟩ := hf
      refine ⟨1, C', m', ?_, ?_, f3⟩
      · rcases e with e | e
        · subst e
          show (if nI p < 0 ∨ 4 ≤ p then none else cz_bv (f_Peer_leave C (2 + 2 * p) 0) fun M28 => some ((1 : Int32), M28)) = _
          rw [pc_k hp (by omega)]
          exact f1
        · subst e
          show (if nI p < 0 ∨ 4 ≤ p then none else cz_bv (f_Peer_leave C (2 + 2 * p) 0) fun M28 => some ((1 : Int32), M28)) = _
          rw [pc_k hp (by omega)]
          exact f1
      · rcases e with e | e
        · subst e
          exact f2
        · subst e
          exact f2
    · have e2 : st = 0 ∨ st = 3 := by omega
      refine ⟨0, C, m, ?_, ?_, h⟩
      · rcases e2 with e2 | e2
        · subst e2
          rfl
        · subst e2
          rfl
      · rcases e2 with e2 | e2
        · subst e2
          rfl
        · subst e2
          rfl
