/-! PURE: greet a peer first; requests -/
def byt (xs : List Int32) : Prop := ∀ x, x ∈ xs → ∃ b, b < 256 ∧ x = nI b
theorem byt.app {xs ys : List Int32} (h1 : byt xs) (h2 : byt ys) : byt (xs ++ ys) := fun x hx => (List.mem_append.mp hx).elim (h1 x) (h2 x)
theorem byt.en (k : Nat) : byt (en k) := fun _ hx => en_byte k hx
theorem byt.cons {x : Int32} {xs : List Int32} {b : Nat} (h1 : b < 256) (h2 : x = nI b) (h : byt xs) : byt (x :: xs) := fun y hy => (List.mem_cons.mp hy).elim (fun e => ⟨b, h1, e.trans h2⟩) (h y)
theorem byt.nil : byt [] := fun x hx => by cases hx
theorem en_len5 (k : Nat) : (en k).length ≤ 5 := by
  have := en_n_le k
  rw [en_len]
  omega
theorem en_len1 {k : Nat} (h : k < 128) : (en k).length = 1 := by
  rw [en_len]
  unfold en_n
  rw [if_pos h]
theorem rB.e {n : Nat} {C C' m m' : cz_M} (h : rB n C m) (h1 : eC C C') (h2 : eM m m') : rB n C' m' := h.fr (by rw [h1.1 19 (by omega)]) (fun k hk => h1.1 k (by omega)) (h2.1 4 (by omega)) (fun k a b => h2.2 k a (by omega))
/-- the number of HEAD -/
theorem rB.num {n k : Nat} {C m : cz_M} (h : rB n C m) (hk : k < n) : ∃ d, d ≤ k ∧ C.1 (69 + k) 1 = nI d ∧ m.1 1 (5 * k + 1) = nI d := by
  obtain ⟨d, t, d1, d2, -⟩ := bk_dep h.2.1 hk
  exact ⟨d, d1, d2, (h.2.2.2.1 k 1 hk (by decide)).trans d2⟩
theorem st_open {t : Nat} {C m : cz_M} (h : rR t C m) (a : Int32) : ∃ r C' m', f_CP_open C a = some (r, C') ∧ f_MO_open m a = some (r, m') ∧ rR t C' m' := by
  have h0 := h
  obtain ⟨n, hB, hP, hW, hG⟩ := h0
  rcases pk_ix a (n := 4) (by decide) with h1 | h1 | ⟨p, hp, rfl⟩
  · exact ⟨0, C, m, by rw [f_CP_open, pe_no (Or.inl h1), pb_i, if_pos rfl], by rw [f_MO_open, pe_no2 (Or.inl h1), pb_i, if_pos rfl], h⟩
  · exact ⟨0, C, m, by rw [f_CP_open, pe_no (Or.inr h1), pb_i, if_pos rfl], by rw [f_MO_open, pe_no2 (Or.inr h1), pb_i, if_pos rfl], h⟩
  · obtain ⟨⟨st, s, s1, s2, s3, s4, s5, s6, s7⟩, q2, q3, q4, q5, q6⟩ := hP p hp
    rw [f_CP_open, pe_is hp, pb_i, if_neg (show ¬ (1 : Int32) = 0 by decide), pc_in hp (by decide), pc_in hp (by decide), nI_clamp (show p < 2 ^ 31 by omega), s2, f_Peer_startGreeting, pb_v, pc_k hp (by omega), f_MO_open, pe_is2 hp, pb_i, if_neg (show ¬ (1 : Int32) = 0 by decide), pc_p hp (by omega) (by omega), pc_p hp (by omega) (by omega), pc_p hp (by omega) (by omega), pc_p hp (by omega) (by omega), nI_clamp (show p < 2 ^ 31 by omega), s3]
    by_cases e : st = 0
    · subst e
      rw [if_pos nI_0, if_pos nI_0]
      have h2 : rR t (cz_i (cz_i (cz_i C (2 + 2 * p) 0 1) (2 + 2 * p) 2 0) (2 + 2 * p) 3 0) (cz_i (cz_i (cz_i m 4 p 1) 6 p 0) 7 p 0) := by
        refine rR.peer hp hB hP hW hG (fun k hk => by rw [pi_row _ _ _ _ hk, pi_row _ _ _ _ hk, pi_row _ _ _ _ hk]) rfl ?_ (fun k a b => ?_) (fun k j a b hj => ?_) ((hP p hp).set hp (fun k hk => by rw [pi_row _ _ _ _ hk, pi_row _ _ _ _ hk, pi_row _ _ _ _ hk]) rfl ?_ ?_ ?_ ?_ ⟨1, s, by omega, ?_, ?_, s4, ?_, ?_, Or.inr (by omega)⟩ ?_ ?_ ?_ (Or.inl ⟨?_, ?_⟩))
        · rw [pi_row _ _ _ _ (by decide), pi_row _ _ _ _ (by decide), pi_row _ _ _ _ (by decide)]
        · rw [pi_row _ _ _ _ (by omega), pi_row _ _ _ _ (by omega), pi_row _ _ _ _ (by omega)]
        · simp [pi_get, hj]
        · rw [pi_row _ _ _ _ (by decide), pi_row _ _ _ _ (by decide), pi_row _ _ _ _ (by decide)]
        · rw [pi_row _ _ _ _ (by decide), pi_row _ _ _ _ (by decide), pi_row _ _ _ _ (by decide)]
        · simp [pi_get]
        · simp [pi_get]
        · simp [pi_get]
          rfl
        · simp [pi_get]
          rfl
        · simp [pi_get, s5]
        · simp [pi_get, s6]
        · simp [pi_get]
        · simp [pi_get]
        · simp [pi_get, q4]
        · rcases q5 with ⟨e1, -⟩ | ⟨e1, -⟩
          · simp [pi_get, e1]
          · rw [s3] at e1
            exact absurd e1 (by decide)
        · rcases q5 with ⟨-, e1⟩ | ⟨e1, -⟩
          · simp [pi_get, e1]
          · rw [s3] at e1
            exact absurd e1 (by decide)
      generalize hC1 : cz_i (cz_i (cz_i C (2 + 2 * p) 0 1) (2 + 2 * p) 2 0) (2 + 2 * p) 3 0 = C1 at h2 ⊢
      generalize hm1 : cz_i (cz_i (cz_i m 4 p 1) 6 p 0) 7 p 0 = m1 at h2 ⊢
      have h3 := h2
      obtain ⟨n1, hB1, -, -, ⟨g1, g2, -⟩⟩ := h3
      obtain ⟨c, c1, c2⟩ := nI_of (Int32.not_lt.mpr g2)
      obtain ⟨d, d1, d2, d3⟩ := hB1.num (bk_head_lt hB1.2.1)
      have hn20 := hB1.2.1.1.2
      have hlt := bk_head_lt hB1.2.1
      obtain ⟨Ca, a1, a2, a3⟩ := cD.begin C1 (k := 0) (by omega)
      obtain ⟨Cb, b1, b2, b3⟩ := a2.num (k := c) c1 (by have := en_len5 c; rw [List.length_cons, en_len1 (by omega)]; omega)
      have e3 := a3.tr b3
      obtain ⟨Cc, f1, f2, f3⟩ := b2.num (k := d) (by omega) (by have := en_len5 c; rw [List.length_append, List.length_cons, en_len1 (show 0 < 128 by omega), en_len1 (show d < 128 by omega)]; omega)
      obtain ⟨ma, x1, x2, x3⟩ := mD.start m1 (k := 0) (v := c) (by omega) c1
      obtain ⟨mb, y1, y2, y3⟩ := x2.num (k := d) (by omega) (by have := en_len5 c; rw [List.length_append, en_len1 (show 0 < 128 by omega), en_len1 (show d < 128 by omega)]; omega)
      obtain ⟨C', m', w1, w2, w3, -, -⟩ := rR.post (xs := en 0 ++ en c ++ en d) (h2.e (e3.tr f3) (x3.tr y3)) hp f2 y2 (by have := en_len5 c; rw [List.length_append, List.length_append, en_len1 (show 0 < 128 by omega), en_len1 (show d < 128 by omega)]; omega) (((byt.en _).app (byt.en _)).app (byt.en _))
      refine ⟨1, C', m', ?_, ?_, w3⟩
      · have a1 : f_Bytes_begin C1 12 0 = some Ca := a1
        rw [f_CP_sendHello, a1, pb_v, a3.1 0 (by omega), c2, b1, pb_v, cp_head (n := n1) (by rw [e3.1 19 (by omega)]; exact hB1.1) (by omega) hn20, pb_i, e3.1 23 (by omega), e3.1 26 (by omega), cp_numberOf (by omega), pb_i, e3.1 _ (by omega), d2, f1, pb_v, w1, pb_v, pb_v]
      · have x1 : f_MO_start m1 0 (nI c) = some ma := x1
        rw [mo_head hB1.2.1 hB1.2.2, pb_i, ← g1, c2, x1, pb_v, show (5 : Int32) * nI (bk_head n1 (C1.1 23) (C1.1 26)) = nI (5 * bk_head n1 (C1.1 23) (C1.1 26)) from pk_mul 5 _, nI_1, pc_in (show 5 * bk_head n1 (C1.1 23) (C1.1 26) + 1 < mo_ln 1 by show _ < 100; omega) (by decide), nI_clamp (by omega), x3.2 1 (by omega) (by omega), d3, y1, pb_v, w2, pb_v]
    · rw [if_neg (nI_ne0 (by omega) (by omega)), if_neg (nI_ne0 (by omega) (by omega))]
      exact ⟨_, _, _, rfl, rfl, h⟩
/-! a request -/
theorem rR.ids {t n x : Nat} {C m : cz_M} (hB : rB n C m) (hP : ∀ p, p < 4 → rP n t C m p (2 + 2 * p)) (hW : rW C m) (hG : rG t C m) (hx : x ≤ 4 * t) : rB n (cz_i C 0 10 (nI x)) (cz_i m 0 3 (nI x)) ∧ (∀ p, p < 4 → rP n t (cz_i C 0 10 (nI x)) (cz_i m 0 3 (nI x)) p (2 + 2 * p)) ∧ rW (cz_i C 0 10 (nI x)) (cz_i m 0 3 (nI x)) ∧ rG t (cz_i C 0 10 (nI x)) (cz_i m 0 3 (nI x)) := by
  refine ⟨hB.fr ?_ ?_ ?_ ?_, fun p hp => (hP p hp).fr ?_ ?_ ?_ ?_ ?_ ?_, hW.fr ?_ ?_ ?_ ?_, ?_⟩
  · rw [pi_row _ _ _ _ (by decide)]
  · intro k hk
    rw [pi_row _ _ _ _ (by omega)]
  · rw [pi_get, if_neg (by decide)]
  · intro k h1 h2
    rw [pi_row _ _ _ _ (by omega)]
  · rw [pi_row _ _ _ _ (by omega)]
  · rfl
  · intro e he
    rw [pi_row _ _ _ _ (by omega)]
  · intro k h1 h2
    rw [pi_row _ _ _ _ (by omega)]
  · intro j hj
    rw [pi_row _ _ _ _ (by omega)]
  · intro i hi
    rw [pi_row _ _ _ _ (by omega)]
  · rw [pi_row _ _ _ _ (by decide)]
  · rw [pi_row _ _ _ _ (by decide)]
  · rw [pi_get, if_neg (by decide)]
  · rw [pi_row _ _ _ _ (by decide)]
  · obtain ⟨g1, g2, g3, g4, -⟩ := hG
    exact ⟨by simp [pi_get, g1], by simp [pi_get, g2], by simp [pi_get, g3], by simp [pi_get, g4], x, hx, by simp [pi_get], by simp [pi_get]⟩
theorem rR.set {t n p x : Nat} {C m : cz_M} {kc km a d : Int32} (hp : p < 4) (hB : rB n C m) (hP : ∀ p, p < 4 → rP n t C m p (2 + 2 * p)) (hW : rW C m) (hG : rG t C m) (h2 : m.1 4 p = 2) (hx1 : 1 ≤ x) (hx : x ≤ 3000) (hk : (km = 1 ∧ kc = 1) ∨ (km = 2 ∧ kc = 3 ∧ ∃ k, 0 < k ∧ k < n ∧ a = nI k)) : rR t (cz_i (cz_i (cz_i (cz_i C (2 + 2 * p) 4 kc) (2 + 2 * p) 5 (nI x)) (2 + 2 * p) 6 a) (2 + 2 * p) 7 d) (cz_i (cz_i (cz_i (cz_i m 8 p km) 9 p a) 10 p (nI x)) 11 p d) := by
  obtain ⟨⟨st, s, s1, s2, s3, s4, s5, s6, s7⟩, q2, q3, q4, q5, q6⟩ := hP p hp
  refine rR.peer hp hB hP hW hG (fun k hk => by rw [pi_row _ _ _ _ hk, pi_row _ _ _ _ hk, pi_row _ _ _ _ hk, pi_row _ _ _ _ hk]) rfl ?_ (fun k a b => ?_) (fun k j a b hj => ?_) ((hP p hp).set hp (fun k hk => by rw [pi_row _ _ _ _ hk, pi_row _ _ _ _ hk, pi_row _ _ _ _ hk, pi_row _ _ _ _ hk]) rfl ?_ ?_ ?_ ?_ ⟨st, s, s1, ?_, ?_, s4, ?_, ?_, s7⟩ ?_ ?_ ?_ (Or.inr ⟨?_, ?_, ?_, ⟨x, hx1, hx, ?_⟩, ?_⟩))
  · rw [pi_row _ _ _ _ (by decide), pi_row _ _ _ _ (by decide), pi_row _ _ _ _ (by decide), pi_row _ _ _ _ (by decide)]
  · rw [pi_row _ _ _ _ (by omega), pi_row _ _ _ _ (by omega), pi_row _ _ _ _ (by omega), pi_row _ _ _ _ (by omega)]
  · simp [pi_get, hj]
  · rw [pi_row _ _ _ _ (by decide), pi_row _ _ _ _ (by decide), pi_row _ _ _ _ (by decide), pi_row _ _ _ _ (by decide)]
  · rw [pi_row _ _ _ _ (by decide), pi_row _ _ _ _ (by decide), pi_row _ _ _ _ (by decide), pi_row _ _ _ _ (by decide)]
  · simp [pi_get]
  · simp [pi_get]
  · simp [pi_get, s2]
  · simp [pi_get, s3]
  · simp [pi_get, s5]
  · simp [pi_get, s6]
  · simp [pi_get, q2]
  · simp [pi_get, q3]
  · simp [pi_get]
  · simp [pi_get, h2]
  · simp [pi_get]
  · simp [pi_get]
  · simp [pi_get]
  · simp only [pi_get]
    simpa using hk
theorem zm_nn (r : Nat → Int32) : ∃ k, k < 2 ^ 31 ∧ zm_h r = nI k := by
  rw [zm_h, ← zm_m_eq]
  exact pk_andE _ 31 (by decide)
theorem rB.hash {n k : Nat} {C m : cz_M} (h : rB n C m) (hk : k < n) : zm_h (fun j => m.1 1 (5 * k + j)) = C.1 21 k := by
  rw [h.2.1.2.1 k hk]
  exact zm_h_cong (fun j hj => h.2.2.2.1 k j hk hj)
theorem rR.askBody {t n p k x : Nat} {C m : cz_M} (hp : p < 4) (hB : rB n C m) (hP : ∀ p, p < 4 → rP n t C m p (2 + 2 * p)) (hW : rW C m) (hG : rG t C m) (h2 : m.1 4 p = 2) (hk0 : 0 < k) (hk : k < n) (hx : C.1 0 10 = nI x) (hx1 : x + 1 ≤ 4 * t) (hx3 : x + 1 ≤ 3000) : ∃ C' m', f_CP_askForBody C (2 + 2 * p) (nI k) = some C' ∧ f_MO_request m (nI p) 2 (nI k) = some m' ∧ rR t C' m' ∧ C'.1 0 10 = nI (x + 1) := by
  have h20 := hB.2.1.1.2
  have hxm : m.1 0 3 = nI x := by
    obtain ⟨-, -, -, -, y, -, y1, y2⟩ := hG
    rw [y2, ← y1, hx]
  have hT : C.1 0 9 + C.1 0 1 = m.1 0 2 + m.1 0 1 := by rw [hG.2.2.2.1, hG.2.2.1]
  obtain ⟨i1, i2, i3, i4⟩ := rR.ids (x := x + 1) hB hP hW hG hx1
  have h5 : rR t (cz_i (cz_i (cz_i (cz_i (cz_i C 0 10 (nI (x + 1))) (2 + 2 * p) 4 3) (2 + 2 * p) 5 (nI (x + 1))) (2 + 2 * p) 6 (nI k)) (2 + 2 * p) 7 (C.1 0 9 + C.1 0 1)) (cz_i (cz_i (cz_i (cz_i (cz_i m 0 3 (nI (x + 1))) 8 p 2) 9 p (nI k)) 10 p (nI (x + 1))) 11 p (C.1 0 9 + C.1 0 1)) := rR.set hp i1 i2 i3 i4 (by rw [pi_row _ _ _ _ (by decide)]; exact h2) (by omega) hx3 (Or.inr ⟨rfl, rfl, k, hk0, hk, rfl⟩)
  have e1 : f_CP_askForBody C (2 + 2 * p) (nI k) = cz_bv (f_Bytes_begin (cz_i (cz_i (cz_i (cz_i (cz_i C 0 10 (nI (x + 1))) (2 + 2 * p) 4 3) (2 + 2 * p) 5 (nI (x + 1))) (2 + 2 * p) 6 (nI k)) (2 + 2 * p) 7 (C.1 0 9 + C.1 0 1)) 12 3) (fun M34 => (cz_bv (f_Bytes_addNumber M34 12 (M34.1 0 10)) (fun M45 => (if nI k < 0 ∨ cp_ln 21 ≤ (nI k).toNatClampNeg then none else (cz_bv (f_Bytes_addNumber M45 12 (M45.1 21 (nI k).toNatClampNeg)) (fun M61 => (cz_bv (f_CP_sendDraft M61 (2 + 2 * p)) (fun M66 => some M66)))))))) := by
    rw [f_CP_askForBody, hx, nI_1, pi_same, pi_get _ _ _ _ 0 9, if_neg (by decide), pi_get _ _ _ _ 0 1, if_neg (by decide), f_Peer_setRequest, pb_v]
  have e2 : f_MO_request m (nI p) 2 (nI k) = b_MO_request_60 (nI p) 2 (nI k) (cz_i (cz_i (cz_i (cz_i (cz_i m 0 3 (nI (x + 1))) 8 p 2) 9 p (nI k)) 10 p (nI (x + 1))) 11 p (C.1 0 9 + C.1 0 1)) 3 := by
    rw [f_MO_request, pc_p hp (by omega) (by omega), pc_p hp (by omega) (by omega), pc_p hp (by omega) (by omega), pc_p hp (by omega) (by omega), nI_clamp (show p < 2 ^ 31 by omega), if_neg (show ¬ (2 : Int32) = 1 by decide), hxm, nI_1, hT]
    simp [pi_get]
  rw [e1, e2]
  have hx10 : (cz_i (cz_i (cz_i (cz_i (cz_i C 0 10 (nI (x + 1))) (2 + 2 * p) 4 3) (2 + 2 * p) 5 (nI (x + 1))) (2 + 2 * p) 6 (nI k)) (2 + 2 * p) 7 (C.1 0 9 + C.1 0 1)).1 0 10 = nI (x + 1) := by
    rw [pi_row _ _ _ _ (by omega), pi_row _ _ _ _ (by omega), pi_row _ _ _ _ (by omega), pi_row _ _ _ _ (by omega), pi_same]
  have hx03 : (cz_i (cz_i (cz_i (cz_i (cz_i m 0 3 (nI (x + 1))) 8 p 2) 9 p (nI k)) 10 p (nI (x + 1))) 11 p (C.1 0 9 + C.1 0 1)).1 0 3 = nI (x + 1) := by
    rw [pi_row _ _ _ _ (by omega), pi_row _ _ _ _ (by omega), pi_row _ _ _ _ (by omega), pi_row _ _ _ _ (by omega), pi_same]
  have h21 : (cz_i (cz_i (cz_i (cz_i (cz_i C 0 10 (nI (x + 1))) (2 + 2 * p) 4 3) (2 + 2 * p) 5 (nI (x + 1))) (2 + 2 * p) 6 (nI k)) (2 + 2 * p) 7 (C.1 0 9 + C.1 0 1)).1 21 = C.1 21 := by
    rw [pi_row _ _ _ _ (by omega), pi_row _ _ _ _ (by omega), pi_row _ _ _ _ (by omega), pi_row _ _ _ _ (by omega), pi_row _ _ _ _ (by omega)]
  have hm1 : (cz_i (cz_i (cz_i (cz_i (cz_i m 0 3 (nI (x + 1))) 8 p 2) 9 p (nI k)) 10 p (nI (x + 1))) 11 p (C.1 0 9 + C.1 0 1)).1 1 = m.1 1 := by
    rw [pi_row _ _ _ _ (by omega), pi_row _ _ _ _ (by omega), pi_row _ _ _ _ (by omega), pi_row _ _ _ _ (by omega), pi_row _ _ _ _ (by omega)]
  generalize cz_i (cz_i (cz_i (cz_i (cz_i C 0 10 (nI (x + 1))) (2 + 2 * p) 4 3) (2 + 2 * p) 5 (nI (x + 1))) (2 + 2 * p) 6 (nI k)) (2 + 2 * p) 7 (C.1 0 9 + C.1 0 1) = C1 at h5 hx10 h21 ⊢
  generalize cz_i (cz_i (cz_i (cz_i (cz_i m 0 3 (nI (x + 1))) 8 p 2) 9 p (nI k)) 10 p (nI (x + 1))) 11 p (C.1 0 9 + C.1 0 1) = m1 at h5 hx03 hm1 ⊢
  obtain ⟨v, v1, v2⟩ := zm_nn (fun j => m.1 1 (5 * k + j))
  have v3 : C.1 21 k = nI v := by rw [← hB.hash hk, v2]
  have hv5 := en_len5 v
  have hx5 := en_len5 (x + 1)
  have h31 : (en 3).length = 1 := en_len1 (by omega)
  obtain ⟨Ca, a1, a2, a3⟩ := cD.begin C1 (k := 3) (by omega)
  obtain ⟨Cb, b1, b2, b3⟩ := a2.num (k := x + 1) (by omega) (by rw [List.length_cons]; omega)
  obtain ⟨Cc, f1, f2, f3⟩ := b2.num (k := v) v1 (by rw [List.length_append, List.length_cons]; omega)
  obtain ⟨ma, x1, x2, x3⟩ := mD.start m1 (k := 3) (v := x + 1) (by omega) (by omega)
  obtain ⟨mb, y1, y2, y3⟩ := x2.num (k := v) v1 (by rw [List.length_append]; omega)
  obtain ⟨C', m', w1, w2, w3, -, w5⟩ := rR.post (xs := en 3 ++ en (x + 1) ++ en v) (h5.e ((a3.tr b3).tr f3) (x3.tr y3)) hp f2 y2 (by rw [List.length_append, List.length_append]; omega) (((byt.en _).app (byt.en _)).app (byt.en _))
  refine ⟨C', m', ?_, ?_, w3, ?_⟩
  · have a1 : f_Bytes_begin C1 12 3 = some Ca := a1
    rw [a1, pb_v, a3.1 0 (by omega), hx10, b1, pb_v, pc_in (show k < cp_ln 21 by show k < 20; omega) (by decide), nI_clamp (by omega), (a3.tr b3).1 21 (by omega), h21, v3, f1, pb_v, w1, pb_v]
  · have x1 : f_MO_start m1 3 (nI (x + 1)) = some ma := x1
    rw [b_MO_request_60, hx03, x1, pb_v, if_neg (by decide), show (5 : Int32) * nI k = nI (5 * k) from pk_mul 5 k, mo_hash1 (by omega), pb_i, x3.2 1 (by omega) (by omega), hm1, v2, y1, pb_v, b_MO_request_101, w2, pb_v]
  · rw [w5, ((a3.tr b3).tr f3).1 0 (by omega), hx10]
theorem rR.askHeaders {t n p a x : Nat} {C m : cz_M} (hp : p < 4) (hB : rB n C m) (hP : ∀ p, p < 4 → rP n t C m p (2 + 2 * p)) (hW : rW C m) (hG : rG t C m) (h2 : m.1 4 p = 2) (ha : a < 2 ^ 31) (hx : C.1 0 10 = nI x) (hx1 : x + 1 ≤ 4 * t) (hx3 : x + 1 ≤ 3000) : ∃ C' m', f_CP_askForHeaders C (2 + 2 * p) (nI a) = some C' ∧ f_MO_request m (nI p) 1 (nI a) = some m' ∧ rR t C' m' ∧ C'.1 0 10 = nI (x + 1) := by
  have h20 := hB.2.1.1.2
  have hxm : m.1 0 3 = nI x := by
    obtain ⟨-, -, -, -, y, -, y1, y2⟩ := hG
    rw [y2, ← y1, hx]
  have hT : C.1 0 9 + C.1 0 1 = m.1 0 2 + m.1 0 1 := by rw [hG.2.2.2.1, hG.2.2.1]
  obtain ⟨i1, i2, i3, i4⟩ := rR.ids (x := x + 1) hB hP hW hG hx1
  have h5 : rR t (cz_i (cz_i (cz_i (cz_i (cz_i C 0 10 (nI (x + 1))) (2 + 2 * p) 4 1) (2 + 2 * p) 5 (nI (x + 1))) (2 + 2 * p) 6 (nI a)) (2 + 2 * p) 7 (C.1 0 9 + C.1 0 1)) (cz_i (cz_i (cz_i (cz_i (cz_i m 0 3 (nI (x + 1))) 8 p 1) 9 p (nI a)) 10 p (nI (x + 1))) 11 p (C.1 0 9 + C.1 0 1)) := rR.set hp i1 i2 i3 i4 (by rw [pi_row _ _ _ _ (by decide)]; exact h2) (by omega) hx3 (Or.inl ⟨rfl, rfl⟩)
  have e1 : f_CP_askForHeaders C (2 + 2 * p) (nI a) = cz_bv (f_Bytes_begin (cz_i (cz_i (cz_i (cz_i (cz_i C 0 10 (nI (x + 1))) (2 + 2 * p) 4 1) (2 + 2 * p) 5 (nI (x + 1))) (2 + 2 * p) 6 (nI a)) (2 + 2 * p) 7 (C.1 0 9 + C.1 0 1)) 12 1) (fun M34 => (cz_bv (f_Bytes_addNumber M34 12 (M34.1 0 10)) (fun M45 => (cz_bv (f_Bytes_addNumber M45 12 (nI a)) (fun M53 => (cz_bv (f_Bytes_addNumber M53 12 (2 : Int32)) (fun M61 => (cz_bv (f_CP_sendDraft M61 (2 + 2 * p)) (fun M66 => some M66))))))))) := by
    rw [f_CP_askForHeaders, hx, nI_1, pi_same, pi_get _ _ _ _ 0 9, if_neg (by decide), pi_get _ _ _ _ 0 1, if_neg (by decide), f_Peer_setRequest, pb_v]
  have e2 : f_MO_request m (nI p) 1 (nI a) = b_MO_request_60 (nI p) 1 (nI a) (cz_i (cz_i (cz_i (cz_i (cz_i m 0 3 (nI (x + 1))) 8 p 1) 9 p (nI a)) 10 p (nI (x + 1))) 11 p (C.1 0 9 + C.1 0 1)) 1 := by
    rw [f_MO_request, pc_p hp (by omega) (by omega), pc_p hp (by omega) (by omega), pc_p hp (by omega) (by omega), pc_p hp (by omega) (by omega), nI_clamp (show p < 2 ^ 31 by omega), if_pos (show (1 : Int32) = 1 from rfl), hxm, nI_1, hT]
    simp [pi_get]
  rw [e1, e2]
  have hx10 : (cz_i (cz_i (cz_i (cz_i (cz_i C 0 10 (nI (x + 1))) (2 + 2 * p) 4 1) (2 + 2 * p) 5 (nI (x + 1))) (2 + 2 * p) 6 (nI a)) (2 + 2 * p) 7 (C.1 0 9 + C.1 0 1)).1 0 10 = nI (x + 1) := by
    rw [pi_row _ _ _ _ (by omega), pi_row _ _ _ _ (by omega), pi_row _ _ _ _ (by omega), pi_row _ _ _ _ (by omega), pi_same]
  have hx03 : (cz_i (cz_i (cz_i (cz_i (cz_i m 0 3 (nI (x + 1))) 8 p 1) 9 p (nI a)) 10 p (nI (x + 1))) 11 p (C.1 0 9 + C.1 0 1)).1 0 3 = nI (x + 1) := by
    rw [pi_row _ _ _ _ (by omega), pi_row _ _ _ _ (by omega), pi_row _ _ _ _ (by omega), pi_row _ _ _ _ (by omega), pi_same]
  generalize cz_i (cz_i (cz_i (cz_i (cz_i C 0 10 (nI (x + 1))) (2 + 2 * p) 4 1) (2 + 2 * p) 5 (nI (x + 1))) (2 + 2 * p) 6 (nI a)) (2 + 2 * p) 7 (C.1 0 9 + C.1 0 1) = C1 at h5 hx10 ⊢
  generalize cz_i (cz_i (cz_i (cz_i (cz_i m 0 3 (nI (x + 1))) 8 p 1) 9 p (nI a)) 10 p (nI (x + 1))) 11 p (C.1 0 9 + C.1 0 1) = m1 at h5 hx03 ⊢
  have hv5 := en_len5 a
  have hx5 := en_len5 (x + 1)
  have h31 : (en 1).length = 1 := en_len1 (by omega)
  have h32 : (en 2).length = 1 := en_len1 (by omega)
  obtain ⟨Ca, a1, a2, a3⟩ := cD.begin C1 (k := 1) (by omega)
  obtain ⟨Cb, b1, b2, b3⟩ := a2.num (k := x + 1) (by omega) (by rw [List.length_cons]; omega)
  obtain ⟨Cc, f1, f2, f3⟩ := b2.num (k := a) ha (by rw [List.length_append, List.length_cons]; omega)
  obtain ⟨Cd, g1, g2, g3⟩ := f2.num (k := 2) (by omega) (by rw [List.length_append, List.length_append, List.length_cons]; omega)
  obtain ⟨ma, x1, x2, x3⟩ := mD.start m1 (k := 1) (v := x + 1) (by omega) (by omega)
  obtain ⟨mb, y1, y2, y3⟩ := x2.num (k := a) ha (by rw [List.length_append]; omega)
  obtain ⟨mc, z1, z2, z3⟩ := y2.num (k := 2) (by omega) (by rw [List.length_append, List.length_append]; omega)
  obtain ⟨C', m', w1, w2, w3, -, w5⟩ := rR.post (xs := en 1 ++ en (x + 1) ++ en a ++ en 2) (h5.e (((a3.tr b3).tr f3).tr g3) ((x3.tr y3).tr z3)) hp g2 z2 (by rw [List.length_append, List.length_append, List.length_append]; omega) ((((byt.en _).app (byt.en _)).app (byt.en _)).app (byt.en _))
  refine ⟨C', m', ?_, ?_, w3, ?_⟩
  · have a1 : f_Bytes_begin C1 12 1 = some Ca := a1
    have g1 : f_Bytes_addNumber Cc 12 2 = some Cd := g1
    rw [a1, pb_v, a3.1 0 (by omega), hx10, b1, pb_v, f1, pb_v, g1, pb_v, w1, pb_v]
  · have x1 : f_MO_start m1 1 (nI (x + 1)) = some ma := x1
    have z1 : f_MO_write mb 2 = some mc := z1
    rw [b_MO_request_60, hx03, x1, pb_v, if_pos rfl, y1, pb_v, z1, pb_v, b_MO_request_101, w2, pb_v]
  · rw [w5, (((a3.tr b3).tr f3).tr g3).1 0 (by omega), hx10]
