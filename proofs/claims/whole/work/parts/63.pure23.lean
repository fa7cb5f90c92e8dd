/-! PURE: bodies that come; a message received -/
theorem bm_lp {k c : Nat} (a1 : Int32) (hc : c ≤ 8) : ∀ (r i f : Nat) (v : Int32) (m : cz_M), i + r = c → r < f → m.1 0 24 = nI c → cz_lp4 (l_MO_body_61 a1) f m (nI k) v (nI i) = b_MO_body_88 a1 m (nI k) (mx (m.1 17) i r v) := by
  intro r
  induction r with
  | zero =>
    intro i f v m hi hf h24
    obtain ⟨f, rfl⟩ : ∃ g, f = g + 1 := ⟨f - 1, by omega⟩
    rw [cz_lp4_s, l_MO_body_61, h24, if_pos (nI_le (by omega) (by omega)), mx]
  | succ r ih =>
    intro i f v m hi hf h24
    obtain ⟨f, rfl⟩ : ∃ g, f = g + 1 := ⟨f - 1, by omega⟩
    rw [cz_lp4_s, l_MO_body_61, h24, if_neg (nI_ge (by omega) (by omega)), pc_in (show i < mo_ln 17 by show _ < 60; omega) (by decide), nI_clamp (show i < 2 ^ 31 by omega), f_MO_mix, pb_i, zm_m_eq, nI_1, ih (i + 1) f _ m (by omega) (by omega) h24, mx]
theorem bc_lp {k c : Nat} (a1 : Int32) (hk : k < 20) (hc : c ≤ 8) : ∀ (r i f : Nat) (m : cz_M), i + r = c → r < f → m.1 0 24 = nI c → ∃ m', cz_lp3 (l_MO_body_122 a1) f m (nI k) (nI i) = b_MO_body_156 a1 m' ∧ (∀ x, x ≠ 2 → m'.1 x = m.1 x) ∧ (∀ j, j < 8 * k + i ∨ 8 * k + 8 ≤ j → m'.1 2 j = m.1 2 j) ∧ ∀ j, i ≤ j → j < c → m'.1 2 (8 * k + j) = m.1 17 j := by
  intro r
  induction r with
  | zero =>
    intro i f m hi hf h24
    obtain ⟨f, rfl⟩ : ∃ g, f = g + 1 := ⟨f - 1, by omega⟩
    exact ⟨m, by rw [cz_lp3_s, l_MO_body_122, h24, if_pos (nI_le (by omega) (by omega))], fun _ _ => rfl, fun _ _ => rfl, fun j h1 h2 => by omega⟩
  | succ r ih =>
    intro i f m hi hf h24
    obtain ⟨f, rfl⟩ : ∃ g, f = g + 1 := ⟨f - 1, by omega⟩
    obtain ⟨m', e1, e2, e3, e4⟩ := ih (i + 1) f (cz_i m 2 (8 * k + i) (m.1 17 i)) (by omega) (by omega) (by rw [pi_row _ _ _ _ (by decide)]; exact h24)
    refine ⟨m', ?_, fun x hx => by rw [e2 x hx, pi_row _ _ _ _ hx], fun j hj => by rw [e3 j (by omega), pi_get, if_neg (by omega)], fun j h1 h2 => ?_⟩
    · rw [cz_lp3_s, l_MO_body_122, h24, if_neg (nI_ge (by omega) (by omega)), pc_in (show i < mo_ln 17 by show _ < 60; omega) (by decide), nI_clamp (show i < 2 ^ 31 by omega), show (8 : Int32) * nI k = nI (8 * k) from pk_mul 8 _, nI_add, pc_in (show 8 * k + i < mo_ln 2 by show _ < 160; omega) (by decide), nI_clamp (show 8 * k + i < 2 ^ 31 by omega), nI_1, e1]
    · by_cases e : j = i
      · subst e
        rw [e3 (8 * k + j) (by omega), pi_same]
      · rw [e4 j (by omega) h2, pi_row _ _ _ _ (by decide)]
theorem st_readBody {t p : Nat} {C m : cz_M} (h : rR t C m) (hp : p < 4) (h3 : ¬ m.1 4 p = 3) (hM : pM 4 C m) : rd t p C (f_CP_readBody C (2 + 2 * p)) (f_MO_body m (nI p)) := by
  obtain ⟨-, -, -, -, -, hM1⟩ := hM
  obtain ⟨f1, c, hc, h7, h24, hrow⟩ := hM1 rfl
  have h0 := h
  obtain ⟨n, hB, hP, hW, hG⟩ := h0
  have h20 := hB.2.1.1.2
  have pc4 : ∀ {k : Nat}, 4 ≤ k → k ≤ 12 → p < mo_ln k := fun k1 k2 => by rw [mo_ln4 k1 k2]; exact hp
  rw [f_CP_readBody, f_MO_body, pc_p hp (by omega) (by omega), pc_p hp (by omega) (by omega), pl0 (by decide), pt0, nI_clamp (show p < 2 ^ 31 by omega), ← f1]
  rcases rd_asked (hP p hp) (kc := 3) (km := 2) (Or.inr ⟨rfl, rfl⟩) (C.1 16 3) with ⟨w1, w2, w3, w4, w5, w6⟩ | ⟨w1, w2⟩
  · obtain ⟨k, k0, kn, wk⟩ := w6 rfl
    have hd := h.drop hp
    have h3' : ¬ (cz_i (cz_i m 8 p 0) 10 p 0).1 4 p = 3 := by
      rw [pi_row _ _ _ _ (by decide), pi_row _ _ _ _ (by decide)]
      exact h3
    have d9 : (cz_i (cz_i m 8 p 0) 10 p 0).1 9 p = nI k := by rw [pi_row _ _ _ _ (by decide), pi_row _ _ _ _ (by decide), ← w4, wk]
    have d24 : (cz_i (cz_i m 8 p 0) 10 p 0).1 0 24 = nI c := by rw [pi_row _ _ _ _ (by decide), pi_row _ _ _ _ (by decide), h24]
    have d17 : (cz_i (cz_i m 8 p 0) 10 p 0).1 17 = m.1 17 := by rw [pi_row _ _ _ _ (by decide), pi_row _ _ _ _ (by decide)]
    have dC16 : (cz_i C (2 + 2 * p) 5 0).1 16 = C.1 16 := pi_row _ _ _ _ (by omega)
    have dC18 : (cz_i C (2 + 2 * p) 5 0).1 18 = C.1 18 := pi_row _ _ _ _ (by omega)
    have dC19 : (cz_i C (2 + 2 * p) 5 0).1 19 = C.1 19 := pi_row _ _ _ _ (by omega)
    rw [w1, pb_i, if_neg (show ¬ (1 : Int32) = 0 by decide), f_Peer_dropRequest, pb_v, dC16, h7, wk, if_pos w2, if_pos w3, pc_k (pc4 (by omega) (by omega)) (by omega), pc_k (pc4 (by omega) (by omega)) (by omega), pc_k (pc4 (by omega) (by omega)) (by omega), d9, d24]
    generalize cz_i C (2 + 2 * p) 5 0 = C1 at hd dC16 dC18 dC19 ⊢
    generalize cz_i (cz_i m 8 p 0) 10 p 0 = m1 at hd h3' d9 d24 d17 ⊢
    have hd' := hd
    obtain ⟨n1, hB1, hP1, hW1, hG1⟩ := hd'
    have h201 := hB1.2.1.1.2
    have en : n1 = n := by
      have e := hB1.1
      rw [dC19, hB.1] at e
      exact ((nI_eq (by omega) (by omega)).mp e).symm
    subst en
    have hmx : mx (C1.1 18) 0 c (nI c) = mx (m1.1 17) 0 c (nI c) := mx_cong c 0 _ (fun j _ hj => by rw [dC18, d17]; exact (hrow j (by omega)).1)
    have hr4 : m1.1 1 (5 * k + 4) = C1.1 (69 + k) 4 := hB1.2.2.2.1 k 4 kn (by omega)
    have hbm : cz_lp4 (l_MO_body_61 (nI p)) 100 m1 (nI k) (nI c) 0 = b_MO_body_88 (nI p) m1 (nI k) (mx (m1.1 17) 0 c (nI c)) := bm_lp (nI p) hc c 0 100 (nI c) m1 (by omega) (by omega) d24
    rw [f_CP_rootOf, cp_f_mix _ (show c ≤ cp_ln 18 from hc) (by decide), pb_i, pb_i, pc_in (show k < 20 by omega) (by decide), nI_clamp (show k < 2 ^ 31 by omega), pl4 (by rw [cp_ln69 (by omega)]; decide), pt4, hmx, hbm, b_MO_body_88, show (5 : Int32) * nI k = nI (5 * k) from pk_mul 5 _, show nI (5 * k) + (4 : Int32) = nI (5 * k + 4) from nI_add _ _, pc_in (show 5 * k + 4 < mo_ln 1 by show _ < 100; omega) (by decide), nI_clamp (show 5 * k + 4 < 2 ^ 31 by omega), hr4]
    by_cases er : mx (m1.1 17) 0 c (nI c) = C1.1 (69 + k) 4
    · obtain ⟨C2, g1, g2, g3, g4, g5, g6, g7⟩ := cp_setBody (k := k) (q := 18) (s := c) hB1 k0 kn hc (show c ≤ cp_ln 18 from hc)
      obtain ⟨m2, y1, y2, y3, y4⟩ := bc_lp (k := k) (c := c) (nI p) (by omega) hc c 0 100 (cz_i m1 3 k (nI c)) (by omega) (by omega) (by rw [pi_row _ _ _ _ (by decide)]; exact d24)
      have y1 : cz_lp3 (l_MO_body_122 (nI p)) 100 (cz_i m1 3 k (nI c)) (nI k) 0 = b_MO_body_156 (nI p) m2 := y1
      have hbd : ∀ i, i < c → C2.1 (89 + k) i = C.1 18 i := fun i hi => by rw [g4 i hi, dC18]
      have hb : rB n1 C2 m2 := by
        refine hB1.body (k := k) (s := c) k0 kn hc g2 g5 g6 g7 (fun i hi => ?_) ?_ ?_ (fun x hx => ?_) ?_ (fun x hx => ?_) (fun i hi => ?_)
        · rw [hbd i hi]
          exact (hrow i hi).2
        · rw [y2 0 (by decide), pi_row _ _ _ _ (by decide)]
        · rw [y2 1 (by decide), pi_row _ _ _ _ (by decide)]
        · rw [y2 3 (by decide), pi_get, if_neg (fun z => hx z.2)]
        · rw [y2 3 (by decide), pi_same]
        · rw [y3 x (by omega), pi_row _ _ _ _ (by decide)]
        · rw [y4 i (by omega) hi, pi_row _ _ _ _ (by decide), hbd i hi, d17]
          exact (hrow i hi).1.symm
      obtain ⟨s1, s2, s3⟩ := rR.store hP1 hW1 hG1 hb (Nat.le_refl _) (fun x hx => g2 x (by omega) (by omega) (by omega)) g3 (fun j hj => by rw [y2 0 (by decide), pi_row _ _ _ _ (by decide)]) (fun x x1 x2 => by rw [y2 x (by omega), pi_row _ _ _ _ (by omega)])
      have hR2 : rR t C2 m2 := ⟨n1, hb, s1, s2, s3⟩
      obtain ⟨C3, m3, z1, z2, z3, z4⟩ := hR2.merit hp
      rw [if_pos er, if_pos er, dC16, h7, g1, pb_v, z1, pb_v, pc_in (show k < mo_ln 3 by show _ < 20; omega) (by decide), nI_clamp (show k < 2 ^ 31 by omega), d24, y1, b_MO_body_156, z2, pb_i, if_pos (Or.inr rfl)]
      exact Or.inl ⟨C3, m3, rfl, rfl, z3, by rw [z4, g2 16 (by omega) (by omega) (by omega), dC16]⟩
    · rw [if_neg er, if_neg er]
      exact rd.bad (k := 2) hd hp h3' (by omega) (by omega) rfl rfl
  · rw [w1, pb_i, if_pos rfl]
    refine rd.bad (k := 1) h hp h3 (by omega) (by omega) rfl ?_
    rcases w2 with w2 | w2
    · rw [if_neg w2, b_MO_body_25]
      rfl
    · by_cases w3 : m.1 8 p = 2
      · rw [if_pos w3, if_neg w2, b_MO_body_25]
        rfl
      · rw [if_neg w3, b_MO_body_25]
        rfl
theorem rd_leave {t p : Nat} {C m : cz_M} (h : rR t C m) (hp : p < 4) (h3 : ¬ m.1 4 p = 3) : ∃ C' m', f_Peer_leave C (2 + 2 * p) 0 = some C' ∧ f_MO_leave m (nI p) 0 = some m' ∧ rR t C' m' ∧ C'.1 16 = C.1 16 :=
  ⟨_, _, cp_leave _ _ _, mo_leave _ hp _, h.leave (st := 0) hp (by omega) (Or.inr h3), by rw [pi_row _ _ _ _ (by omega), pi_row _ _ _ _ (by omega), pi_row _ _ _ _ (by omega)]⟩
theorem rd_greet {t p : Nat} {C m : cz_M} (h : rR t C m) (hp : p < 4) (h1 : m.1 4 p = 1) (hM : pM 0 C m) : rd t p C (cz_bv (f_CP_greet C (2 + 2 * p)) (fun M => some (0, M))) (f_MO_greet m (nI p) 0) := by
  obtain ⟨-, hM1, -⟩ := hM
  obtain ⟨f1, f2⟩ := hM1 rfl
  have h0 := h
  obtain ⟨n, hB, hP, hW, hG⟩ := h0
  have g1 := hG.1
  have h3 : ¬ m.1 4 p = 3 := by
    rw [h1]
    decide
  rw [f_CP_greet, f_MO_greet, if_pos (show (0 : Int32) = 0 from rfl), pl0 (by decide), pt0, f1, g1]
  by_cases e : m.1 16 0 = m.1 0 0
  · rw [if_pos e, if_pos e, pc_p hp (by omega) (by omega), pl1 (by decide), pc_p hp (by omega) (by omega), nI_clamp (show p < 2 ^ 31 by omega), pt1, pb_v, pi_row _ _ _ _ (show (16 : Nat) ≠ 2 + 2 * p by omega), pi_row _ _ _ _ (show (16 : Nat) ≠ 4 by decide), f2]
    obtain ⟨⟨st, s, s1, s2, s3, s4, s5, s6, s7⟩, q2, q3, -⟩ := hP p hp
    have s8 : 4 ≤ s := by
      rcases s7 with s7 | s7
      · rw [s7] at s3
        exact absurd s3 h3
      · exact s7
    refine Or.inl ⟨_, _, rfl, rfl, h.fld hp (fun k hk => by rw [pi_row _ _ _ _ hk, pi_row _ _ _ _ hk]) rfl (fun j hj => by rw [pi_get, if_neg (by omega), pi_get, if_neg (by omega)]) (fun k hk => by rw [pi_row _ _ _ _ (by omega), pi_row _ _ _ _ (by omega)]) (fun k j hj => by rw [pi_get, if_neg (fun z => hj z.2), pi_get, if_neg (fun z => hj z.2)]) ⟨2, s, by omega, ?_, ?_, s4, ?_, ?_, Or.inr s8⟩ ?_ ?_ (Or.inr ?_), ?_⟩
    · rw [pi_get, if_neg (by omega), pi_same]
      rfl
    · rw [pi_row _ _ _ _ (by decide), pi_same]
      rfl
    · rw [pi_get, if_neg (by omega), pi_get, if_neg (by omega), s5]
    · rw [pi_row _ _ _ _ (by decide), pi_row _ _ _ _ (by decide), s6]
    · rw [pi_same, pi_same]
    · rw [pi_get, if_neg (by omega), pi_get, if_neg (by omega), pi_row _ _ _ _ (by decide), pi_row _ _ _ _ (by decide), q3]
    · rw [h1]
      decide
    · rw [pi_row _ _ _ _ (by omega), pi_row _ _ _ _ (by omega)]
  · obtain ⟨C2, m2, l1, l2, l3, l4⟩ := rd_leave h hp h3
    rw [if_neg e, if_neg e, l1, pb_v, pb_v, l2, pb_v]
    exact Or.inl ⟨C2, m2, rfl, rfl, l3, l4⟩
theorem rd_end {t p v : Nat} {C : cz_M} {X Y : Option (Int32 × cz_M)} (a : Int32) (hr : rd t p C X Y) (h0 : C.1 16 0 = nI v) : ∃ r C' m', cz_bi X (fun r60 M60 => b_CP_receive_71 a M60 (2 + 2 * p) r60) = some (r, C') ∧ cz_bi Y (fun r78 M78 => b_MO_receive_90 a M78 (nI v) r78) = some (r, m') ∧ rR t C' m' := by
  rcases hr with ⟨C', m', x1, x2, x3, x4⟩ | ⟨k, C', C'', m', k0, k4, x1, x2, x3, x4⟩
  · rw [x1, x2, pb_i, pb_i, b_CP_receive_71, b_MO_receive_90, b_MO_receive_91, if_pos (show (0 : Int32) = 0 from rfl), if_neg (show ¬ (1 : Int32) = 0 by decide), x4, h0]
    exact ⟨_, _, _, rfl, rfl, x3⟩
  · rw [x1, x3, pb_i, pb_i, b_CP_receive_71, b_MO_receive_90, b_MO_receive_91, if_neg (nI_ne0 (by omega) (by omega)), if_pos (show (0 : Int32) = 0 from rfl), x2, pb_v]
    exact ⟨_, _, _, rfl, rfl, x4⟩
theorem rd.bi {t p : Nat} {C : cz_M} {X Y : Option (Int32 × cz_M)} (h : rd t p C X Y) : rd t p C (cz_bi X (fun r M => some (r, M))) (cz_bi Y (fun r M => if r = 0 ∨ r = 1 then some (r, M) else none)) := by
  rcases h with ⟨C', m', x1, x2, x3, x4⟩ | ⟨k, C', C'', m', k0, k4, x1, x2, x3, x4⟩
  · exact Or.inl ⟨C', m', by rw [x1, pb_i], by rw [x2, pb_i, if_pos (Or.inr rfl)], x3, x4⟩
  · exact Or.inr ⟨k, C', C'', m', k0, k4, by rw [x1, pb_i], x2, by rw [x3, pb_i, if_pos (Or.inl rfl)], x4⟩
theorem rd_hear {t p v : Nat} {C m : cz_M} (h : rR t C m) (hp : p < 4) (h3 : ¬ m.1 4 p = 3) (hv : v < 5) (hM : pM v C m) : rd t p C (f_CP_readReady C (2 + 2 * p)) (f_MO_hear m (nI p) (nI v)) := by
  have e0 := hM.1
  have : v = 0 ∨ v = 1 ∨ v = 2 ∨ v = 3 ∨ v = 4 := by omega
  rw [f_CP_readReady, f_MO_hear, e0]
  rcases this with rfl | rfl | rfl | rfl | rfl
  · rw [if_neg (show ¬ nI 0 = 1 by decide), if_neg (show ¬ nI 0 = 2 by decide), if_neg (show ¬ nI 0 = 3 by decide), if_neg (show ¬ nI 0 = 4 by decide), if_neg (show ¬ nI 0 = 5 by decide), if_pos (show nI 0 = 0 from rfl)]
    exact rd.bad (k := 2) h hp h3 (by omega) (by omega) rfl rfl
  · obtain ⟨C', m', x1, x2, x3, x4⟩ := st_sendHeaders h hp hM
    have x2 : b_MO_hear_44 (nI p) (nI 1) m 2 = some (1, m') := x2
    rw [if_pos (show nI 1 = 1 from rfl), x1, pb_v, if_neg (show ¬ nI 1 = 0 by decide), if_neg (show ¬ nI 1 = 2 by decide), if_neg (show ¬ nI 1 = 4 by decide), if_pos (show nI 1 = 1 from rfl), x2]
    exact Or.inl ⟨C', m', rfl, rfl, x3, x4⟩
  · rw [if_neg (show ¬ nI 2 = 1 by decide), if_pos (show nI 2 = 2 from rfl), if_neg (show ¬ nI 2 = 0 by decide), if_pos (show nI 2 = 2 from rfl)]
    exact (st_readHeaders h hp h3 hM).bi
  · obtain ⟨C', m', x1, x2, x3, x4⟩ := st_sendBody h hp hM
    have x2 : b_MO_hear_44 (nI p) (nI 3) m 4 = some (1, m') := x2
    rw [if_neg (show ¬ nI 3 = 1 by decide), if_neg (show ¬ nI 3 = 2 by decide), if_pos (show nI 3 = 3 from rfl), x1, pb_v, if_neg (show ¬ nI 3 = 0 by decide), if_neg (show ¬ nI 3 = 2 by decide), if_neg (show ¬ nI 3 = 4 by decide), if_neg (show ¬ nI 3 = 1 by decide), x2]
    exact Or.inl ⟨C', m', rfl, rfl, x3, x4⟩
  · rw [if_neg (show ¬ nI 4 = 1 by decide), if_neg (show ¬ nI 4 = 2 by decide), if_neg (show ¬ nI 4 = 3 by decide), if_pos (show nI 4 = 4 from rfl), if_neg (show ¬ nI 4 = 0 by decide), if_neg (show ¬ nI 4 = 2 by decide), if_pos (show nI 4 = 4 from rfl)]
    exact (st_readBody h hp h3 hM).bi
theorem st_receive {t : Nat} {C m : cz_M} (h : rR t C m) (a : Int32) : ∃ r C' m', f_CP_receive C a = some (r, C') ∧ f_MO_receive m a = some (r, m') ∧ rR t C' m' := by
  have h0 := h
  obtain ⟨n, hB, hP, hW, hG⟩ := h0
  rcases pk_ix a (n := 4) (by decide) with h1 | h1 | ⟨p, hp, rfl⟩
  · exact ⟨-1, C, m, by rw [f_CP_receive, pe_no (Or.inl h1), pb_i, if_pos rfl], by rw [f_MO_receive, pe_no2 (Or.inl h1), pb_i, if_pos rfl], h⟩
  · exact ⟨-1, C, m, by rw [f_CP_receive, pe_no (Or.inr h1), pb_i, if_pos rfl], by rw [f_MO_receive, pe_no2 (Or.inr h1), pb_i, if_pos rfl], h⟩
  · obtain ⟨⟨st, s, s1, s2, s3, s4, s5, s6, s7⟩, -⟩ := hP p hp
    have pc4 : p < mo_ln 4 := by
      rw [mo_ln4 (by omega) (by omega)]
      exact hp
    by_cases e : st = 1 ∨ st = 2
    · have hT : f_Peer_isTalking C (2 + 2 * p) = some (1, C) := by
        rw [f_Peer_isTalking, s2, b_Peer_isTalking_16]
        rcases e with rfl | rfl
        · rw [if_pos (show nI 1 = 1 from rfl)]
        · rw [if_neg (show ¬ nI 2 = 1 by decide), if_pos (show nI 2 = 2 from rfl)]
      have hn0 : ¬ m.1 4 p = 0 := by
        rw [s3]
        rcases e with rfl | rfl <;> decide
      have hn3 : ¬ m.1 4 p = 3 := by
        rw [s3]
        rcases e with rfl | rfl <;> decide
      rw [f_CP_receive, pe_is hp, pb_i, if_neg (show ¬ (1 : Int32) = 0 by decide), pc_in hp (by decide), nI_clamp (show p < 2 ^ 31 by omega), hT, pb_i, if_neg (show ¬ (1 : Int32) = 0 by decide), pc_k hp (by omega), f_MO_receive, pe_is2 hp, pb_i, if_neg (show ¬ (1 : Int32) = 0 by decide), pc_p hp (by omega) (by omega), nI_clamp (show p < 2 ^ 31 by omega), if_neg hn0, pc_k pc4 (by omega), if_neg hn3]
      rcases st_parse h with ⟨v, C1, m1, v5, y1, y2, y3, y4, y5⟩ | ⟨C1, m1, y1, y2, y3, y4⟩
      · have h1 := h.e y3 y4
        have s2' : C1.1 (2 + 2 * p) 0 = nI st := by rw [y3.1 _ (by omega), s2]
        have s3' : m1.1 4 p = nI st := by rw [y4.2 4 (by omega) (by omega), s3]
        have h3' : ¬ m1.1 4 p = 3 := by
          rw [s3', ← s3]
          exact hn3
        have hv := y5.1
        rw [y1, pb_i, if_neg (show ¬ (1 : Int32) = 0 by decide), s2', y2, pb_i, if_pos (nI_pos' (by omega))]
        by_cases ev : v = 5
        · subst ev
          obtain ⟨C2, m2, l1, l2, l3, l4⟩ := rd_leave h1 hp h3'
          have hX : f_CP_readGreeting C1 (2 + 2 * p) = some (0, C2) := by rw [f_CP_readGreeting, hv, if_neg (show ¬ nI 5 = 0 by decide), if_pos (show nI 5 = 5 from rfl), l1, pb_v]
          have hY : f_CP_readReady C1 (2 + 2 * p) = some (0, C2) := by rw [f_CP_readReady, hv, if_neg (show ¬ nI 5 = 1 by decide), if_neg (show ¬ nI 5 = 2 by decide), if_neg (show ¬ nI 5 = 3 by decide), if_neg (show ¬ nI 5 = 4 by decide), if_pos (show nI 5 = 5 from rfl), l1, pb_v]
          rw [if_pos (show nI 5 = 5 from rfl), l2, pb_v, b_MO_receive_91, if_neg (show ¬ (1 : Int32) = 0 by decide), hX, hY, pb_i, ite_self, b_CP_receive_71, if_pos (show (0 : Int32) = 0 from rfl), l4, hv]
          exact ⟨nI 5, C2, m2, rfl, rfl, l3⟩
        · rw [if_neg (show ¬ nI v = 5 from fun z => ev ((nI_eq (b := 5) (by omega) (by omega)).mp z)), pc_k pc4 (by omega), s3']
          rcases e with rfl | rfl
          · rw [if_pos (show nI 1 = 1 from rfl), if_pos (show nI 1 = 1 from rfl)]
            refine rd_end (nI p) (C := C1) ?_ hv
            by_cases v0 : v = 0
            · subst v0
              rw [f_CP_readGreeting, hv, if_pos (show nI 0 = 0 from rfl)]
              exact rd_greet h1 hp s3' y5
            · refine rd.bad (k := 2) h1 hp h3' (by omega) (by omega) ?_ ?_
              · rw [f_CP_readGreeting, hv, if_neg (nI_ne0 (by omega) (by omega)), if_neg (show ¬ nI v = 5 from fun z => ev ((nI_eq (b := 5) (by omega) (by omega)).mp z))]
                rfl
              · rw [f_MO_greet, if_neg (nI_ne0 (by omega) (by omega))]
                rfl
          · rw [if_neg (show ¬ nI 2 = 1 by decide), if_neg (show ¬ nI 2 = 1 by decide)]
            exact rd_end (nI p) (C := C1) (rd_hear h1 hp h3' (by omega) y5) hv
      · have h1 := h.e y3 y4
        obtain ⟨C2, m2, z1, z2, z3⟩ := h1.fault (c := 4) hp (by omega) (by rw [y4.2 4 (by omega) (by omega)]; exact hn3)
        have z1 : f_Peer_fault C1 (2 + 2 * p) 4 = some C2 := z1
        have z2 : f_MO_fault m1 (nI p) 4 = some (0, m2) := z2
        rw [y1, pb_i, if_pos (show (0 : Int32) = 0 from rfl), z1, pb_v, y2, pb_i, if_neg (show ¬ (0 : Int32) ≤ -1 by decide), z2, pb_i]
        exact ⟨_, _, _, rfl, rfl, z3⟩
    · have hT : f_Peer_isTalking C (2 + 2 * p) = some (0, C) := by
        rw [f_Peer_isTalking, s2, if_neg (show ¬ nI st = 1 from fun z => e (Or.inl ((nI_eq (b := 1) (by omega) (by omega)).mp z))), if_neg (show ¬ nI st = 2 from fun z => e (Or.inr ((nI_eq (b := 2) (by omega) (by omega)).mp z)))]
      have e2 : st = 0 ∨ st = 3 := by omega
      rw [f_CP_receive, pe_is hp, pb_i, if_neg (show ¬ (1 : Int32) = 0 by decide), pc_in hp (by decide), nI_clamp (show p < 2 ^ 31 by omega), hT, pb_i, if_pos (show (0 : Int32) = 0 from rfl), f_MO_receive, pe_is2 hp, pb_i, if_neg (show ¬ (1 : Int32) = 0 by decide), pc_p hp (by omega) (by omega), nI_clamp (show p < 2 ^ 31 by omega), s3]
      rcases e2 with rfl | rfl
      · rw [if_pos (show nI 0 = 0 from rfl)]
        exact ⟨_, _, _, rfl, rfl, h⟩
      · rw [if_neg (show ¬ nI 3 = 0 by decide), pc_k pc4 (by omega), if_pos (show nI 3 = 3 from rfl)]
        exact ⟨_, _, _, rfl, rfl, h⟩
