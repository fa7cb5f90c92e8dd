/-! PURE: headers that come -/
theorem pn_merit : ∀ s, s ≤ 10 → ∃ s', s ≤ s' ∧ s' ≤ 10 ∧ cz_min (nI s - nI 7 + 1) 3 = nI s' - nI 7 ∧ (((3 : Int32) ≤ nI s - nI 7 ∧ (3 : Int32) = nI s' - nI 7) ∨ (¬ (3 : Int32) ≤ nI s - nI 7 ∧ nI s - nI 7 + 1 = nI s' - nI 7)) := by
  intro s hs
  refine ⟨if s = 10 then 10 else s + 1, ?_, ?_, ?_⟩
  · split <;> omega
  · split <;> omega
  · have : s = 0 ∨ s = 1 ∨ s = 2 ∨ s = 3 ∨ s = 4 ∨ s = 5 ∨ s = 6 ∨ s = 7 ∨ s = 8 ∨ s = 9 ∨ s = 10 := by omega
    rcases this with rfl | rfl | rfl | rfl | rfl | rfl | rfl | rfl | rfl | rfl | rfl <;> decide
/-- fields of one peer are changed, its outbox and request stay -/
theorem rR.fld {t p : Nat} {C m C' m' : cz_M} (h : rR t C m) (hp : p < 4) (c1 : ∀ k, k ≠ 2 + 2 * p → C'.1 k = C.1 k) (c2 : C'.2 = C.2) (c3 : ∀ j, 4 ≤ j → C'.1 (2 + 2 * p) j = C.1 (2 + 2 * p) j) (m1 : ∀ k, k < 4 ∨ 8 ≤ k → m'.1 k = m.1 k) (m2 : ∀ k j, j ≠ p → m'.1 k j = m.1 k j) (hs : ∃ st s, st < 4 ∧ C'.1 (2 + 2 * p) 0 = nI st ∧ m'.1 4 p = nI st ∧ s ≤ 10 ∧ C'.1 (2 + 2 * p) 1 = nI s - nI 7 ∧ m'.1 5 p = nI s - nI 7 ∧ (st = 3 ∨ 4 ≤ s)) (hb : C'.1 (2 + 2 * p) 2 = m'.1 6 p) (hb3 : C'.1 (2 + 2 * p) 3 = m'.1 7 p) (h4 : m'.1 4 p = m.1 4 p ∨ ¬ m.1 4 p = 2) : rR t C' m' := by
  obtain ⟨n, hB, hP, hW, hG⟩ := h
  refine rR.peer hp hB hP hW hG c1 c2 (m1 0 (by omega)) (fun k a b => m1 k (by omega)) (fun k j a b hj => m2 k j hj) ((hP p hp).set hp c1 c2 (m1 13 (by omega)) (m1 14 (by omega)) (c3 9 (by omega)) (by rw [m1 12 (by omega)]) hs hb hb3 ?_ ?_)
  · rw [c3 5 (by omega), m1 10 (by omega)]
    exact (hP p hp).2.2.2.1
  · obtain ⟨-, -, -, -, q5, -⟩ := hP p hp
    unfold rQ at q5 ⊢
    rw [c3 4 (by omega), c3 5 (by omega), c3 6 (by omega), c3 7 (by omega), m1 8 (by omega), m1 9 (by omega), m1 11 (by omega)]
    rcases q5 with q5 | ⟨q5, q6⟩
    · exact Or.inl q5
    · rcases h4 with h4 | h4
      · exact Or.inr ⟨by rw [h4]; exact q5, q6⟩
      · exact absurd q5 h4
theorem rR.merit {t p : Nat} {C m : cz_M} (h : rR t C m) (hp : p < 4) : ∃ C' m', f_Peer_merit C (2 + 2 * p) = some C' ∧ f_MO_merit m (nI p) = some (1, m') ∧ rR t C' m' ∧ C'.1 16 = C.1 16 := by
  have h0 := h
  obtain ⟨n, hB, hP, hW, hG⟩ := h0
  obtain ⟨⟨st, s, s1, s2, s3, s4, s5, s6, s7⟩, q2, q3, -⟩ := hP p hp
  obtain ⟨s', t1, t2, t3, t4⟩ := pn_merit s s4
  have hr : f_MO_merit m (nI p) = some (1, cz_i m 5 p (nI s' - nI 7)) := by
    rw [f_MO_merit, pc_p hp (by omega) (by omega), pc_p hp (by omega) (by omega), pc_p hp (by omega) (by omega), nI_clamp (show p < 2 ^ 31 by omega), s6]
    rcases t4 with ⟨t4, t5⟩ | ⟨t4, t5⟩
    · rw [if_pos t4, t5]
    · rw [if_neg t4, pc_k (show p < mo_ln 5 by rw [mo_ln4 (by omega) (by omega)]; exact hp) (by omega), t5]
  refine ⟨cz_i C (2 + 2 * p) 1 (nI s' - nI 7), cz_i m 5 p (nI s' - nI 7), by rw [f_Peer_merit, s5, t3], hr, ?_, by rw [pi_row _ _ _ _ (by omega)]⟩
  refine h.fld hp (fun k hk => pi_row _ _ _ _ hk) rfl (fun j hj => by rw [pi_get, if_neg (by omega)]) (fun k hk => pi_row _ _ _ _ (by omega)) (fun k j hj => by rw [pi_get, if_neg (fun z => hj z.2)]) ⟨st, s', s1, ?_, ?_, t2, pi_same _ _ _ _, pi_same _ _ _ _, by omega⟩ ?_ ?_ (Or.inl ?_)
  · rw [pi_get, if_neg (by omega), s2]
  · rw [pi_row _ _ _ _ (by decide), s3]
  · rw [pi_get, if_neg (by omega), pi_row _ _ _ _ (by decide), q2]
  · rw [pi_get, if_neg (by omega), pi_row _ _ _ _ (by decide), q3]
  · rw [pi_row _ _ _ _ (by decide)]
/-- read without a fault, or with one that is of the same size -/
def rd (t p : Nat) (C : cz_M) (X Y : Option (Int32 × cz_M)) : Prop := (∃ C' m', X = some (0, C') ∧ Y = some (1, m') ∧ rR t C' m' ∧ C'.1 16 = C.1 16) ∨ (∃ k C' C'' m', 0 < k ∧ k ≤ 4 ∧ X = some (nI k, C') ∧ f_Peer_fault C' (2 + 2 * p) (nI k) = some C'' ∧ Y = some (0, m') ∧ rR t C'' m')
theorem rd.bad {t p k : Nat} {C C' m : cz_M} {X Y : Option (Int32 × cz_M)} (h : rR t C' m) (hp : p < 4) (h3 : ¬ m.1 4 p = 3) (k0 : 0 < k) (k4 : k ≤ 4) (hX : X = some (nI k, C')) (hY : Y = cz_bi (f_MO_fault m (nI p) (nI k)) (fun r M => if r = 0 ∨ r = 1 then some (r, M) else none)) : rd t p C X Y := by
  obtain ⟨C'', m', f1, f2, f3⟩ := h.fault (c := k) hp k4 h3
  exact Or.inr ⟨k, C', C'', m', k0, k4, hX, f1, by rw [hY, f2, pb_i, if_pos (Or.inl rfl)], f3⟩
theorem th_lp {t p c : Nat} (hp : p < 4) (hc : c ≤ 8) : ∀ (r i f g n : Nat) (v2 : Int32) (C m : cz_M), i + r = c → r < f → r + 1 < g → rB n C m → (∀ p, p < 4 → rP n t C m p (2 + 2 * p)) → rW C m → rG t C m → C.1 16 7 = nI c → m.1 0 24 = nI (5 * c) → (∀ i j, i < c → j < 5 → C.1 (61 + i) j = m.1 17 (5 * i + j) ∧ 0 ≤ C.1 (61 + i) j) → (0 < i → v2 = zm_h (C.1 (61 + (i - 1)))) → ∃ C' m', rR t C' m' ∧ C'.1 16 = C.1 16 ∧ m'.1 4 = m.1 4 ∧ ((cz_lp2 l_CP_takeHeaders_2 f C (nI i) = some (1, C') ∧ cz_lp4 (l_MO_taken_7 (nI p)) g m v2 1 (nI (5 * i)) = b_MO_taken_104 (nI p) m') ∨ (cz_lp2 l_CP_takeHeaders_2 f C (nI i) = some (0, C') ∧ cz_lp4 (l_MO_taken_7 (nI p)) g m v2 1 (nI (5 * i)) = b_MO_taken_63 (nI p) m')) := by
  intro r
  induction r with
  | zero =>
    intro i f g n v2 C m hi hf hg hB hP hW hG h7 h24 hrow hv2
    obtain ⟨f, rfl⟩ : ∃ g, f = g + 1 := ⟨f - 1, by omega⟩
    obtain ⟨g, rfl⟩ : ∃ f, g = f + 1 := ⟨g - 1, by omega⟩
    refine ⟨C, m, ⟨n, hB, hP, hW, hG⟩, rfl, rfl, Or.inl ⟨?_, ?_⟩⟩
    · rw [cz_lp2_s, l_CP_takeHeaders_2, h7, if_pos (nI_le (by omega) (by omega))]
    · rw [cz_lp4_s, l_MO_taken_7, h24, if_pos (nI_le (by omega) (by omega))]
  | succ r ih =>
    intro i f g n v2 C m hi hf hg hB hP hW hG h7 h24 hrow hv2
    obtain ⟨f, rfl⟩ : ∃ g, f = g + 1 := ⟨f - 1, by omega⟩
    obtain ⟨g, rfl⟩ : ∃ f, g = f + 1 := ⟨g - 1, by omega⟩
    have h20 := hB.2.1.1.2
    have hR : rR t C m := ⟨n, hB, hP, hW, hG⟩
    have hri : ∀ j, j < 5 → m.1 17 (5 * i + j) = C.1 (61 + i) j := fun j hj => ((hrow i j (by omega) hj).1).symm
    have hln : cp_ln (61 + i) = 5 := cp_ln61 (by omega)
    have hh : f_MO_hash m 0 (nI (5 * i)) = some (zm_h (C.1 (61 + i)), m) := mo_hash00 hri (by omega) hB
    have h5 : nI (5 * i) + (5 : Int32) = nI (5 * (i + 1)) := by
      rw [show (5 : Int32) = nI 5 from rfl, nI_add, Nat.mul_add]
    rw [cz_lp2_s, l_CP_takeHeaders_2, h7, if_neg (nI_ge (by omega) (by omega)), pc_in (show i < 8 by omega) (by decide), nI_clamp (show i < 2 ^ 31 by omega), cp_hashOf (by omega) (by omega), pb_i, cp_isKnown hB.1 h20, pb_i, cz_lp4_s, l_MO_taken_7, h24, if_neg (nI_ge (by omega) (by omega)), if_neg (show ¬ (1 : Int32) = 0 by decide), hh, pb_i, mo_ha hB.2.1 hB.2.2, pb_i]
    rcases bk_find_spec (ha := C.1 21) (h := zm_h (C.1 (61 + i))) n 0 with ⟨hu, -⟩ | ⟨j, -, j2, -, j4⟩
    · obtain ⟨gg, g1, g2, g3⟩ := gd (q := 61 + i) (i := 5 * i) hB (by omega) hri (by omega)
      rw [hu, if_pos (show (-1 : Int32) = -1 from rfl), if_pos (show (0 : Int32) = 0 from rfl), if_neg (show ¬ (0 : Int32) ≤ -1 by decide), g2, pb_i]
      have hbad : ∀ (X Y : Option (Int32 × cz_M)), X = some (0, C) → Y = b_MO_taken_63 (nI p) m → ∃ C' m', rR t C' m' ∧ C'.1 16 = C.1 16 ∧ m'.1 4 = m.1 4 ∧ ((X = some (1, C') ∧ Y = b_MO_taken_104 (nI p) m') ∨ (X = some (0, C') ∧ Y = b_MO_taken_63 (nI p) m')) := fun X Y h1 h2 => ⟨C, m, hR, rfl, rfl, Or.inr ⟨h1, h2⟩⟩
      have hlink : ∃ l : Int32, (l = 0 ∨ l = 1) ∧ (if nI i = 0 then (b_CP_takeHeaders_64 (cz_lp2 l_CP_takeHeaders_2 f) C (nI i) (61 + i)) else ((if (0 : Int32) < 0 ∨ cp_ln (61 + i) ≤ (0 : Int32).toNatClampNeg then none else (if (nI i - (1 : Int32)) < 0 ∨ 8 ≤ (nI i - (1 : Int32)).toNatClampNeg then none else (cz_bi (f_CP_hashOf C (61 + (nI i - (1 : Int32)).toNatClampNeg)) (fun r58 M58 => (if (C.1 (61 + i) (0 : Int32).toNatClampNeg) = r58 then (b_CP_takeHeaders_64 (cz_lp2 l_CP_takeHeaders_2 f) M58 (nI i) (61 + i)) else (b_CP_takeHeaders_69 (cz_lp2 l_CP_takeHeaders_2 f) M58 (nI i) (61 + i) (0 : Int32))))))))) = b_CP_takeHeaders_69 (cz_lp2 l_CP_takeHeaders_2 f) C (nI i) (61 + i) l ∧ (if nI (5 * i) ≤ 0 then (b_MO_taken_70 (nI p) (cz_lp4 (l_MO_taken_7 (nI p)) g) m (nI (5 * i)) (zm_h (C.1 (61 + i)))) else ((if nI (5 * i) < 0 ∨ mo_ln 17 ≤ (nI (5 * i)).toNatClampNeg then none else (if (m.1 17 (nI (5 * i)).toNatClampNeg) = v2 then (b_MO_taken_70 (nI p) (cz_lp4 (l_MO_taken_7 (nI p)) g) m (nI (5 * i)) (zm_h (C.1 (61 + i)))) else (b_MO_taken_63 (nI p) m))))) = if l = 0 then b_MO_taken_63 (nI p) m else b_MO_taken_70 (nI p) (cz_lp4 (l_MO_taken_7 (nI p)) g) m (nI (5 * i)) (zm_h (C.1 (61 + i))) := by
        by_cases ei : i = 0
        · subst ei
          exact ⟨1, Or.inr rfl, by rw [if_pos nI_0, b_CP_takeHeaders_64], by rw [if_pos (by decide), if_neg (by decide)]⟩
        · have e1 : nI i - (1 : Int32) = nI (i - 1) := pk_sub (b := 1) (by omega)
          have h0 := hri 0 (by omega)
          rw [Nat.add_zero] at h0
          rw [if_neg (nI_ne0 (by omega) (by omega)), pl0 (by omega), pt0, e1, pc_in (show i - 1 < 8 by omega) (by decide), nI_clamp (show i - 1 < 2 ^ 31 by omega), cp_hashOf (by rw [cp_ln61 (by omega)]; omega) (by rw [cp_ln61 (by omega)]; omega), pb_i, ← hv2 (by omega), if_neg (nI_nle (by omega) (by omega)), pc_in (show 5 * i < mo_ln 17 by show _ < 60; omega) (by decide), nI_clamp (show 5 * i < 2 ^ 31 by omega), h0]
          by_cases e2 : C.1 (61 + i) 0 = v2
          · rw [if_pos e2, if_pos e2]
            exact ⟨1, Or.inr rfl, by rw [b_CP_takeHeaders_64], by rw [if_neg (by decide)]⟩
          · rw [if_neg e2, if_neg e2]
            exact ⟨0, Or.inl rfl, rfl, by rw [if_pos rfl]⟩
      obtain ⟨l, l0, l1, l2⟩ := hlink
      rw [l1, l2, b_CP_takeHeaders_69]
      rcases g3 with rfl | ⟨rfl, k, w, hk, hfk, q0, q1, q2, w1, w2, q3⟩
      · rw [if_pos (show (0 : Int32) = 0 from rfl)]
        rcases l0 with rfl | rfl
        · rw [if_pos rfl]
          exact hbad _ _ rfl rfl
        · rw [if_neg (show ¬ (1 : Int32) = 0 by decide), g1, pb_i, if_pos rfl]
          exact hbad _ _ rfl rfl
      · rw [if_neg (show ¬ (1 : Int32) = 0 by decide)]
        rcases l0 with rfl | rfl
        · rw [if_pos rfl, if_pos rfl]
          exact hbad _ _ rfl rfl
        · rw [if_neg (show ¬ (1 : Int32) = 0 by decide), g1, pb_i, if_neg (show ¬ (1 : Int32) = 0 by decide), if_neg (show ¬ (1 : Int32) = 0 by decide), cp_isFull hB.1 h20, pb_i, b_MO_taken_70, hB.2.2.1]
          by_cases e20 : n = 20
          · rw [if_pos e20, if_neg (show ¬ (1 : Int32) = 0 by decide), if_pos (show (20 : Int32) ≤ nI n by rw [e20]; decide), b_MO_taken_84, if_pos rfl, b_MO_taken_95]
            obtain ⟨g, rfl⟩ : ∃ f, g = f + 1 := ⟨g - 1, by omega⟩
            refine ⟨C, m, hR, rfl, rfl, Or.inl ⟨rfl, ?_⟩⟩
            rw [cz_lp4_s, l_MO_taken_7, if_pos (show (0 : Int32) = 0 from rfl)]
            by_cases z : m.1 0 24 ≤ nI (5 * i) + 5
            · rw [if_pos z]
            · rw [if_neg z]
          · rw [if_neg e20, if_pos (show (0 : Int32) = 0 from rfl), if_neg (show ¬ (20 : Int32) ≤ nI n from nI_ge (b := 20) (by omega) (by decide)), b_MO_taken_84, if_neg (show ¬ (1 : Int32) = 0 by decide)]
            obtain ⟨C1, m1, a1, a2, a3, a4, a5, a6, a7, a8, a9⟩ := rR.add (q := 61 + i) (i := 5 * i) hB hP hW hG (by omega) (by omega) (by omega) (by omega) (by omega) hri (by omega) (by omega) hk hfk q0 q1 q2 w1 w2 q3 ((hrow i 4 (by omega) (by omega)).2) hu
            rw [a1, pb_v, a2, pb_v, b_CP_takeHeaders_107, b_MO_taken_95, nI_1, h5]
            obtain ⟨C', m', y1, y2, y3, y4⟩ := ih (i + 1) f g (n + 1) (zm_h (C.1 (61 + i))) C1 m1 (by omega) (by omega) (by omega) a3 a4 a5 a6 (by rw [a7 16 (by omega)]; exact h7) (by rw [a9 24 (by omega)]; exact h24) (fun i' j' hi' hj' => by rw [a7 _ (by omega), a8 17 (by omega)]; exact hrow i' j' hi' hj') (fun _ => by rw [Nat.add_sub_cancel, a7 _ (by omega)])
            refine ⟨C', m', y1, by rw [y2, a7 16 (by omega)], by rw [y3, a8 4 (by omega)], y4⟩
    · rw [j4, if_neg (pn_m1 (by omega)), if_neg (show ¬ (1 : Int32) = 0 by decide), if_pos (nI_pos' (by omega)), b_CP_takeHeaders_107, b_MO_taken_95, nI_1, h5]
      exact ih (i + 1) f g n (zm_h (C.1 (61 + i))) C m (by omega) (by omega) (by omega) hB hP hW hG h7 h24 hrow (fun _ => by rw [Nat.add_sub_cancel])
/-- was this peer asked for it? -/
theorem rd_asked {n t p : Nat} {C m : cz_M} (h : rP n t C m p (2 + 2 * p)) {kc km : Int32} (hk : (kc = 1 ∧ km = 1) ∨ (kc = 3 ∧ km = 2)) (id : Int32) : (f_Peer_wasAsked C (2 + 2 * p) kc id = some (1, C) ∧ m.1 8 p = km ∧ m.1 10 p = id ∧ C.1 (2 + 2 * p) 6 = m.1 9 p ∧ m.1 4 p = 2 ∧ (km = 2 → ∃ k, 0 < k ∧ k < n ∧ C.1 (2 + 2 * p) 6 = nI k)) ∨ (f_Peer_wasAsked C (2 + 2 * p) kc id = some (0, C) ∧ (¬ m.1 8 p = km ∨ ¬ m.1 10 p = id)) := by
  obtain ⟨-, -, -, q4, q5, -⟩ := h
  rw [f_Peer_wasAsked]
  rcases q5 with ⟨e1, e2⟩ | ⟨e1, e2, e3, ⟨x, x1, x2, x3⟩, e4⟩
  · rw [if_pos e2]
    refine Or.inr ⟨rfl, Or.inl ?_⟩
    rw [e1]
    rcases hk with ⟨-, rfl⟩ | ⟨-, rfl⟩ <;> decide
  · rw [if_neg (show ¬ C.1 (2 + 2 * p) 5 = 0 by rw [x3]; exact nI_ne0 (by omega) (by omega)), q4]
    by_cases ei : m.1 10 p = id
    · rw [if_pos ei]
      rcases hk with ⟨rfl, rfl⟩ | ⟨rfl, rfl⟩
      · rcases e4 with ⟨k1, k2⟩ | ⟨k1, k2, k3⟩
        · rw [k2, if_pos rfl]
          exact Or.inl ⟨rfl, k1, ei, e2, e1, fun z => absurd z (by decide)⟩
        · rw [k2, if_neg (by decide)]
          exact Or.inr ⟨rfl, Or.inl (by rw [k1]; decide)⟩
      · rcases e4 with ⟨k1, k2⟩ | ⟨k1, k2, k3⟩
        · rw [k2, if_neg (by decide)]
          exact Or.inr ⟨rfl, Or.inl (by rw [k1]; decide)⟩
        · rw [k2, if_pos rfl]
          exact Or.inl ⟨rfl, k1, ei, e2, e1, fun _ => k3⟩
    · rw [if_neg ei]
      exact Or.inr ⟨rfl, Or.inr ei⟩
theorem st_readHeaders {t p : Nat} {C m : cz_M} (h : rR t C m) (hp : p < 4) (h3 : ¬ m.1 4 p = 3) (hM : pM 2 C m) : rd t p C (f_CP_readHeaders C (2 + 2 * p)) (f_MO_headers m (nI p)) := by
  obtain ⟨-, -, -, hM1, -⟩ := hM
  obtain ⟨f1, c, hc, h7, h24, hrow⟩ := hM1 rfl
  have h0 := h
  obtain ⟨n, hB, hP, hW, hG⟩ := h0
  have h20 := hB.2.1.1.2
  have pc4 : ∀ {k : Nat}, 4 ≤ k → k ≤ 12 → p < mo_ln k := fun k1 k2 => by rw [mo_ln4 k1 k2]; exact hp
  rw [f_CP_readHeaders, f_MO_headers, pc_p hp (by omega) (by omega), pc_p hp (by omega) (by omega), pl0 (by decide), pt0, nI_clamp (show p < 2 ^ 31 by omega), ← f1]
  rcases rd_asked (hP p hp) (kc := 1) (km := 1) (Or.inl ⟨rfl, rfl⟩) (C.1 16 3) with ⟨w1, w2, w3, w4, w5, -⟩ | ⟨w1, w2⟩
  · have hd := h.drop hp
    have h3' : ¬ (cz_i (cz_i m 8 p 0) 10 p 0).1 4 p = 3 := by
      rw [pi_row _ _ _ _ (by decide), pi_row _ _ _ _ (by decide)]
      exact h3
    have d9 : (cz_i (cz_i m 8 p 0) 10 p 0).1 9 p = m.1 9 p := by rw [pi_row _ _ _ _ (by decide), pi_row _ _ _ _ (by decide)]
    have d24 : (cz_i (cz_i m 8 p 0) 10 p 0).1 0 24 = nI (5 * c) := by rw [pi_row _ _ _ _ (by decide), pi_row _ _ _ _ (by decide), h24]
    have d17 : (cz_i (cz_i m 8 p 0) 10 p 0).1 17 = m.1 17 := by rw [pi_row _ _ _ _ (by decide), pi_row _ _ _ _ (by decide)]
    have dm4 : (cz_i (cz_i m 8 p 0) 10 p 0).1 4 = m.1 4 := by rw [pi_row _ _ _ _ (by decide), pi_row _ _ _ _ (by decide)]
    have dC16 : (cz_i C (2 + 2 * p) 5 0).1 16 = C.1 16 := pi_row _ _ _ _ (by omega)
    have dC61 : ∀ i, (cz_i C (2 + 2 * p) 5 0).1 (61 + i) = C.1 (61 + i) := fun i => pi_row _ _ _ _ (by omega)
    rw [w1, pb_i, if_neg (show ¬ (1 : Int32) = 0 by decide), f_Peer_dropRequest, pb_v, dC16, h7, if_pos w2, if_pos w3, pc_k (pc4 (by omega) (by omega)) (by omega), pc_k (pc4 (by omega) (by omega)) (by omega), d24, d9, d17]
    have hCx := dC61 0
    generalize cz_i C (2 + 2 * p) 5 0 = C1 at hd dC16 dC61 hCx ⊢
    generalize cz_i (cz_i m 8 p 0) 10 p 0 = m1 at hd h3' d9 d24 d17 dm4 ⊢
    by_cases e0 : c = 0
    · subst e0
      rw [if_pos nI_0, if_pos nI_0, pc_k (pc4 (by omega) (by omega)) (by omega), pc_k (pc4 (by omega) (by omega)) (by omega), w4]
      have hd' := hd
      obtain ⟨n1, -, hP1, -⟩ := hd'
      obtain ⟨hs1, q2, q3, -⟩ := hP1 p hp
      refine Or.inl ⟨_, _, rfl, rfl, hd.fld hp (fun k hk => pi_row _ _ _ _ hk) rfl (fun j hj => by rw [pi_get, if_neg (by omega)]) (fun k hk => pi_row _ _ _ _ (by omega)) (fun k j hj => by rw [pi_get, if_neg (fun z => hj z.2)]) ?_ ?_ ?_ (Or.inl ?_), ?_⟩
      · rw [pi_get _ _ _ _ (2 + 2 * p) 0, if_neg (by omega), pi_get _ _ _ _ (2 + 2 * p) 1, if_neg (by omega), pi_row _ _ _ _ (show (4 : Nat) ≠ 6 by decide), pi_row _ _ _ _ (show (5 : Nat) ≠ 6 by decide)]
        exact hs1
      · rw [pi_same, pi_same]
      · rw [pi_get, if_neg (by omega), pi_row _ _ _ _ (by decide)]
        exact q3
      · rw [pi_row _ _ _ _ (by decide)]
      · rw [pi_row _ _ _ _ (by omega), dC16]
    · have hr0 : ∀ j, j < 5 → m1.1 17 (0 + j) = C1.1 61 j := by
        intro j hj
        have := (hrow 0 j (by omega) hj).1
        rw [Nat.mul_zero] at this
        rw [d17, ← this]
        exact congrFun hCx.symm j
      have hr01 : m.1 17 1 = C1.1 61 1 := by
        have := hr0 1 (by omega)
        rw [d17, Nat.zero_add] at this
        exact this
      rw [if_neg (nI_ne0 (by omega) (by omega)), if_neg (nI_ne0 (by omega) (by omega)), if_neg (show ¬ ((0 : Int32) < 0 ∨ 8 ≤ 0) by decide), pl1 (show 2 ≤ cp_ln (61 + 0) by decide), pl1 (show 2 ≤ mo_ln 17 by decide), pt1, pc_k (pc4 (by omega) (by omega)) (by omega), Nat.add_zero, w4, hr01]
      by_cases ef : C1.1 61 1 = m.1 9 p
      · rw [if_pos ef, if_pos ef]
        have hd' := hd
        obtain ⟨n1, hB1, hP1, hW1, hG1⟩ := hd'
        have h201 := hB1.2.1.1.2
        have hh : f_MO_hash m1 0 0 = some (zm_h (C1.1 61), m1) := mo_hash00 (i := 0) hr0 (by omega) hB1
        have hr00 : m1.1 17 0 = C1.1 61 0 := by
          have := hr0 0 (by omega)
          rw [Nat.zero_add] at this
          exact this
        have htake : rd t p C (b_CP_readHeaders_103 (2 + 2 * p) C1) (b_MO_headers_131 (nI p) m1) := by
          obtain ⟨C', m', y1, y2, y3, y4⟩ := th_lp (t := t) hp hc c 0 100 100 n1 0 C1 m1 (by omega) (by omega) (by omega) hB1 hP1 hW1 hG1 (by rw [dC16]; exact h7) d24 (fun i j hi hj => by rw [dC61 i, d17]; exact hrow i j hi hj) (fun z => by omega)
          have e3 : ¬ m'.1 4 p = 3 := by
            rw [y3]
            exact h3'
          rw [b_CP_readHeaders_103, b_MO_headers_131]
          rcases y4 with ⟨z1, z2⟩ | ⟨z1, z2⟩
          · have z1 : f_CP_takeHeaders C1 = some (1, C') := z1
            have z2 : f_MO_taken m1 (nI p) = b_MO_taken_104 (nI p) m' := z2
            rw [z1, pb_i, if_neg (show ¬ (1 : Int32) = 0 by decide), z2, b_MO_taken_104, pc_p hp (by omega) (by omega), nI_clamp (show p < 2 ^ 31 by omega)]
            have hb : rR t (cz_i C' (2 + 2 * p) 3 0) (cz_i m' 7 p 0) := by
              have y1' := y1
              obtain ⟨n2, -, hP2, -⟩ := y1'
              obtain ⟨hs2, r2, r3, -⟩ := hP2 p hp
              refine y1.fld hp (fun k hk => pi_row _ _ _ _ hk) rfl (fun j hj => by rw [pi_get, if_neg (by omega)]) (fun k hk => pi_row _ _ _ _ (by omega)) (fun k j hj => by rw [pi_get, if_neg (fun z => hj z.2)]) ?_ ?_ ?_ (Or.inl ?_)
              · rw [pi_get _ _ _ _ (2 + 2 * p) 0, if_neg (by omega), pi_get _ _ _ _ (2 + 2 * p) 1, if_neg (by omega), pi_row _ _ _ _ (show (4 : Nat) ≠ 7 by decide), pi_row _ _ _ _ (show (5 : Nat) ≠ 7 by decide)]
                exact hs2
              · rw [pi_get, if_neg (by omega), pi_row _ _ _ _ (by decide)]
                exact r2
              · rw [pi_same, pi_same]
              · rw [pi_row _ _ _ _ (by decide)]
            obtain ⟨C2, m2, k1, k2, k3, k4⟩ := hb.merit hp
            rw [k1, pb_v, k2, pb_i, if_pos (Or.inr rfl), pb_i, if_pos (Or.inr rfl)]
            exact Or.inl ⟨C2, m2, rfl, rfl, k3, by rw [k4, pi_row _ _ _ _ (by omega), y2, dC16]⟩
          · have z1 : f_CP_takeHeaders C1 = some (0, C') := z1
            have z2 : f_MO_taken m1 (nI p) = b_MO_taken_63 (nI p) m' := z2
            refine rd.bad (k := 2) y1 hp e3 (by omega) (by omega) (by rw [z1, pb_i, if_pos rfl]; rfl) ?_
            rw [z2, b_MO_taken_63]
            obtain ⟨C2, m2, k1, k2, k3⟩ := y1.fault (c := 2) hp (by omega) e3
            have k2 : f_MO_fault m' (nI p) 2 = some (0, m2) := k2
            rw [show nI 2 = (2 : Int32) from rfl, k2, pb_i, if_pos (Or.inl rfl), pb_i, if_pos (Or.inl rfl)]
        rw [cp_hashOf (by decide) (by decide), pb_i, cp_isKnown hB1.1 h201, pb_i, hh, pb_i, mo_ha hB1.2.1 hB1.2.2, pb_i]
        rcases bk_find_spec (ha := C1.1 21) (h := zm_h (C1.1 61)) n1 0 with ⟨hu, -⟩ | ⟨j, -, j2, -, j4⟩
        · rw [hu, if_pos (show (-1 : Int32) = -1 from rfl), if_pos (show (0 : Int32) = 0 from rfl), if_neg (show ¬ (0 : Int32) ≤ -1 by decide), if_neg (show ¬ ((0 : Int32) < 0 ∨ cp_ln 61 ≤ 0) by decide), cp_isKnown hB1.1 h201, pb_i, if_neg (show ¬ ((0 : Int32) < 0 ∨ mo_ln 17 ≤ 0) by decide), hr00, mo_ha hB1.2.1 hB1.2.2, pb_i]
          rcases bk_find_spec (ha := C1.1 21) (h := C1.1 61 0) n1 0 with ⟨hu2, -⟩ | ⟨j, -, j2, -, j4⟩
          · rw [hu2, if_pos (show (-1 : Int32) = -1 from rfl), if_pos (show (0 : Int32) = 0 from rfl), if_neg (show ¬ (0 : Int32) ≤ -1 by decide), pc_k (pc4 (by omega) (by omega)) (by omega), pc_k (pc4 (by omega) (by omega)) (by omega)]
            obtain ⟨hs1, q2, q3, -⟩ := hP1 p hp
            refine Or.inl ⟨_, _, rfl, rfl, hd.fld hp (fun k hk => pi_row _ _ _ _ hk) rfl (fun j hj => by rw [pi_get, if_neg (by omega)]) (fun k hk => pi_row _ _ _ _ (by omega)) (fun k j hj => by rw [pi_get, if_neg (fun z => hj z.2)]) ?_ ?_ ?_ (Or.inl ?_), ?_⟩
            · rw [pi_get _ _ _ _ (2 + 2 * p) 0, if_neg (by omega), pi_get _ _ _ _ (2 + 2 * p) 1, if_neg (by omega), pi_row _ _ _ _ (show (4 : Nat) ≠ 7 by decide), pi_row _ _ _ _ (show (5 : Nat) ≠ 7 by decide)]
              exact hs1
            · rw [pi_get, if_neg (by omega), pi_row _ _ _ _ (by decide)]
              exact q2
            · rw [pi_same, pi_same, q3]
            · rw [pi_row _ _ _ _ (by decide)]
            · rw [pi_row _ _ _ _ (by omega), dC16]
          · rw [j4, if_neg (pn_m1 (by omega)), if_neg (show ¬ (1 : Int32) = 0 by decide), if_pos (nI_pos' (by omega))]
            exact htake
        · rw [j4, if_neg (pn_m1 (by omega)), if_neg (show ¬ (1 : Int32) = 0 by decide), if_pos (nI_pos' (by omega))]
          exact htake
      · rw [if_neg ef, if_neg ef]
        exact rd.bad (k := 2) hd hp h3' (by omega) (by omega) rfl rfl
  · rw [w1, pb_i, if_pos rfl]
    refine rd.bad (k := 1) h hp h3 (by omega) (by omega) rfl ?_
    rcases w2 with w2 | w2
    · rw [if_neg w2, b_MO_headers_25]
      rfl
    · by_cases w3 : m.1 8 p = 1
      · rw [if_pos w3, if_neg w2, b_MO_headers_25]
        rfl
      · rw [if_neg w3, b_MO_headers_25]
        rfl
