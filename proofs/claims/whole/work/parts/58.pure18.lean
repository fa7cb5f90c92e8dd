/-! PURE: lists of headers, and the two kinds of list of a message -/
theorem cs_num {w a e : Nat} {b : Nat → Nat} {C : cz_M} (hw : w ≤ 56) (hb : ∀ i, i < w → b i < 256) (ha : a ≤ w) (he : e ≤ w) (h : cS w b a C) : ∃ r a', a' ≤ w ∧ f_Message_nextNumber C (nI e) = some (r, cz_i C 16 11 (nI a')) := by
  obtain ⟨r, a', -, h2, h3, -⟩ := ps_num hw hb ha he (dm_pS (c := 0) h)
  exact ⟨r, a', h2, h3⟩
theorem hd_one {w L a c q : Nat} {b : Nat → Nat} {C m : cz_M} (hw : w ≤ 56) (hb : ∀ i, i < w → b i < 256) (hL : L ≤ w) (ha : a < L) (hq : 61 ≤ q ∧ q ≤ 68) (hc : c ≤ 8) (h : pS w b a C m) (h24 : m.1 0 24 = nI (5 * c)) (g : Nat) (v3 : Int32) : ∃ C', eC C C' ∧ (∀ j, j ≠ 11 → C'.1 16 j = C.1 16 j) ∧ (∀ x, x ≠ 16 → x ≠ q → C'.1 x = C.1 x) ∧ ((∃ l m', f_Message_parseHeader C q (nI L) = some (1, C') ∧ a + 6 ≤ l ∧ l ≤ L ∧ C'.1 16 11 = nI l ∧ cz_lp3 (l_MO_items_26 1) (g + 5) m (nI L) v3 = cz_lp3 (l_MO_items_26 1) g m' (nI L) (nI l) ∧ eM m m' ∧ m'.1 16 = m.1 16 ∧ m'.1 0 21 = nI l ∧ m'.1 0 24 = nI (5 * c + 5) ∧ (∀ j, j < 5 → C'.1 q j = m'.1 17 (5 * c + j) ∧ 0 ≤ C'.1 q j) ∧ ∀ j, j < 5 * c → m'.1 17 j = m.1 17 j) ∨ (f_Message_parseHeader C q (nI L) = some (0, C') ∧ ∃ m', cz_lp3 (l_MO_items_26 1) (g + 5) m (nI L) v3 = some (0, m') ∧ eM m m')) := by
  have hln : cp_ln q = 5 := by
    obtain ⟨x, rfl⟩ : ∃ x, q = 61 + x := ⟨q - 61, by omega⟩
    exact cp_ln61 (by omega)
  have href : ∀ r49 M49, f_MO_opening m (nI L) = some (r49, M49) → cz_lp3 (l_MO_items_26 1) (g + 5) m (nI L) v3 = b_MO_items_53 1 (cz_lp3 (l_MO_items_26 1) (g + 4)) M49 (nI L) r49 := by
    intro r49 M49 ho
    rw [show g + 5 = (g + 4) + 1 by omega, cz_lp3_s, l_MO_items_26, h.2.2.1, if_neg (nI_ge ha (by omega)), if_neg (show ¬ (1 : Int32) = 0 by decide), h24, pn_rem5 (by omega), show 5 * c % 5 = 0 by omega, if_pos nI_0, ho, pb_i]
  rcases ps_list hw hb (by omega) hL h with ⟨l, l1, l2, l3, l4⟩ | ⟨l3, m', l4, l5⟩
  · rw [href _ _ l4, b_MO_items_53, if_neg (pn_lt0 (by omega)), if_neg (show ¬ (1 : Int32) = 0 by decide), f_Message_parseHeader, l3, pb_i]
    have e1 : eC C (cz_i C 16 11 (nI (a + 1))) := eC.i (by omega)
    have e2 : eM m (cz_i m 0 21 (nI (a + 1))) := eM.i0 (by omega)
    obtain ⟨C', c1, c2, c3, c4⟩ := hd_num (q := q) (c := c) (nI L) hw hb hL l2 hq hc 4 0 (a + 1) 100 g (cz_i C 16 11 (nI (a + 1))) (cz_i m 0 21 (nI (a + 1))) (by omega) (by omega) (by omega) (h.mk' (pi_row _ _ _ _ (by decide)) (pi_row _ _ _ _ (by decide)) (pi_same _ _ _ _) e2 (pi_same _ _ _ _)) (by rw [pi_get, if_neg (by decide), h24, Nat.add_zero]) (fun j hj => by omega)
    refine ⟨C', e1.tr c1, fun j hj => ?_, fun x x1 x2 => ?_, ?_⟩
    · rw [c2 j hj, pi_get, if_neg (fun z => hj z.2)]
    · rw [c3 x x1 x2, pi_row _ _ _ _ x1]
    · rcases c4 with ⟨d1, d2, d3, m', d4, d5, d6, d7, d8, d9, d10⟩ | ⟨d1, m', d2, d3⟩
      · refine Or.inl ⟨l, m', d1, by omega, l2, d3, d4, e2.tr d5, ?_, d7, d8, d9, fun j hj => ?_⟩
        · rw [d6, pi_row _ _ _ _ (by decide)]
        · rw [d10 j hj, pi_row _ _ _ _ (by decide)]
      · exact Or.inr ⟨d1, m', d2, e2.tr d3⟩
  · rw [href _ _ l4, b_MO_items_53, if_pos (by decide), f_Message_parseHeader, l3, pb_i]
    refine ⟨cz_i C q 0 (-1), eC.i (by omega), fun j hj => by rw [pi_row _ _ _ _ (by omega)], fun x x1 x2 => pi_row _ _ _ _ x2, Or.inr ⟨?_, m', rfl, l5⟩⟩
    show cz_lp3 (l_Message_parseHeader_9 q (nI L)) (99 + 1) C (-1) (nI 0) = _
    rw [cz_lp3_s, l_Message_parseHeader_9, if_neg (by decide), ps_none hw hb (show a ≤ w by omega) h.1, pb_i, hln, pc_in (show 0 < 5 by omega) (by decide), pc_in (show 0 < 5 by omega) (by decide), nI_clamp (show 0 < 2 ^ 31 by omega), pi_same, if_pos rfl]
theorem hl_lp {w L : Nat} {b : Nat → Nat} (a1 : Int32) (hw : w ≤ 56) (hb : ∀ i, i < w → b i < 256) (hL : L ≤ w) : ∀ (r a c f g : Nat) (v3 : Int32) (C m : cz_M), L ≤ a + r → a ≤ L → 4 + 6 * c ≤ a → c ≤ 8 → r < f → L + 6 < a + g → pS w b a C m → C.1 16 7 = nI c → m.1 0 24 = nI (5 * c) → (∀ i j, i < c → j < 5 → C.1 (61 + i) j = m.1 17 (5 * i + j) ∧ 0 ≤ C.1 (61 + i) j) → ∃ C', eC C C' ∧ (∀ j, j ≠ 7 → j ≠ 11 → C'.1 16 j = C.1 16 j) ∧ ((cz_lp2 (l_Message_parseHeaders_11 a1) f C (nI L) = some (1, C') ∧ C'.1 16 11 = nI L ∧ ∃ c' m', c' ≤ 8 ∧ C'.1 16 7 = nI c' ∧ cz_lp3 (l_MO_items_26 1) g m (nI L) v3 = some (1, m') ∧ eM m m' ∧ m'.1 16 = m.1 16 ∧ m'.1 0 21 = nI L ∧ m'.1 0 24 = nI (5 * c') ∧ ∀ i j, i < c' → j < 5 → C'.1 (61 + i) j = m'.1 17 (5 * i + j) ∧ 0 ≤ C'.1 (61 + i) j) ∨ (cz_lp2 (l_Message_parseHeaders_11 a1) f C (nI L) = some (0, C') ∧ ∃ m', cz_lp3 (l_MO_items_26 1) g m (nI L) v3 = some (0, m') ∧ eM m m')) := by
  have hend : ∀ (c f g : Nat) (v3 : Int32) (C m : cz_M), c ≤ 8 → 0 < f → 0 < g → pS w b L C m → C.1 16 7 = nI c → m.1 0 24 = nI (5 * c) → cz_lp2 (l_Message_parseHeaders_11 a1) f C (nI L) = some (1, C) ∧ cz_lp3 (l_MO_items_26 1) g m (nI L) v3 = some (1, m) := by
    intro c f g v3 C m hc hf hg h h7 h24
    obtain ⟨f, rfl⟩ : ∃ g, f = g + 1 := ⟨f - 1, by omega⟩
    obtain ⟨g, rfl⟩ : ∃ f, g = f + 1 := ⟨g - 1, by omega⟩
    constructor
    · rw [cz_lp2_s, l_Message_parseHeaders_11, h7, b_Message_parseHeaders_60, h.1.2.1, if_pos rfl, if_pos (nI_le (Nat.le_refl _) (by omega))]
      by_cases z : (8 : Int32) ≤ nI c
      · rw [if_pos z]
      · rw [if_neg z]
    · rw [cz_lp3_s, l_MO_items_26, h.2.2.1, if_pos (nI_le (Nat.le_refl _) (by omega)), b_MO_items_126, if_neg (show ¬ (1 : Int32) = 0 by decide), h24, pn_rem5 (by omega), show 5 * c % 5 = 0 by omega, if_pos nI_0, b_MO_items_139]
  intro r
  induction r with
  | zero =>
    intro a c f g v3 C m h1 h2 h3 h4 h5 h6 hS h7 h24 hv
    have e : a = L := by omega
    subst e
    obtain ⟨x1, x2⟩ := hend c f g v3 C m h4 (by omega) (by omega) hS h7 h24
    exact ⟨C, eC.rf C, fun _ _ _ => rfl, Or.inl ⟨x1, hS.1.2.1, c, m, h4, h7, x2, eM.rf m, rfl, hS.2.2.1, h24, hv⟩⟩
  | succ r ih =>
    intro a c f g v3 C m h1 h2 h3 h4 h5 h6 hS h7 h24 hv
    by_cases e : a = L
    · subst e
      obtain ⟨x1, x2⟩ := hend c f g v3 C m h4 (by omega) (by omega) hS h7 h24
      exact ⟨C, eC.rf C, fun _ _ _ => rfl, Or.inl ⟨x1, hS.1.2.1, c, m, h4, h7, x2, eM.rf m, rfl, hS.2.2.1, h24, hv⟩⟩
    obtain ⟨f, rfl⟩ : ∃ g, f = g + 1 := ⟨f - 1, by omega⟩
    obtain ⟨g, rfl⟩ : ∃ f, g = f + 5 := ⟨g - 5, by omega⟩
    rw [cz_lp2_s, l_Message_parseHeaders_11, h7, b_Message_parseHeaders_60, hS.1.2.1, if_neg (nI_ge (show a < L by omega) (by omega))]
    by_cases e8 : c = 8
    · subst e8
      rw [if_pos (by decide), if_neg (show ¬ nI a = nI L from fun z => e ((nI_eq (by omega) (by omega)).mp z))]
      obtain ⟨C', -, -, -, c4⟩ := hd_one (q := 61) hw hb hL (show a < L by omega) (by omega) h4 hS h24 g v3
      rcases c4 with ⟨l, m', -, d2, d3, -⟩ | ⟨-, m', d2, d3⟩
      · omega
      · exact ⟨C, eC.rf C, fun _ _ _ => rfl, Or.inr ⟨rfl, m', d2, d3⟩⟩
    · rw [if_neg (show ¬ (8 : Int32) ≤ nI c from nI_ge (b := 8) (by omega) (by decide)), pc_in (show c < 8 by omega) (by decide), nI_clamp (show c < 2 ^ 31 by omega)]
      obtain ⟨C1, c1, c2, c3, c4⟩ := hd_one (q := 61 + c) hw hb hL (show a < L by omega) (by omega) h4 hS h24 g v3
      rcases c4 with ⟨l, m', d1, d2, d3, d4, d5, d6, d7, d8, d9, d10, d11⟩ | ⟨d1, m', d2, d3⟩
      · rw [d1, pb_i, if_neg (show ¬ (1 : Int32) = 0 by decide), c2 7 (by decide), h7, nI_1, d5]
        have e1 : eC C (cz_i C1 16 7 (nI (c + 1))) := c1.tr (eC.i (by omega))
        obtain ⟨C', x1, x2, x3⟩ := ih l (c + 1) f g (nI l) (cz_i C1 16 7 (nI (c + 1))) m' (by omega) d3 (by omega) (by omega) (by omega) (by omega) (hS.mk' (by rw [pi_row _ _ _ _ (by decide), c3 14 (by decide) (by omega)]) (by rw [pi_row _ _ _ _ (by decide), c3 15 (by decide) (by omega)]) (by rw [pi_get, if_neg (by decide), d4]) d6 d8) (pi_same _ _ _ _) (by rw [d9]; rfl) (fun i j hi hj => by
          rw [pi_row _ _ _ _ (by omega)]
          by_cases ei : i = c
          · subst ei
            exact d10 j hj
          · rw [c3 _ (by omega) (by omega), d11 _ (by omega)]
            exact hv i j (by omega) hj)
        refine ⟨C', e1.tr x1, fun j j1 j2 => ?_, ?_⟩
        · rw [x2 j j1 j2, pi_get, if_neg (fun z => j1 z.2), c2 j j2]
        · rcases x3 with ⟨y1, y2, c', m2, y3, y4, y5, y6, y7, y8⟩ | ⟨y1, m2, y2, y3⟩
          · exact Or.inl ⟨y1, y2, c', m2, y3, y4, y5, d6.tr y6, y7.trans d7, y8⟩
          · exact Or.inr ⟨y1, m2, y2, d6.tr y3⟩
      · rw [d1, pb_i, if_pos rfl, d2]
        exact ⟨C1, c1, fun j _ j2 => c2 j j2, Or.inr ⟨rfl, m', rfl, d3⟩⟩
/-- a body's numbers -/
theorem li_body {w a : Nat} {b : Nat → Nat} {C m : cz_M} (hw : w ≤ 56) (hb : ∀ i, i < w → b i < 256) (ha : a ≤ w) (h : pS w b a C m) : ∃ r C', f_Message_parseBody C (nI w) = some (r, C') ∧ (r = 0 ∨ r = 1) ∧ eC C C' ∧ (∀ j, j ≠ 7 → j ≠ 11 → C'.1 16 j = C.1 16 j) ∧ ((r = 1 ∧ C'.1 16 11 = nI w ∧ ∃ c' m', c' ≤ 8 ∧ C'.1 16 7 = nI c' ∧ f_MO_items m 0 = some (1, m') ∧ eM m m' ∧ m'.1 16 = m.1 16 ∧ m'.1 0 21 = nI w ∧ m'.1 0 24 = nI c' ∧ ∀ j, j < c' → C'.1 18 j = m'.1 17 j ∧ 0 ≤ C'.1 18 j) ∨ ((r = 0 ∨ ¬ C'.1 16 11 = nI w) ∧ ∃ m', f_MO_items m 0 = some (0, m') ∧ eM m m')) := by
  have e0 : eM m (cz_i m 0 24 0) := eM.i0 (by omega)
  have h0 : pS w b a C (cz_i m 0 24 0) := h.mk' rfl rfl h.1.2.1 e0 (by rw [pi_get, if_neg (by decide)]; exact h.2.2.1)
  have h19 : (cz_i m 0 24 0).1 0 19 = nI w := h0.2.1
  rw [f_Message_parseBody, f_MO_items, h19]
  rcases ps_list hw hb ha (Nat.le_refl w) h0 with ⟨l, l1, l2, l3, l4⟩ | ⟨l3, m', l4, l5⟩
  · have h19b : (cz_i (cz_i m 0 24 0) 0 21 (nI (a + 1))).1 0 19 = nI w := by rw [pi_get, if_neg (by decide), h19]
    rw [l3, pb_i, l4, pb_i, h19b]
    have e1 : eC C (cz_i (cz_i C 16 11 (nI (a + 1))) 16 7 0) := (eC.i (by omega)).tr (eC.i (by omega))
    have hC : cS w b (a + 1) (cz_i (cz_i C 16 11 (nI (a + 1))) 16 7 0) := ⟨by rw [pi_row _ _ _ _ (by decide), pi_row _ _ _ _ (by decide)]; exact h.1.1, by simp [pi_get], by rw [pi_row _ _ _ _ (by decide), pi_row _ _ _ _ (by decide)]; exact h.1.2.2⟩
    by_cases el : l = w
    · subst el
      rw [if_pos rfl]
      have e2 : eM m (cz_i (cz_i m 0 24 0) 0 21 (nI (a + 1))) := e0.tr (eM.i0 (by omega))
      obtain ⟨C', x1, x2, x3⟩ := bd_lp (nI l) hw hb (Nat.le_refl l) (l - (a + 1)) (a + 1) 0 100 100 (cz_i (cz_i C 16 11 (nI (a + 1))) 16 7 0) (cz_i (cz_i m 0 24 0) 0 21 (nI (a + 1))) (by omega) (by omega) (by omega) (by omega) (by omega) ⟨hC, by rw [pi_get, if_neg (by decide)]; exact h19, pi_same _ _ _ _, by rw [pi_row _ _ _ _ (by decide)]; exact h0.2.2.2⟩ (pi_same _ _ _ _) (by simp [pi_get]; rfl) (fun j hj => by omega)
      have x2' : ∀ j, j ≠ 7 → j ≠ 11 → C'.1 16 j = C.1 16 j := fun j j1 j2 => by rw [x2 j j1 j2, pi_get, if_neg (fun z => j1 z.2), pi_get, if_neg (fun z => j2 z.2)]
      rcases x3 with ⟨y1, y2, c', m2, y3, y4, y5, y6, y7, y8⟩ | ⟨y1, m2, y2, y3⟩
      · exact ⟨1, C', y1, Or.inr rfl, e1.tr x1, x2', Or.inl ⟨rfl, y2, c', m2, y3, y4, y5, e2.tr y6, y7, y8⟩⟩
      · exact ⟨0, C', y1, Or.inl rfl, e1.tr x1, x2', Or.inr ⟨Or.inl rfl, m2, y2, e2.tr y3⟩⟩
    · have el2 : ¬ nI l = nI w := fun z => el ((nI_eq (by omega) (by omega)).mp z)
      rw [if_neg el2]
      obtain ⟨C', x1, x2, x3⟩ := bd_lp (nI w) hw hb l2 (l - (a + 1)) (a + 1) 0 100 100 (cz_i (cz_i C 16 11 (nI (a + 1))) 16 7 0) (dm w b (a + 1) 0) (by omega) (by omega) (by omega) (by omega) (by omega) (dm_pS hC) (pi_same _ _ _ _) rfl (fun j hj => by omega)
      have x2' : ∀ j, j ≠ 7 → j ≠ 11 → C'.1 16 j = C.1 16 j := fun j j1 j2 => by rw [x2 j j1 j2, pi_get, if_neg (fun z => j1 z.2), pi_get, if_neg (fun z => j2 z.2)]
      rcases x3 with ⟨y1, y2, -⟩ | ⟨y1, -⟩
      · exact ⟨1, C', y1, Or.inr rfl, e1.tr x1, x2', Or.inr ⟨Or.inr (by rw [y2]; exact el2), _, rfl, e0.tr (eM.i0 (by omega))⟩⟩
      · exact ⟨0, C', y1, Or.inl rfl, e1.tr x1, x2', Or.inr ⟨Or.inl rfl, _, rfl, e0.tr (eM.i0 (by omega))⟩⟩
  · rw [l3, pb_i, l4, pb_i]
    have hm1 : ¬ (-1 : Int32) = m'.1 0 19 := by
      rw [l5.1 19 (by omega), h19]
      exact fun z => pn_m1 (by omega) z.symm
    rw [if_neg hm1]
    refine ⟨0, cz_i C 16 7 0, ?_, Or.inl rfl, eC.i (by omega), fun j j1 j2 => by rw [pi_get, if_neg (fun z => j1 z.2)], Or.inr ⟨Or.inl rfl, m', rfl, e0.tr l5⟩⟩
    show cz_lp2 (l_Message_parseBody_11 (nI w)) (99 + 1) (cz_i C 16 7 0) (-1) = _
    have h11 : (cz_i C 16 7 0).1 16 11 = nI a := by rw [pi_get, if_neg (by decide)]; exact h.1.2.1
    rw [cz_lp2_s, l_Message_parseBody_11, pi_same, if_neg (by decide), h11, if_pos (Int32.le_trans (by decide) (nI_pos' (show a < 2 ^ 31 by omega))), b_Message_parseBody_70, h11, if_neg (pn_m1 (by omega))]
theorem li_heads {w a : Nat} {b : Nat → Nat} {C m : cz_M} (hw : w ≤ 56) (hb : ∀ i, i < w → b i < 256) (ha : a ≤ w) (ha3 : 3 ≤ a) (h : pS w b a C m) : ∃ r C', f_Message_parseHeaders C (nI w) = some (r, C') ∧ (r = 0 ∨ r = 1) ∧ eC C C' ∧ (∀ j, j ≠ 7 → j ≠ 11 → C'.1 16 j = C.1 16 j) ∧ ((r = 1 ∧ C'.1 16 11 = nI w ∧ ∃ c' m', c' ≤ 8 ∧ C'.1 16 7 = nI c' ∧ f_MO_items m 1 = some (1, m') ∧ eM m m' ∧ m'.1 16 = m.1 16 ∧ m'.1 0 21 = nI w ∧ m'.1 0 24 = nI (5 * c') ∧ ∀ i j, i < c' → j < 5 → C'.1 (61 + i) j = m'.1 17 (5 * i + j) ∧ 0 ≤ C'.1 (61 + i) j) ∨ ((r = 0 ∨ ¬ C'.1 16 11 = nI w) ∧ ∃ m', f_MO_items m 1 = some (0, m') ∧ eM m m')) := by
  have e0 : eM m (cz_i m 0 24 0) := eM.i0 (by omega)
  have h0 : pS w b a C (cz_i m 0 24 0) := h.mk' rfl rfl h.1.2.1 e0 (by rw [pi_get, if_neg (by decide)]; exact h.2.2.1)
  have h19 : (cz_i m 0 24 0).1 0 19 = nI w := h0.2.1
  rw [f_Message_parseHeaders, f_MO_items, h19]
  rcases ps_list hw hb ha (Nat.le_refl w) h0 with ⟨l, l1, l2, l3, l4⟩ | ⟨l3, m', l4, l5⟩
  · have h19b : (cz_i (cz_i m 0 24 0) 0 21 (nI (a + 1))).1 0 19 = nI w := by rw [pi_get, if_neg (by decide), h19]
    rw [l3, pb_i, l4, pb_i, h19b]
    have e1 : eC C (cz_i (cz_i C 16 11 (nI (a + 1))) 16 7 0) := (eC.i (by omega)).tr (eC.i (by omega))
    have hC : cS w b (a + 1) (cz_i (cz_i C 16 11 (nI (a + 1))) 16 7 0) := ⟨by rw [pi_row _ _ _ _ (by decide), pi_row _ _ _ _ (by decide)]; exact h.1.1, by simp [pi_get], by rw [pi_row _ _ _ _ (by decide), pi_row _ _ _ _ (by decide)]; exact h.1.2.2⟩
    by_cases el : l = w
    · subst el
      rw [if_pos rfl]
      have e2 : eM m (cz_i (cz_i m 0 24 0) 0 21 (nI (a + 1))) := e0.tr (eM.i0 (by omega))
      obtain ⟨C', x1, x2, x3⟩ := hl_lp (nI l) hw hb (Nat.le_refl l) (l - (a + 1)) (a + 1) 0 100 100 (nI l) (cz_i (cz_i C 16 11 (nI (a + 1))) 16 7 0) (cz_i (cz_i m 0 24 0) 0 21 (nI (a + 1))) (by omega) (by omega) (by omega) (by omega) (by omega) (by omega) ⟨hC, by rw [pi_get, if_neg (by decide)]; exact h19, pi_same _ _ _ _, by rw [pi_row _ _ _ _ (by decide)]; exact h0.2.2.2⟩ (pi_same _ _ _ _) (by simp [pi_get]; rfl) (fun i j hi hj => by omega)
      have x2' : ∀ j, j ≠ 7 → j ≠ 11 → C'.1 16 j = C.1 16 j := fun j j1 j2 => by rw [x2 j j1 j2, pi_get, if_neg (fun z => j1 z.2), pi_get, if_neg (fun z => j2 z.2)]
      rcases x3 with ⟨y1, y2, c', m2, y3, y4, y5, y6, y7, y8⟩ | ⟨y1, m2, y2, y3⟩
      · exact ⟨1, C', y1, Or.inr rfl, e1.tr x1, x2', Or.inl ⟨rfl, y2, c', m2, y3, y4, y5, e2.tr y6, y7, y8⟩⟩
      · exact ⟨0, C', y1, Or.inl rfl, e1.tr x1, x2', Or.inr ⟨Or.inl rfl, m2, y2, e2.tr y3⟩⟩
    · have el2 : ¬ nI l = nI w := fun z => el ((nI_eq (by omega) (by omega)).mp z)
      rw [if_neg el2]
      obtain ⟨C', x1, x2, x3⟩ := hl_lp (nI w) hw hb l2 (l - (a + 1)) (a + 1) 0 100 100 0 (cz_i (cz_i C 16 11 (nI (a + 1))) 16 7 0) (dm w b (a + 1) 0) (by omega) (by omega) (by omega) (by omega) (by omega) (by omega) (dm_pS hC) (pi_same _ _ _ _) rfl (fun i j hi hj => by omega)
      have x2' : ∀ j, j ≠ 7 → j ≠ 11 → C'.1 16 j = C.1 16 j := fun j j1 j2 => by rw [x2 j j1 j2, pi_get, if_neg (fun z => j1 z.2), pi_get, if_neg (fun z => j2 z.2)]
      rcases x3 with ⟨y1, y2, -⟩ | ⟨y1, -⟩
      · exact ⟨1, C', y1, Or.inr rfl, e1.tr x1, x2', Or.inr ⟨Or.inr (by rw [y2]; exact el2), _, rfl, e0.tr (eM.i0 (by omega))⟩⟩
      · exact ⟨0, C', y1, Or.inl rfl, e1.tr x1, x2', Or.inr ⟨Or.inl rfl, _, rfl, e0.tr (eM.i0 (by omega))⟩⟩
  · rw [l3, pb_i, l4, pb_i]
    have hm1 : ¬ (-1 : Int32) = m'.1 0 19 := by
      rw [l5.1 19 (by omega), h19]
      exact fun z => pn_m1 (by omega) z.symm
    rw [if_neg hm1]
    refine ⟨0, cz_i C 16 7 0, ?_, Or.inl rfl, eC.i (by omega), fun j j1 j2 => by rw [pi_get, if_neg (fun z => j1 z.2)], Or.inr ⟨Or.inl rfl, m', rfl, e0.tr l5⟩⟩
    show cz_lp2 (l_Message_parseHeaders_11 (nI w)) (99 + 1) (cz_i C 16 7 0) (-1) = _
    have h11 : (cz_i C 16 7 0).1 16 11 = nI a := by rw [pi_get, if_neg (by decide)]; exact h.1.2.1
    rw [cz_lp2_s, l_Message_parseHeaders_11, pi_same, if_neg (by decide), h11, if_pos (Int32.le_trans (by decide) (nI_pos' (show a < 2 ^ 31 by omega))), b_Message_parseHeaders_60, h11, if_neg (pn_m1 (by omega))]
