/-! PURE: lists of numbers and of headers, read -/
abbrev cS (w : Nat) (b : Nat → Nat) (a : Nat) (C : cz_M) : Prop := C.1 14 1 = nI w ∧ C.1 16 11 = nI a ∧ ∀ i, i < w → C.1 15 i = nI (b i)
/-- a reference that reads the same bytes -/
def dm (w : Nat) (b : Nat → Nat) (a c : Nat) : cz_M := (fun k j => if k = 0 then (if j = 19 then nI w else if j = 21 then nI a else nI c) else nI (b j), fun _ _ => 0)
theorem dm_pS {w a c : Nat} {b : Nat → Nat} {C : cz_M} (h : cS w b a C) : pS w b a C (dm w b a c) := ⟨h, rfl, rfl, fun _ _ => rfl⟩
theorem pS.mk' {w a : Nat} {b : Nat → Nat} {C C' m m' : cz_M} {a0 : Nat} (h : pS w b a0 C m) (h1 : C'.1 14 = C.1 14) (h2 : C'.1 15 = C.1 15) (h3 : C'.1 16 11 = nI a) (h4 : eM m m') (h5 : m'.1 0 21 = nI a) : pS w b a C' m' := ⟨⟨by rw [h1]; exact h.1.1, h3, by rw [h2]; exact h.1.2.2⟩, by rw [h4.1 19 (by omega)]; exact h.2.1, h5, by rw [h4.2 15 (by omega) (by omega)]; exact h.2.2.2⟩
theorem bd_lp {w L : Nat} {b : Nat → Nat} (a1 : Int32) (hw : w ≤ 56) (hb : ∀ i, i < w → b i < 256) (hL : L ≤ w) : ∀ (r a c f g : Nat) (C m : cz_M), L ≤ a + r → a ≤ L → c ≤ 8 → r < f → r < g → pS w b a C m → C.1 16 7 = nI c → m.1 0 24 = nI c → (∀ j, j < c → C.1 18 j = m.1 17 j ∧ 0 ≤ C.1 18 j) → ∃ C', eC C C' ∧ (∀ j, j ≠ 7 → j ≠ 11 → C'.1 16 j = C.1 16 j) ∧ ((cz_lp2 (l_Message_parseBody_11 a1) f C (nI L) = some (1, C') ∧ C'.1 16 11 = nI L ∧ ∃ c' m', c' ≤ 8 ∧ C'.1 16 7 = nI c' ∧ cz_lp3 (l_MO_items_26 0) g m (nI L) (nI L) = some (1, m') ∧ eM m m' ∧ m'.1 16 = m.1 16 ∧ m'.1 0 21 = nI L ∧ m'.1 0 24 = nI c' ∧ ∀ j, j < c' → C'.1 18 j = m'.1 17 j ∧ 0 ≤ C'.1 18 j) ∨ (cz_lp2 (l_Message_parseBody_11 a1) f C (nI L) = some (0, C') ∧ ∃ m', cz_lp3 (l_MO_items_26 0) g m (nI L) (nI L) = some (0, m') ∧ eM m m')) := by
  intro r
  induction r with
  | zero =>
    intro a c f g C m ha ha2 hc hf hg h h7 h24 hv
    obtain ⟨f, rfl⟩ : ∃ g, f = g + 1 := ⟨f - 1, by omega⟩
    obtain ⟨g, rfl⟩ : ∃ f, g = f + 1 := ⟨g - 1, by omega⟩
    have e : a = L := by omega
    subst e
    refine ⟨C, eC.rf C, fun _ _ _ => rfl, Or.inl ⟨?_, h.1.2.1, c, m, hc, h7, ?_, eM.rf m, rfl, h.2.2.1, h24, hv⟩⟩
    · rw [cz_lp2_s, l_Message_parseBody_11, h7, b_Message_parseBody_70, h.1.2.1, if_pos rfl, if_pos (nI_le (Nat.le_refl _) (by omega))]
      by_cases z : (8 : Int32) ≤ nI c
      · rw [if_pos z]
      · rw [if_neg z]
    · rw [cz_lp3_s, l_MO_items_26, h.2.2.1, if_pos (nI_le (Nat.le_refl _) (by omega)), b_MO_items_126, if_pos rfl, b_MO_items_139]
  | succ r ih =>
    intro a c f g C m ha ha2 hc hf hg h h7 h24 hv
    by_cases eL : a = L
    · obtain ⟨f, rfl⟩ : ∃ g, f = g + 1 := ⟨f - 1, by omega⟩
      obtain ⟨g, rfl⟩ : ∃ f, g = f + 1 := ⟨g - 1, by omega⟩
      subst eL
      refine ⟨C, eC.rf C, fun _ _ _ => rfl, Or.inl ⟨?_, h.1.2.1, c, m, hc, h7, ?_, eM.rf m, rfl, h.2.2.1, h24, hv⟩⟩
      · rw [cz_lp2_s, l_Message_parseBody_11, h7, b_Message_parseBody_70, h.1.2.1, if_pos rfl, if_pos (nI_le (Nat.le_refl _) (by omega))]
        by_cases z : (8 : Int32) ≤ nI c
        · rw [if_pos z]
        · rw [if_neg z]
      · rw [cz_lp3_s, l_MO_items_26, h.2.2.1, if_pos (nI_le (Nat.le_refl _) (by omega)), b_MO_items_126, if_pos rfl, b_MO_items_139]
    obtain ⟨f, rfl⟩ : ∃ g, f = g + 1 := ⟨f - 1, by omega⟩
    obtain ⟨g, rfl⟩ : ∃ f, g = f + 1 := ⟨g - 1, by omega⟩
    rw [cz_lp2_s, l_Message_parseBody_11, h7, b_Message_parseBody_70, h.1.2.1, cz_lp3_s, l_MO_items_26, h.2.2.1, if_neg (nI_ge (show a < L by omega) (by omega)), if_neg (nI_ge (show a < L by omega) (by omega)), if_pos rfl, b_MO_items_53, if_neg (pn_lt0 (by omega)), if_pos rfl, h24]
    by_cases e8 : c = 8
    · subst e8
      rw [if_pos (by decide), if_neg (show ¬ nI a = nI L from fun z => eL ((nI_eq (by omega) (by omega)).mp z)), if_pos (show nI 8 = 8 from rfl)]
      exact ⟨C, eC.rf C, fun _ _ _ => rfl, Or.inr ⟨rfl, m, rfl, eM.rf m⟩⟩
    rw [if_neg (show ¬ (8 : Int32) ≤ nI c from nI_ge (b := 8) (by omega) (by decide)), if_neg (show ¬ nI c = 8 from fun z => e8 ((nI_eq (b := 8) (by omega) (by omega)).mp z)), b_MO_items_70]
    obtain ⟨x, a', a'1, a'2, n1, n2⟩ := ps_num hw hb (by omega) hL h
    have r7 : (cz_i (cz_i C 16 11 (nI a')) 18 c x).1 16 7 = nI c := by
      rw [pi_row _ _ _ _ (by decide), pi_get, if_neg (by decide), h7]
    rw [n1, pb_i, pc_in (show c < cp_ln 18 by show c < 8; omega) (by decide), nI_clamp (show c < 2 ^ 31 by omega), r7, pc_in (show c < cp_ln 18 by show c < 8; omega) (by decide), nI_clamp (show c < 2 ^ 31 by omega), pi_same, nI_1]
    rcases n2 with ⟨v, rfl, hv31, g1, g2, n3⟩ | ⟨rfl, m', n3, n4⟩
    · rw [if_neg (pn_m1 hv31), n3, pb_i, if_neg (show ¬ (1 : Int32) = 0 by decide)]
      have r24 : (cz_i (cz_i m 0 21 (nI a')) 0 22 (nI v)).1 0 24 = nI c := by
        rw [pi_get, if_neg (by decide), pi_get, if_neg (by decide), h24]
      have r24' : (cz_i (cz_i (cz_i m 0 21 (nI a')) 0 22 (nI v)) 17 c (nI v)).1 0 24 = nI c := by
        rw [pi_row _ _ _ _ (by decide), r24]
      rw [r24, pc_in (show c < mo_ln 17 by show c < 60; omega) (by decide), nI_clamp (show c < 2 ^ 31 by omega), if_pos rfl, pi_same (cz_i m 0 21 (nI a')) 0 22 (nI v), r24', nI_1]
      have e1 : eC C (cz_i (cz_i (cz_i C 16 11 (nI a')) 18 c (nI v)) 16 7 (nI (c + 1))) := ((eC.i (by omega)).tr (eC.i (by omega))).tr (eC.i (by omega))
      have e2 : eM m (cz_i (cz_i (cz_i (cz_i m 0 21 (nI a')) 0 22 (nI v)) 17 c (nI v)) 0 24 (nI (c + 1))) := (((eM.i0 (by omega)).tr (eM.i0 (by omega))).tr (eM.i (by omega))).tr (eM.i0 (by omega))
      obtain ⟨C', c1, c2, c3⟩ := ih a' (c + 1) f g (cz_i (cz_i (cz_i C 16 11 (nI a')) 18 c (nI v)) 16 7 (nI (c + 1))) (cz_i (cz_i (cz_i (cz_i m 0 21 (nI a')) 0 22 (nI v)) 17 c (nI v)) 0 24 (nI (c + 1))) (by omega) (by omega) (by omega) (by omega) (by omega) (h.mk' (by rw [pi_row _ _ _ _ (by decide), pi_row _ _ _ _ (by decide), pi_row _ _ _ _ (by decide)]) (by rw [pi_row _ _ _ _ (by decide), pi_row _ _ _ _ (by decide), pi_row _ _ _ _ (by decide)]) (by simp [pi_get]) e2 (by simp [pi_get])) (pi_same _ _ _ _) (pi_same _ _ _ _) (fun j hj => by
        rw [pi_row _ _ _ _ (show (18 : Nat) ≠ 16 by decide), pi_row _ _ _ _ (show (17 : Nat) ≠ 0 by decide), pi_get _ _ _ _ 18 j, pi_get _ _ _ _ 17 j]
        by_cases ej : j = c
        · rw [if_pos ⟨rfl, ej⟩, if_pos ⟨rfl, ej⟩]
          exact ⟨rfl, nI_pos' hv31⟩
        · rw [if_neg (fun z => ej z.2), if_neg (fun z => ej z.2), pi_row _ _ _ _ (by decide), pi_row _ _ _ _ (by decide), pi_row _ _ _ _ (by decide)]
          exact hv j (by omega))
      refine ⟨C', e1.tr c1, fun j j1 j2 => ?_, ?_⟩
      · rw [c2 j j1 j2, pi_get, if_neg (fun z => j1 z.2), pi_row _ _ _ _ (by decide), pi_get, if_neg (fun z => j2 z.2)]
      · rcases c3 with ⟨d1, d2, c', m', d3, d4, d5, d6, d7, d8⟩ | ⟨d1, m', d2, d3⟩
        · refine Or.inl ⟨d1, d2, c', m', d3, d4, d5, e2.tr d6, ?_, d8⟩
          rw [d7, pi_row _ _ _ _ (by decide), pi_row _ _ _ _ (by decide), pi_row _ _ _ _ (by decide), pi_row _ _ _ _ (by decide)]
        · exact Or.inr ⟨d1, m', d2, e2.tr d3⟩
    · rw [if_pos rfl, n3, pb_i, if_pos rfl]
      refine ⟨_, (eC.i (j := 11) (by omega)).tr (eC.i (k := 18) (by omega)), fun j j1 j2 => ?_, Or.inr ⟨rfl, m', rfl, n4⟩⟩
      rw [pi_row _ _ _ _ (by decide), pi_get, if_neg (fun z => j2 z.2)]
/-! one header -/
theorem pn_rem5 {x : Nat} (h : x < 1000) : nI x - nI x / (5 : Int32) * (5 : Int32) = nI (x % 5) := pk_rem (d := 5) (by omega) (by omega) (by omega)
theorem hd_num {w L h c q : Nat} {b : Nat → Nat} (a2 : Int32) (hw : w ≤ 56) (hb : ∀ i, i < w → b i < 256) (hL : L ≤ w) (hh : h ≤ L) (hq : 61 ≤ q ∧ q ≤ 68) (hc : c ≤ 8) : ∀ (r i a f g : Nat) (C m : cz_M), i + (r + 1) = 5 → r + 1 < f → a ≤ w → pS w b a C m → m.1 0 24 = nI (5 * c + i) → (∀ j, j < i → C.1 q j = m.1 17 (5 * c + j) ∧ 0 ≤ C.1 q j) → ∃ C', eC C C' ∧ (∀ j, j ≠ 11 → C'.1 16 j = C.1 16 j) ∧ (∀ x, x ≠ 16 → x ≠ q → C'.1 x = C.1 x) ∧ ((cz_lp3 (l_Message_parseHeader_9 q a2) f C (nI h) (nI i) = some (1, C') ∧ a + (r + 1) ≤ h ∧ C'.1 16 11 = nI h ∧ ∃ m', b_MO_items_70 1 (cz_lp3 (l_MO_items_26 1) (g + r)) m (nI L) (nI h) = cz_lp3 (l_MO_items_26 1) g m' (nI L) (nI h) ∧ eM m m' ∧ m'.1 16 = m.1 16 ∧ m'.1 0 21 = nI h ∧ m'.1 0 24 = nI (5 * c + 5) ∧ (∀ j, j < 5 → C'.1 q j = m'.1 17 (5 * c + j) ∧ 0 ≤ C'.1 q j) ∧ ∀ j, j < 5 * c → m'.1 17 j = m.1 17 j) ∨ (cz_lp3 (l_Message_parseHeader_9 q a2) f C (nI h) (nI i) = some (0, C') ∧ ∃ m', b_MO_items_70 1 (cz_lp3 (l_MO_items_26 1) (g + r)) m (nI L) (nI h) = some (0, m') ∧ eM m m')) := by
  have hln : cp_ln q = 5 := by
    obtain ⟨x, rfl⟩ : ∃ x, q = 61 + x := ⟨q - 61, by omega⟩
    exact cp_ln61 (by omega)
  intro r
  induction r with
  | zero =>
    intro i a f g C m hi hf ha hS h24 hv
    obtain ⟨f, rfl⟩ : ∃ g, f = g + 1 + 1 := ⟨f - 2, by omega⟩
    have ei : i = 4 := by omega
    subst ei
    obtain ⟨x, a', a'1, a'2, n1, n2⟩ := ps_num hw hb ha (show h ≤ w by omega) hS
    rw [cz_lp3_s, l_Message_parseHeader_9, if_neg (show ¬ (5 : Int32) ≤ nI 4 by decide), n1, pb_i, hln, pc_in (show 4 < 5 by omega) (by decide), pc_in (show 4 < 5 by omega) (by decide), nI_clamp (show 4 < 2 ^ 31 by omega), pi_same, b_MO_items_70]
    rcases n2 with ⟨v, rfl, hv31, g1, g2, n3⟩ | ⟨rfl, m', n3, n4⟩
    · have r24 : (cz_i (cz_i m 0 21 (nI a')) 0 22 (nI v)).1 0 24 = nI (5 * c + 4) := by
        rw [pi_get, if_neg (by decide), pi_get, if_neg (by decide), h24]
      have r24' : (cz_i (cz_i (cz_i m 0 21 (nI a')) 0 22 (nI v)) 17 (5 * c + 4) (nI v)).1 0 24 = nI (5 * c + 4) := by
        rw [pi_row _ _ _ _ (by decide), r24]
      rw [if_neg (pn_m1 hv31), cz_lp3_s, l_Message_parseHeader_9, if_pos (by decide), b_Message_parseHeader_40, n3, pb_i, if_neg (show ¬ (1 : Int32) = 0 by decide), r24, pc_in (show 5 * c + 4 < mo_ln 17 by show _ < 60; omega) (by decide), nI_clamp (show 5 * c + 4 < 2 ^ 31 by omega), if_neg (show ¬ (1 : Int32) = 0 by decide), pi_same (cz_i m 0 21 (nI a')) 0 22 (nI v), r24', nI_1, pi_same _ 0 24, pn_rem5 (by omega), show (5 * c + 4 + 1) % 5 = 0 by omega, if_pos nI_0]
      have r21 : (cz_i (cz_i (cz_i (cz_i m 0 21 (nI a')) 0 22 (nI v)) 17 (5 * c + 4) (nI v)) 0 24 (nI (5 * c + 4 + 1))).1 0 21 = nI a' := by simp [pi_get]
      have r11 : (cz_i (cz_i C 16 11 (nI a')) q 4 (nI v)).1 16 11 = nI a' := by rw [pi_row _ _ _ _ (by omega), pi_same]
      have e1 : eC C (cz_i (cz_i C 16 11 (nI a')) q 4 (nI v)) := (eC.i (by omega)).tr (eC.i (by omega))
      have e2 : eM m (cz_i (cz_i (cz_i (cz_i m 0 21 (nI a')) 0 22 (nI v)) 17 (5 * c + 4) (nI v)) 0 24 (nI (5 * c + 4 + 1))) := (((eM.i0 (by omega)).tr (eM.i0 (by omega))).tr (eM.i (by omega))).tr (eM.i0 (by omega))
      rw [r21, r11]
      refine ⟨_, e1, fun j hj => by rw [pi_row _ _ _ _ (by omega), pi_get, if_neg (fun z => hj z.2)], fun x x1 x2 => by rw [pi_row _ _ _ _ x2, pi_row _ _ _ _ x1], ?_⟩
      by_cases e : a' = h
      · subst e
        rw [if_pos rfl, if_pos rfl]
        refine Or.inl ⟨rfl, by omega, r11, _, rfl, e2, ?_, r21, pi_same _ _ _ _, fun j hj => ?_, fun j hj => ?_⟩
        · rw [pi_row _ _ _ _ (by decide), pi_row _ _ _ _ (by decide), pi_row _ _ _ _ (by decide), pi_row _ _ _ _ (by decide)]
        · rw [pi_row _ _ _ _ (show (17 : Nat) ≠ 0 by decide), pi_get _ _ _ _ q j, pi_get _ _ _ _ 17 (5 * c + j)]
          by_cases ej : j = 4
          · rw [if_pos ⟨rfl, ej⟩, if_pos ⟨rfl, by omega⟩]
            exact ⟨rfl, nI_pos' hv31⟩
          · rw [if_neg (fun z => ej z.2), if_neg (fun z => ej (by omega)), pi_row _ _ _ _ (by omega), pi_row _ _ _ _ (by decide), pi_row _ _ _ _ (by decide)]
            exact hv j (by omega)
        · rw [pi_row _ _ _ _ (show (17 : Nat) ≠ 0 by decide), pi_get, if_neg (by omega), pi_row _ _ _ _ (by decide), pi_row _ _ _ _ (by decide)]
      · have e3 : ¬ nI a' = nI h := fun z => e ((nI_eq (by omega) (by omega)).mp z)
        rw [if_neg e3, if_neg e3]
        exact Or.inr ⟨rfl, _, rfl, e2⟩
    · rw [if_pos rfl, n3, pb_i, if_pos rfl]
      exact ⟨_, (eC.i (j := 11) (by omega)).tr (eC.i (k := q) (by omega)), fun j hj => by rw [pi_row _ _ _ _ (by omega), pi_get, if_neg (fun z => hj z.2)], fun x x1 x2 => by rw [pi_row _ _ _ _ x2, pi_row _ _ _ _ x1], Or.inr ⟨rfl, m', rfl, n4⟩⟩
  | succ r ih =>
    intro i a f g C m hi hf ha hS h24 hv
    obtain ⟨f, rfl⟩ : ∃ g, f = g + 1 := ⟨f - 1, by omega⟩
    obtain ⟨x, a', a'1, a'2, n1, n2⟩ := ps_num hw hb ha (show h ≤ w by omega) hS
    rw [cz_lp3_s, l_Message_parseHeader_9, if_neg (show ¬ (5 : Int32) ≤ nI i from nI_ge (b := 5) (by omega) (by decide)), n1, pb_i, hln, pc_in (show i < 5 by omega) (by decide), pc_in (show i < 5 by omega) (by decide), nI_clamp (show i < 2 ^ 31 by omega), pi_same, b_MO_items_70, nI_1]
    rcases n2 with ⟨v, rfl, hv31, g1, g2, n3⟩ | ⟨rfl, m', n3, n4⟩
    · have r24 : (cz_i (cz_i m 0 21 (nI a')) 0 22 (nI v)).1 0 24 = nI (5 * c + i) := by
        rw [pi_get, if_neg (by decide), pi_get, if_neg (by decide), h24]
      have r24' : (cz_i (cz_i (cz_i m 0 21 (nI a')) 0 22 (nI v)) 17 (5 * c + i) (nI v)).1 0 24 = nI (5 * c + i) := by
        rw [pi_row _ _ _ _ (by decide), r24]
      have hne : ¬ nI ((5 * c + i + 1) % 5) = 0 := nI_ne0 (by omega) (by omega)
      rw [if_neg (pn_m1 hv31), n3, pb_i, if_neg (show ¬ (1 : Int32) = 0 by decide), r24, pc_in (show 5 * c + i < mo_ln 17 by show _ < 60; omega) (by decide), nI_clamp (show 5 * c + i < 2 ^ 31 by omega), if_neg (show ¬ (1 : Int32) = 0 by decide), pi_same (cz_i m 0 21 (nI a')) 0 22 (nI v), r24', nI_1, pi_same _ 0 24, pn_rem5 (by omega), if_neg hne]
      have r21 : (cz_i (cz_i (cz_i (cz_i m 0 21 (nI a')) 0 22 (nI v)) 17 (5 * c + i) (nI v)) 0 24 (nI (5 * c + i + 1))).1 0 21 = nI a' := by simp [pi_get]
      have e1 : eC C (cz_i (cz_i C 16 11 (nI a')) q i (nI v)) := (eC.i (by omega)).tr (eC.i (by omega))
      have e2 : eM m (cz_i (cz_i (cz_i (cz_i m 0 21 (nI a')) 0 22 (nI v)) 17 (5 * c + i) (nI v)) 0 24 (nI (5 * c + i + 1))) := (((eM.i0 (by omega)).tr (eM.i0 (by omega))).tr (eM.i (by omega))).tr (eM.i0 (by omega))
      obtain ⟨C', c1, c2, c3, c4⟩ := ih (i + 1) a' f g (cz_i (cz_i C 16 11 (nI a')) q i (nI v)) (cz_i (cz_i (cz_i (cz_i m 0 21 (nI a')) 0 22 (nI v)) 17 (5 * c + i) (nI v)) 0 24 (nI (5 * c + i + 1))) (by omega) (by omega) (by omega) (hS.mk' (by rw [pi_row _ _ _ _ (by omega), pi_row _ _ _ _ (by decide)]) (by rw [pi_row _ _ _ _ (by omega), pi_row _ _ _ _ (by decide)]) (by rw [pi_row _ _ _ _ (by omega), pi_same]) e2 r21) (pi_same _ _ _ _) (fun j hj => by
        rw [pi_row _ _ _ _ (show (17 : Nat) ≠ 0 by decide), pi_get _ _ _ _ q j, pi_get _ _ _ _ 17 (5 * c + j)]
        by_cases ej : j = i
        · rw [if_pos ⟨rfl, ej⟩, if_pos ⟨rfl, by omega⟩]
          exact ⟨rfl, nI_pos' hv31⟩
        · rw [if_neg (fun z => ej z.2), if_neg (fun z => ej (by omega)), pi_row _ _ _ _ (by omega), pi_row _ _ _ _ (by decide), pi_row _ _ _ _ (by decide)]
          exact hv j (by omega))
      refine ⟨C', e1.tr c1, fun j hj => ?_, fun x x1 x2 => ?_, ?_⟩
      · rw [c2 j hj, pi_row _ _ _ _ (by omega), pi_get, if_neg (fun z => hj z.2)]
      · rw [c3 x x1 x2, pi_row _ _ _ _ x2, pi_row _ _ _ _ x1]
      · rw [show g + (r + 1) = (g + r) + 1 by omega, cz_lp3_s, l_MO_items_26, r21, pi_same, pn_rem5 (by omega), if_neg (show ¬ (1 : Int32) = 0 by decide), if_neg hne, b_MO_items_53, if_neg (show ¬ nI h < 0 from pn_lt0 (by omega)), if_neg (show ¬ (1 : Int32) = 0 by decide), b_MO_items_126, if_neg (show ¬ (1 : Int32) = 0 by decide), pi_same, pn_rem5 (by omega), if_neg hne]
        by_cases ea : L ≤ a'
        · rw [if_pos (nI_le ea (by omega))]
          rcases c4 with ⟨d1, d2, -⟩ | ⟨d1, -⟩
          · omega
          · exact Or.inr ⟨d1, _, rfl, e2⟩
        · rw [if_neg (nI_ge (by omega) (by omega))]
          rcases c4 with ⟨d1, d2, d3, m', d4, d5, d6, d7, d8, d9, d10⟩ | ⟨d1, m', d2, d3⟩
          · refine Or.inl ⟨d1, by omega, d3, m', d4, e2.tr d5, ?_, d7, d8, d9, fun j hj => ?_⟩
            · rw [d6, pi_row _ _ _ _ (by decide), pi_row _ _ _ _ (by decide), pi_row _ _ _ _ (by decide), pi_row _ _ _ _ (by decide)]
            · rw [d10 j hj, pi_row _ _ _ _ (show (17 : Nat) ≠ 0 by decide), pi_get, if_neg (by omega), pi_row _ _ _ _ (by decide), pi_row _ _ _ _ (by decide)]
          · exact Or.inr ⟨d1, m', d2, e2.tr d3⟩
    · rw [if_pos rfl, n3, pb_i, if_pos rfl]
      exact ⟨_, (eC.i (j := 11) (by omega)).tr (eC.i (k := q) (by omega)), fun j hj => by rw [pi_row _ _ _ _ (by omega), pi_get, if_neg (fun z => hj z.2)], fun x x1 x2 => by rw [pi_row _ _ _ _ x2, pi_row _ _ _ _ x1], Or.inr ⟨rfl, m', rfl, n4⟩⟩
