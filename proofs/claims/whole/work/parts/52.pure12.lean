/-! PURE: what is wanted; work -/
theorem wk_asked {n t : Nat} {C m : cz_M} (hP : ∀ p, p < 4 → rP n t C m p (2 + 2 * p)) (a : Int32) : ∀ (r p f g : Nat), p + r = 4 → r < f → r < g → ∃ v, (v = 0 ∨ v = 1) ∧ cz_lp2 (l_CP_isBodyAsked_2 a) f C (nI p) = some (v, C) ∧ cz_lp3 (l_MO_wanted_4 a) g m 0 (nI p) = some (v, m) ∧ cz_lp3 (l_MO_wanted_4 a) g m 1 (nI p) = some (1, m) := by
  intro r
  induction r with
  | zero =>
    intro p f g hp hf hg
    obtain ⟨f, rfl⟩ : ∃ g, f = g + 1 := ⟨f - 1, by omega⟩
    obtain ⟨g, rfl⟩ : ∃ f, g = f + 1 := ⟨g - 1, by omega⟩
    have e : p = 4 := by omega
    subst e
    refine ⟨0, Or.inl rfl, ?_, ?_, ?_⟩
    · rw [cz_lp2_s, l_CP_isBodyAsked_2, if_pos (by decide)]
    · rw [cz_lp3_s, l_MO_wanted_4, if_pos (by decide), if_pos (Or.inl rfl)]
    · rw [cz_lp3_s, l_MO_wanted_4, if_pos (by decide), if_pos (Or.inr rfl)]
  | succ r ih =>
    intro p f g hp hf hg
    obtain ⟨f, rfl⟩ : ∃ g, f = g + 1 := ⟨f - 1, by omega⟩
    obtain ⟨g, rfl⟩ : ∃ f, g = f + 1 := ⟨g - 1, by omega⟩
    have hp4 : p < 4 := by omega
    obtain ⟨v, v0, v1, v2, v3⟩ := ih (p + 1) f g (by omega) (by omega) (by omega)
    have h1 : cz_lp3 (l_MO_wanted_4 a) (g + 1) m 1 (nI p) = some (1, m) := by
      rw [cz_lp3_s, l_MO_wanted_4, if_neg (show ¬ (4 : Int32) ≤ nI p from nI_ge (b := 4) hp4 (by decide)), if_neg (by decide), b_MO_wanted_33, b_MO_wanted_38, nI_1]
      exact v3
    rw [cz_lp2_s, l_CP_isBodyAsked_2, if_neg (show ¬ (4 : Int32) ≤ nI p from nI_ge (b := 4) hp4 (by decide)), pc_in hp4 (by decide), nI_clamp (show p < 2 ^ 31 by omega), f_Peer_isAskedForBody, cz_lp3_s, l_MO_wanted_4, if_neg (show ¬ (4 : Int32) ≤ nI p from nI_ge (b := 4) hp4 (by decide)), if_pos rfl, pc_p hp4 (by omega) (by omega), pc_p hp4 (by omega) (by omega), nI_clamp (show p < 2 ^ 31 by omega), b_MO_wanted_33, b_MO_wanted_37, b_MO_wanted_38, b_MO_wanted_38, nI_1]
    obtain ⟨-, -, -, -, q5, -⟩ := hP p hp4
    rcases q5 with ⟨e1, e2⟩ | ⟨e1, e2, e3, ⟨x, x1, x2, x3⟩, e4⟩
    · rw [if_pos e2, pb_i, if_pos rfl, e1, if_neg (by decide)]
      exact ⟨v, v0, v1, v2, h1⟩
    · rw [if_neg (show ¬ C.1 (2 + 2 * p) 5 = 0 by rw [x3]; exact nI_ne0 (by omega) (by omega)), e2]
      rcases e4 with ⟨k1, k2⟩ | ⟨k1, k2, -⟩
      · rw [k1, k2, if_neg (by decide), pb_i, if_pos rfl, if_neg (by decide)]
        exact ⟨v, v0, v1, v2, h1⟩
      · rw [k1, k2, if_pos rfl, if_pos rfl]
        by_cases e : m.1 9 p = a
        · rw [if_pos e, pb_i, if_neg (by decide), if_pos e]
          exact ⟨1, Or.inr rfl, rfl, v3, h1⟩
        · rw [if_neg e, pb_i, if_pos rfl, if_neg e]
          exact ⟨v, v0, v1, v2, h1⟩
theorem wk_lack {n t : Nat} {C m : cz_M} (hB : rB n C m) (hP : ∀ p, p < 4 → rP n t C m p (2 + 2 * p)) : ∀ (d k c f g : Nat) (v : Int32), k < n → C.1 (69 + k) 1 = nI d → d ≤ k → c + d < 20 → d < f → d + 1 < g → ∃ w, cz_lp4 l_CP_wantedBlock_19 f C v (nI k) (nI d) = some (w, C) ∧ cz_lp4 l_MO_lacking_10 g m v (nI k) (nI c) = some (w, m) ∧ (w = v ∨ ∃ j, 0 < j ∧ j < n ∧ w = nI j) := by
  obtain ⟨hn, hI, hE⟩ := hB
  have h20 := hI.1.2
  intro d
  induction d with
  | zero =>
    intro k c f g v hk hd hdk hc hf hg
    obtain ⟨f, rfl⟩ : ∃ g, f = g + 1 := ⟨f - 1, by omega⟩
    obtain ⟨g, rfl⟩ : ∃ f, g = f + 1 + 1 := ⟨g - 2, by omega⟩
    have ek : k = 0 := by
      by_cases e : k = 0
      · exact e
      · obtain ⟨p, p1, p2, p3, p4, -⟩ := hI.2.2.2.2.1 k (by omega) hk
        obtain ⟨d', t', q1, q2, -⟩ := bk_dep hI (show p < n by omega)
        simp only at p4
        rw [q2, hd, nI_1, nI_eq (by omega) (by omega)] at p4
        omega
    subst ek
    have hs0 : m.1 3 0 = 0 := (hE.2.2.1 0 hk).trans hI.2.2.2.1.2.2.2.2.2.2.1
    refine ⟨v, ?_, ?_, Or.inl rfl⟩
    · rw [cz_lp4_s, l_CP_wantedBlock_19, if_pos (by decide)]
    · rw [cz_lp4_s, l_MO_lacking_10, if_neg (show ¬ (20 : Int32) ≤ nI c from nI_ge (b := 20) (by omega) (by decide)), if_neg (by decide), pc_in (show 0 < mo_ln 3 by decide) (by decide), nI_clamp (by omega), hs0, if_pos (by decide), b_MO_lacking_41, b_MO_lacking_42, mo_par hI hE hk, pb_i, if_pos rfl, cz_lp4_s, l_MO_lacking_10, if_pos (show (-1 : Int32) < 0 by decide)]
      by_cases e : (20 : Int32) ≤ nI c + 1
      · rw [if_pos e]
      · rw [if_neg e]
  | succ d ih =>
    intro k c f g v hk hd hdk hc hf hg
    obtain ⟨f, rfl⟩ : ∃ g, f = g + 1 := ⟨f - 1, by omega⟩
    obtain ⟨g, rfl⟩ : ∃ f, g = f + 1 := ⟨g - 1, by omega⟩
    obtain ⟨p, p1, p2, p3, p4, -⟩ := hI.2.2.2.2.1 k (by omega) hk
    obtain ⟨d', t', q1, q2, -⟩ := bk_dep hI (show p < n by omega)
    simp only at p4 q2
    have ed : d' = d := by
      rw [q2, hd, nI_1, nI_eq (by omega) (by omega)] at p4
      omega
    subst ed
    have hC : ∀ w, b_CP_wantedBlock_44 (cz_lp4 l_CP_wantedBlock_19 f) C w (nI k) (nI (d' + 1)) = cz_lp4 l_CP_wantedBlock_19 f C w (nI p) (nI d') := by
      intro w
      rw [b_CP_wantedBlock_44, pc_in (show k < cp_ln 22 by show k < 20; omega) (by decide), nI_clamp (by omega), p2, nI_pred]
    have hM : ∀ w, b_MO_lacking_42 (cz_lp4 l_MO_lacking_10 g) m (nI k) (nI c) w = cz_lp4 l_MO_lacking_10 g m w (nI p) (nI (c + 1)) := by
      intro w
      rw [b_MO_lacking_42, mo_par hI hE hk, pb_i, if_neg (by omega), p2, nI_1]
    rw [cz_lp4_s, l_CP_wantedBlock_19, if_neg (nI_nle (by omega) (by omega)), cp_hasBody (by omega), pb_i, cz_lp4_s, l_MO_lacking_10, if_neg (show ¬ (20 : Int32) ≤ nI c from nI_ge (b := 20) (by omega) (by decide)), if_neg (pn_lt0 (by omega)), pc_in (show k < mo_ln 3 by show k < 20; omega) (by decide), nI_clamp (by omega), hE.2.2.1 k hk, b_MO_lacking_41, hM, hC]
    rcases hI.2.2.2.2.2.2.1 k hk with e | ⟨s, s1, s2, -⟩
    · obtain ⟨a, a0, a1, a2, -⟩ := wk_asked hP (nI k) 4 0 100 100 (by omega) (by omega) (by omega)
      have a1 : f_CP_isBodyAsked C (nI k) = some (a, C) := a1
      have a2 : f_MO_wanted m (nI k) = some (a, m) := a2
      rw [if_pos e, if_pos rfl, a1, pb_i, if_neg (show ¬ (0 : Int32) ≤ C.1 25 k by rw [e]; decide), a2, pb_i, hM, hC, hC]
      by_cases ea : a = 0
      · rw [if_pos ea, if_pos ea]
        obtain ⟨w, w1, w2, w3⟩ := ih p (c + 1) f g (nI k) (by omega) q2 q1 (by omega) (by omega) (by omega)
        refine ⟨w, w1, w2, ?_⟩
        rcases w3 with w3 | w3
        · exact Or.inr ⟨k, by omega, hk, w3⟩
        · exact Or.inr w3
      · rw [if_neg ea, if_neg ea, b_MO_lacking_41, hM]
        exact ih p (c + 1) f g v (by omega) q2 q1 (by omega) (by omega) (by omega)
    · have e : ¬ C.1 25 k = -1 := by
        rw [s2]
        exact pn_m1 (by omega)
      rw [if_neg e, if_neg (show ¬ (1 : Int32) = 0 by decide), if_pos (show (0 : Int32) ≤ C.1 25 k by rw [s2]; exact nI_pos' (by omega))]
      exact ih p (c + 1) f g v (by omega) q2 q1 (by omega) (by omega) (by omega)
theorem wk_lp {t : Nat} (ht : t ≤ 700) : ∀ (r p f g x : Nat) (v : Int32) (C m : cz_M), p + r = 4 → r < f → r < g → rR (t + 1) C m → C.1 0 10 = nI x → x ≤ 4 * t + p → ∃ w C' m', cz_lp3 l_CP_work_4 f C v (nI p) = some (w, C') ∧ cz_lp3 l_MO_work_4 g m v (nI p) = some (w, m') ∧ rR (t + 1) C' m' := by
  intro r
  induction r with
  | zero =>
    intro p f g x v C m hp hf hg h hx hx2
    obtain ⟨f, rfl⟩ : ∃ g, f = g + 1 := ⟨f - 1, by omega⟩
    obtain ⟨g, rfl⟩ : ∃ f, g = f + 1 := ⟨g - 1, by omega⟩
    have e : p = 4 := by omega
    subst e
    refine ⟨v, C, m, ?_, ?_, h⟩
    · rw [cz_lp3_s, l_CP_work_4, if_pos (by decide)]
    · rw [cz_lp3_s, l_MO_work_4, if_pos (by decide)]
  | succ r ih =>
    intro p f g x v C m hp hf hg h hx hx2
    obtain ⟨f, rfl⟩ : ∃ g, f = g + 1 := ⟨f - 1, by omega⟩
    obtain ⟨g, rfl⟩ : ∃ f, g = f + 1 := ⟨g - 1, by omega⟩
    have hp4 : p < 4 := by omega
    have h0 := h
    obtain ⟨n, hB, hP, hW, hG⟩ := h0
    have h20 := hB.2.1.1.2
    have h1n := hB.2.1.1.1
    have hskip : ∃ w C' m', b_CP_work_37 (cz_lp3 l_CP_work_4 f) C v (nI p) = some (w, C') ∧ b_MO_work_124 (cz_lp3 l_MO_work_4 g) m v (nI p) = some (w, m') ∧ rR (t + 1) C' m' := by
      rw [b_CP_work_37, b_MO_work_124, nI_1]
      exact ih (p + 1) f g x v C m (by omega) (by omega) (by omega) h hx (by omega)
    obtain ⟨⟨st, s, s1, s2, s3, s4, s5, s6, s7⟩, q2, q3, q4, q5, q6⟩ := hP p hp4
    rw [cz_lp3_s, l_CP_work_4, if_neg (show ¬ (4 : Int32) ≤ nI p from nI_ge (b := 4) hp4 (by decide)), pc_in hp4 (by decide), nI_clamp (show p < 2 ^ 31 by omega), f_Peer_isIdle, s2, cz_lp3_s, l_MO_work_4, if_neg (show ¬ (4 : Int32) ≤ nI p from nI_ge (b := 4) hp4 (by decide)), pc_p hp4 (by omega) (by omega), pc_p hp4 (by omega) (by omega), nI_clamp (show p < 2 ^ 31 by omega), s3]
    by_cases e : st = 2
    · subst e
      rw [if_pos (show nI 2 = 2 from rfl), if_pos (show nI 2 = 2 from rfl)]
      rcases q5 with ⟨e1, e2⟩ | ⟨e1, e2, e3, ⟨y, y1, y2, y3⟩, e4⟩
      · obtain ⟨d, d1, d2, d3⟩ := hB.num (bk_heavy_lt hB.2.1)
        have hlt := bk_heavy_lt hB.2.1
        obtain ⟨w, w1, w2, w3⟩ := wk_lack hB hP d (bk_heavy n (C.1 23)) 0 100 100 (-1) hlt d2 d1 (by omega) (by omega) (by omega)
        have l1 : f_CP_wantedBlock C = some (w, C) := by
          rw [f_CP_wantedBlock, cp_heaviest hB.1 h1n h20, pb_i, cp_numberOf (by omega), pb_i, d2]
          exact w1
        have l2 : f_MO_lacking m = some (w, m) := by
          rw [f_MO_lacking, mo_heavy hB.2.1 hB.2.2, pb_i]
          exact w2
        rw [if_pos e2, pb_i, if_neg (show ¬ (1 : Int32) = 0 by decide), pc_k hp4 (by omega), f_CP_ask, l1, pb_i, cp_heaviest hB.1 h1n h20, pb_i, cp_numberOf (by omega), pb_i, cp_isFull hB.1 h20, pb_i, d2, nI_1, if_pos e1, l2, pb_i, mo_heavy hB.2.1 hB.2.2, pb_i, show (5 : Int32) * nI (bk_heavy n (C.1 23)) = nI (5 * bk_heavy n (C.1 23)) from pk_mul 5 _, nI_1, pc_in (show 5 * bk_heavy n (C.1 23) + 1 < mo_ln 1 by show _ < 100; omega) (by decide), nI_clamp (by omega), pc_k (show p < mo_ln 7 by rw [mo_ln4 (by omega) (by omega)]; exact hp4) (by omega), d3, nI_1, ← q3]
        have hfrom : ∃ a, a < 2 ^ 31 ∧ cz_max (nI (d + 1) - C.1 (2 + 2 * p) 3) 1 = nI a ∧ (if (1 : Int32) ≤ nI (d + 1) - C.1 (2 + 2 * p) 3 then b_MO_work_74 (cz_lp3 l_MO_work_4 g) m v (nI p) w (nI (d + 1) - C.1 (2 + 2 * p) 3) else b_MO_work_74 (cz_lp3 l_MO_work_4 g) m v (nI p) w 1) = b_MO_work_74 (cz_lp3 l_MO_work_4 g) m v (nI p) w (nI a) := by
          by_cases z : (1 : Int32) ≤ nI (d + 1) - C.1 (2 + 2 * p) 3
          · obtain ⟨a, a1, a2⟩ := nI_of (show ¬ nI (d + 1) - C.1 (2 + 2 * p) 3 < 0 from Int32.not_lt.mpr (Int32.le_trans (by decide) z))
            refine ⟨a, a1, ?_, ?_⟩
            · rw [cz_max, if_neg (Int32.not_lt.mpr z), a2]
            · rw [if_pos z, a2]
          · refine ⟨1, by omega, ?_, ?_⟩
            · rw [cz_max, if_pos (Int32.not_le.mp z)]
              rfl
            · rw [if_neg z]
              rfl
        obtain ⟨a, a1, a2, a3⟩ := hfrom
        rw [a2, a3, b_MO_work_74]
        by_cases ew : w = -1
        · subst ew
          rw [if_pos (show (-1 : Int32) = -1 from rfl), if_pos (show (-1 : Int32) < 0 by decide), hB.2.2.1]
          by_cases e20 : n = 20
          · subst e20
            rw [if_pos (show (20 : Nat) = 20 from rfl), if_neg (show ¬ (1 : Int32) = 0 by decide), pb_i, if_pos (show (0 : Int32) = 0 from rfl), if_pos (show (20 : Int32) ≤ nI 20 by decide)]
            exact hskip
          · rw [if_neg e20, if_pos (show (0 : Int32) = 0 from rfl), if_neg (show ¬ (20 : Int32) ≤ nI n from nI_ge (b := 20) (by omega) (by decide)), pc_p hp4 (by omega) (by omega), nI_clamp (show p < 2 ^ 31 by omega), q2]
            by_cases eb : m.1 6 p < nI a
            · rw [if_neg (Int32.not_le.mpr eb), pb_i, if_pos rfl, if_pos eb]
              exact hskip
            · obtain ⟨C', m', r1, r2, r3, r4⟩ := rR.askHeaders hp4 hB hP hW hG s3 a1 hx (by omega) (by omega)
              rw [if_pos (Int32.not_lt.mp eb), r1, pb_v, pb_i, if_neg (show ¬ (1 : Int32) = 0 by decide), if_neg eb, r2, pb_v, b_CP_work_37, b_MO_work_124, nI_1]
              exact ih (p + 1) f g (x + 1) (v + 1) C' m' (by omega) (by omega) (by omega) r3 r4 (by omega)
        · rcases w3 with w3 | ⟨k, k1, k2, rfl⟩
          · exact absurd w3 ew
          · obtain ⟨C', m', r1, r2, r3, r4⟩ := rR.askBody hp4 hB hP hW hG s3 k1 k2 hx (by omega) (by omega)
            rw [if_neg ew, r1, pb_v, pb_i, if_neg (show ¬ (1 : Int32) = 0 by decide), if_neg (pn_lt0 (by omega)), r2, pb_v, b_CP_work_37, b_MO_work_124, nI_1]
            exact ih (p + 1) f g (x + 1) (v + 1) C' m' (by omega) (by omega) (by omega) r3 r4 (by omega)
      · rw [if_neg (show ¬ C.1 (2 + 2 * p) 5 = 0 by rw [y3]; exact nI_ne0 (by omega) (by omega)), pb_i, if_pos rfl, if_neg (show ¬ m.1 8 p = 0 by rcases e4 with ⟨e4, -⟩ | ⟨e4, -⟩ <;> (rw [e4]; decide))]
        exact hskip
    · have e5 : ¬ nI st = 2 := fun z => e ((nI_eq (b := 2) (by omega) (by omega)).mp z)
      rw [if_neg e5, if_neg e5, pb_i, if_pos rfl]
      exact hskip
theorem st_work {t : Nat} {C m : cz_M} (h : rR t C m) (ht : t ≤ 700) : ∃ r C' m', f_CP_work C = some (r, C') ∧ f_MO_work m = some (r, m') ∧ rR (t + 1) C' m' := by
  have h0 := h
  obtain ⟨n, -, -, -, -, -, -, -, x, x1, x2, -⟩ := h0
  exact wk_lp ht 4 0 100 100 x 0 C m (by omega) (by omega) (by omega) (h.mono (by omega)) x2 (by omega)
