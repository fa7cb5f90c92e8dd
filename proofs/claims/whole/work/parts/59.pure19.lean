/-! PURE: a message, read -/
def pM (v : Nat) (C m : cz_M) : Prop :=
  C.1 16 0 = nI v ∧ (v = 0 → C.1 16 1 = m.1 16 0 ∧ C.1 16 2 = m.1 16 1) ∧
  (v = 1 → C.1 16 3 = m.1 16 0 ∧ C.1 16 4 = m.1 16 1 ∧ C.1 16 5 = m.1 16 2 ∧ 0 ≤ C.1 16 3 ∧ 0 ≤ C.1 16 4 ∧ 0 ≤ C.1 16 5) ∧
  (v = 2 → C.1 16 3 = m.1 16 0 ∧ ∃ c, c ≤ 8 ∧ C.1 16 7 = nI c ∧ m.1 0 24 = nI (5 * c) ∧ ∀ i j, i < c → j < 5 → C.1 (61 + i) j = m.1 17 (5 * i + j) ∧ 0 ≤ C.1 (61 + i) j) ∧
  (v = 3 → C.1 16 3 = m.1 16 0 ∧ C.1 16 6 = m.1 16 1 ∧ 0 ≤ C.1 16 3) ∧
  (v = 4 → C.1 16 3 = m.1 16 0 ∧ ∃ c, c ≤ 8 ∧ C.1 16 7 = nI c ∧ m.1 0 24 = nI c ∧ ∀ j, j < c → C.1 18 j = m.1 17 j ∧ 0 ≤ C.1 18 j)
theorem fld {w a k s s1 : Nat} {b : Nat → Nat} {C m : cz_M} (hw : w ≤ 56) (hb : ∀ i, i < w → b i < 256) (ha : a ≤ w) (h : pS w b a C m) (hk : k < s) (hs : s ≤ 3) (h11 : s1 ≠ 11) (f : Nat) (v1 : Int32) : ∃ r a', a ≤ a' ∧ a' ≤ w ∧ f_Message_nextNumber C (nI w) = some (r, cz_i C 16 11 (nI a')) ∧ cS w b a' (cz_i (cz_i C 16 11 (nI a')) 16 s1 r) ∧ eC C (cz_i (cz_i C 16 11 (nI a')) 16 s1 r) ∧ ((∃ v m', r = nI v ∧ v < 2 ^ 31 ∧ a < a' ∧ cz_lp4 l_MO_decode_80 (f + 1) m v1 (nI s) (nI k) = cz_lp4 l_MO_decode_80 f m' v1 (nI s) (nI (k + 1)) ∧ pS w b a' (cz_i (cz_i C 16 11 (nI a')) 16 s1 r) m' ∧ eM m m' ∧ m'.1 16 k = r ∧ ∀ j, j ≠ k → m'.1 16 j = m.1 16 j) ∨ (r = -1 ∧ ∃ m', cz_lp4 l_MO_decode_80 (f + 1) m v1 (nI s) (nI k) = some (-1, m') ∧ eM m m')) := by
  obtain ⟨r, a', a1, a2, n1, n2⟩ := ps_num hw hb ha (Nat.le_refl w) h
  have hC : cS w b a' (cz_i (cz_i C 16 11 (nI a')) 16 s1 r) := ⟨by rw [pi_row _ _ _ _ (by decide), pi_row _ _ _ _ (by decide)]; exact h.1.1, by rw [pi_get, if_neg (by omega), pi_same], by rw [pi_row _ _ _ _ (by decide), pi_row _ _ _ _ (by decide)]; exact h.1.2.2⟩
  refine ⟨r, a', a1, a2, n1, hC, (eC.i (by omega)).tr (eC.i (by omega)), ?_⟩
  rw [cz_lp4_s, l_MO_decode_80, if_neg (nI_ge hk (by omega)), h.2.1]
  rcases n2 with ⟨v, rfl, hv, g1, g2, n3⟩ | ⟨rfl, m', n3, n4⟩
  · rw [n3, pb_i, if_neg (show ¬ (1 : Int32) = 0 by decide), pc_in (show k < mo_ln 16 by show k < 3; omega) (by decide), nI_clamp (by omega), pi_same, nI_1]
    have e2 : eM m (cz_i (cz_i (cz_i m 0 21 (nI a')) 0 22 (nI v)) 16 k (nI v)) := ((eM.i0 (by omega)).tr (eM.i0 (by omega))).tr (eM.i (by omega))
    refine Or.inl ⟨v, _, rfl, hv, g1, rfl, h.mk' ?_ ?_ hC.2.1 e2 (by simp [pi_get]), e2, pi_same _ _ _ _, fun j hj => ?_⟩
    · rw [pi_row _ _ _ _ (by decide), pi_row _ _ _ _ (by decide)]
    · rw [pi_row _ _ _ _ (by decide), pi_row _ _ _ _ (by decide)]
    · rw [pi_get, if_neg (fun z => hj z.2), pi_row _ _ _ _ (by decide), pi_row _ _ _ _ (by decide)]
  · rw [n3, pb_i, if_pos rfl]
    exact Or.inr ⟨rfl, m', rfl, n4⟩
theorem fend (m : cz_M) (v1 : Int32) (s f : Nat) (hs : s ≤ 3) : cz_lp4 l_MO_decode_80 (f + 1) m v1 (nI s) (nI s) = b_MO_decode_114 m v1 := by
  rw [cz_lp4_s, l_MO_decode_80, if_pos (nI_le (Nat.le_refl _) (by omega))]
/-- what the two make of the fields -/
abbrev pR (w kd : Nat) (C m : cz_M) (X : Option (Int32 × cz_M)) : Prop := ∃ r C', f_Message_parseFields C (nI w) = some (r, C') ∧ (r = 0 ∨ r = 1) ∧ eC C C' ∧ ((r = 1 ∧ C'.1 16 11 = nI w ∧ ∃ m', X = some (nI kd, m') ∧ eM m m' ∧ pM kd C' m') ∨ ((r = 0 ∨ ¬ C'.1 16 11 = nI w) ∧ ∃ m', X = some (-1, m') ∧ eM m m'))
theorem pR.fin {w a kd : Nat} {b : Nat → Nat} {C C' m m' : cz_M} {X : Option (Int32 × cz_M)} (hw : w ≤ 56) (ha : a ≤ w) (h1 : f_Message_parseFields C (nI w) = some (1, C')) (hX : X = if m'.1 0 21 = m'.1 0 19 then some (nI kd, m') else some (-1, m')) (h : pS w b a C' m') (e1 : eC C C') (e2 : eM m m') (hM : pM kd C' m') : pR w kd C m X := by
  refine ⟨1, C', h1, Or.inr rfl, e1, ?_⟩
  rw [hX, h.2.1, h.2.2.1]
  by_cases e : a = w
  · subst e
    rw [if_pos rfl]
    exact Or.inl ⟨rfl, h.1.2.1, m', rfl, e2, hM⟩
  · have e3 : ¬ nI a = nI w := fun z => e ((nI_eq (by omega) (by omega)).mp z)
    rw [if_neg e3]
    exact Or.inr ⟨Or.inr (by rw [h.1.2.1]; exact e3), m', rfl, e2⟩
theorem pR.no {w kd : Nat} {C C' m m' : cz_M} {X : Option (Int32 × cz_M)} (h1 : f_Message_parseFields C (nI w) = some (0, C')) (hX : X = some (-1, m')) (e1 : eC C C') (e2 : eM m m') : pR w kd C m X := ⟨0, C', h1, Or.inl rfl, e1, Or.inr ⟨Or.inl rfl, m', hX, e2⟩⟩
section PF
variable {w a : Nat} {b : Nat → Nat} {C m : cz_M}
theorem pf5 (hw : w ≤ 56) (hb : ∀ i, i < w → b i < 256) (ha : a ≤ w) (h : pS w b a C m) (hk : C.1 16 0 = nI 5) : pR w 5 C m (b_MO_decode_77 m 5 0) := by
  refine pR.fin hw ha ?_ ?_ h (eC.rf C) (eM.rf m) ⟨hk, fun z => absurd z (by decide), fun z => absurd z (by decide), fun z => absurd z (by decide), fun z => absurd z (by decide), fun z => absurd z (by decide)⟩
  · rw [f_Message_parseFields, hk, if_neg (by decide), if_neg (by decide), if_neg (by decide), if_neg (by decide), if_neg (by decide), if_pos (by decide)]
  · rw [b_MO_decode_77]
    exact (fend m 5 0 99 (by omega)).trans (by rw [b_MO_decode_114, if_neg (by decide), if_neg (by decide), b_MO_decode_143]; rfl)
theorem pf0 (hw : w ≤ 56) (hb : ∀ i, i < w → b i < 256) (ha : a ≤ w) (h : pS w b a C m) (hk : C.1 16 0 = nI 0) : pR w 0 C m (b_MO_decode_77 m 0 2) := by
  obtain ⟨r1, a1, x1, x2, x3, x4, x5, x6⟩ := fld (s1 := 1) hw hb ha h (show 0 < 2 by omega) (by omega) (by omega) 99 0
  have hX : b_MO_decode_77 m 0 2 = cz_lp4 l_MO_decode_80 (99 + 1) m 0 (nI 2) (nI 0) := rfl
  have hP : f_Message_parseFields C (nI w) = (cz_bi (f_Message_nextNumber (cz_i (cz_i C 16 11 (nI a1)) 16 1 r1) (nI w)) (fun r56 M56 => (if ((cz_i M56 16 2 r56).1 16 1) = (-1 : Int32) then (some ((0 : Int32), cz_i M56 16 2 r56)) else ((if ((cz_i M56 16 2 r56).1 16 2) = (-1 : Int32) then (some ((0 : Int32), cz_i M56 16 2 r56)) else (some ((1 : Int32), cz_i M56 16 2 r56))))))) := by
    rw [f_Message_parseFields, hk, if_pos (by decide), x3, pb_i]
  rw [hX]
  rcases x6 with ⟨v1, m1, rfl, hv1, g1, g2, g3, g4, g5, g6⟩ | ⟨rfl, m1, g1, g2⟩
  · obtain ⟨r2, a2, y1, y2, y3, y4, y5, y6⟩ := fld (s1 := 2) hw hb x2 g3 (show 1 < 2 by omega) (by omega) (by omega) 98 0
    have c1 : (cz_i (cz_i (cz_i (cz_i C 16 11 (nI a1)) 16 1 (nI v1)) 16 11 (nI a2)) 16 2 r2).1 16 1 = nI v1 := by simp [pi_get]
    have c2 : (cz_i (cz_i (cz_i (cz_i C 16 11 (nI a1)) 16 1 (nI v1)) 16 11 (nI a2)) 16 2 r2).1 16 2 = r2 := pi_same _ _ _ _
    have c0 : (cz_i (cz_i (cz_i (cz_i C 16 11 (nI a1)) 16 1 (nI v1)) 16 11 (nI a2)) 16 2 r2).1 16 0 = nI 0 := by simp [pi_get, hk]
    rw [y3, pb_i, c1, c2, if_neg (pn_m1 hv1)] at hP
    rcases y6 with ⟨v2, m2, rfl, hv2, k1, k2, k3, k4, k5, k6⟩ | ⟨rfl, m2, k1, k2⟩
    · rw [if_neg (pn_m1 hv2)] at hP
      refine pR.fin hw y2 hP ?_ k3 (x5.tr y5) (g4.tr k4) ⟨c0, fun _ => ⟨?_, ?_⟩, fun z => absurd z (by decide), fun z => absurd z (by decide), fun z => absurd z (by decide), fun z => absurd z (by decide)⟩
      · rw [g2]
        refine Eq.trans k2 ?_
        exact (fend m2 0 2 97 (by omega)).trans (by rw [b_MO_decode_114, if_neg (by decide), if_neg (by decide), b_MO_decode_143]; rfl)
      · rw [c1, k6 0 (by decide), g5]
      · rw [c2, k5]
    · rw [if_pos rfl] at hP
      exact pR.no hP (g2.trans k1) (x5.tr y5) (g4.tr k2)
  · obtain ⟨r2, a2, y2, y3⟩ := cs_num hw hb x2 (Nat.le_refl w) x4
    have c1 : (cz_i (cz_i (cz_i (cz_i C 16 11 (nI a1)) 16 1 (-1)) 16 11 (nI a2)) 16 2 r2).1 16 1 = -1 := by simp [pi_get]
    rw [y3, pb_i, c1, if_pos rfl] at hP
    exact pR.no hP g1 (x5.tr ((eC.i (by omega)).tr (eC.i (by omega)))) g2
theorem pf3 (hw : w ≤ 56) (hb : ∀ i, i < w → b i < 256) (ha : a ≤ w) (h : pS w b a C m) (hk : C.1 16 0 = nI 3) : pR w 3 C m (b_MO_decode_77 m 3 2) := by
  obtain ⟨r1, a1, x1, x2, x3, x4, x5, x6⟩ := fld (s1 := 3) hw hb ha h (show 0 < 2 by omega) (by omega) (by omega) 99 3
  have hX : b_MO_decode_77 m 3 2 = cz_lp4 l_MO_decode_80 (99 + 1) m 3 (nI 2) (nI 0) := rfl
  have hP : f_Message_parseFields C (nI w) = (cz_bi (f_Message_nextNumber (cz_i (cz_i C 16 11 (nI a1)) 16 3 r1) (nI w)) (fun r56 M56 => (if ((cz_i M56 16 6 r56).1 16 3) = (-1 : Int32) then (some ((0 : Int32), cz_i M56 16 6 r56)) else ((if ((cz_i M56 16 6 r56).1 16 6) = (-1 : Int32) then (some ((0 : Int32), cz_i M56 16 6 r56)) else (some ((1 : Int32), cz_i M56 16 6 r56))))))) := by
    rw [f_Message_parseFields, hk, if_neg (by decide), if_neg (by decide), if_neg (by decide), if_pos (by decide), x3, pb_i]
  rw [hX]
  rcases x6 with ⟨v1, m1, rfl, hv1, g1, g2, g3, g4, g5, g6⟩ | ⟨rfl, m1, g1, g2⟩
  · obtain ⟨r2, a2, y1, y2, y3, y4, y5, y6⟩ := fld (s1 := 6) hw hb x2 g3 (show 1 < 2 by omega) (by omega) (by omega) 98 3
    have c1 : (cz_i (cz_i (cz_i (cz_i C 16 11 (nI a1)) 16 3 (nI v1)) 16 11 (nI a2)) 16 6 r2).1 16 3 = nI v1 := by simp [pi_get]
    have c2 : (cz_i (cz_i (cz_i (cz_i C 16 11 (nI a1)) 16 3 (nI v1)) 16 11 (nI a2)) 16 6 r2).1 16 6 = r2 := pi_same _ _ _ _
    have c0 : (cz_i (cz_i (cz_i (cz_i C 16 11 (nI a1)) 16 3 (nI v1)) 16 11 (nI a2)) 16 6 r2).1 16 0 = nI 3 := by simp [pi_get, hk]
    rw [y3, pb_i, c1, c2, if_neg (pn_m1 hv1)] at hP
    rcases y6 with ⟨v2, m2, rfl, hv2, k1, k2, k3, k4, k5, k6⟩ | ⟨rfl, m2, k1, k2⟩
    · rw [if_neg (pn_m1 hv2)] at hP
      refine pR.fin hw y2 hP ?_ k3 (x5.tr y5) (g4.tr k4) ⟨c0, fun z => absurd z (by decide), fun z => absurd z (by decide), fun z => absurd z (by decide), fun _ => ⟨?_, ?_, ?_⟩, fun z => absurd z (by decide)⟩
      · rw [g2]
        refine Eq.trans k2 ?_
        exact (fend m2 3 2 97 (by omega)).trans (by rw [b_MO_decode_114, if_neg (by decide), if_neg (by decide), b_MO_decode_143]; rfl)
      · rw [c1, k6 0 (by decide), g5]
      · rw [c2, k5]
      · rw [c1]
        exact nI_pos' hv1
    · rw [if_pos rfl] at hP
      exact pR.no hP (g2.trans k1) (x5.tr y5) (g4.tr k2)
  · obtain ⟨r2, a2, y2, y3⟩ := cs_num hw hb x2 (Nat.le_refl w) x4
    have c1 : (cz_i (cz_i (cz_i (cz_i C 16 11 (nI a1)) 16 3 (-1)) 16 11 (nI a2)) 16 6 r2).1 16 3 = -1 := by simp [pi_get]
    rw [y3, pb_i, c1, if_pos rfl] at hP
    exact pR.no hP g1 (x5.tr ((eC.i (by omega)).tr (eC.i (by omega)))) g2
theorem pf1 (hw : w ≤ 56) (hb : ∀ i, i < w → b i < 256) (ha : a ≤ w) (h : pS w b a C m) (hk : C.1 16 0 = nI 1) : pR w 1 C m (b_MO_decode_77 m 1 3) := by
  obtain ⟨r1, a1, x1, x2, x3, x4, x5, x6⟩ := fld (s1 := 3) hw hb ha h (show 0 < 3 by omega) (by omega) (by omega) 99 1
  have hX : b_MO_decode_77 m 1 3 = cz_lp4 l_MO_decode_80 (99 + 1) m 1 (nI 3) (nI 0) := rfl
  have hP : f_Message_parseFields C (nI w) = (cz_bi (f_Message_nextNumber (cz_i (cz_i C 16 11 (nI a1)) 16 3 r1) (nI w)) (fun r96 M96 => (cz_bi (f_Message_nextNumber (cz_i M96 16 4 r96) (nI w)) (fun r105 M105 => (if ((cz_i M105 16 5 r105).1 16 3) = (-1 : Int32) then (some ((0 : Int32), cz_i M105 16 5 r105)) else ((if ((cz_i M105 16 5 r105).1 16 4) = (-1 : Int32) then (some ((0 : Int32), cz_i M105 16 5 r105)) else ((if ((cz_i M105 16 5 r105).1 16 5) = (-1 : Int32) then (some ((0 : Int32), cz_i M105 16 5 r105)) else (some ((1 : Int32), cz_i M105 16 5 r105))))))))))) := by
    rw [f_Message_parseFields, hk, if_neg (by decide), if_pos (by decide), x3, pb_i]
  rw [hX]
  rcases x6 with ⟨v1, m1, rfl, hv1, g1, g2, g3, g4, g5, g6⟩ | ⟨rfl, m1, g1, g2⟩
  · obtain ⟨r2, a2, y1, y2, y3, y4, y5, y6⟩ := fld (s1 := 4) hw hb x2 g3 (show 1 < 3 by omega) (by omega) (by omega) 98 1
    rw [y3, pb_i] at hP
    rcases y6 with ⟨v2, m2, rfl, hv2, k1, k2, k3, k4, k5, k6⟩ | ⟨rfl, m2, k1, k2⟩
    · obtain ⟨r3, a3, z1, z2, z3, z4, z5, z6⟩ := fld (s1 := 5) hw hb y2 k3 (show 2 < 3 by omega) (by omega) (by omega) 97 1
      have c1 : (cz_i (cz_i (cz_i (cz_i (cz_i (cz_i C 16 11 (nI a1)) 16 3 (nI v1)) 16 11 (nI a2)) 16 4 (nI v2)) 16 11 (nI a3)) 16 5 r3).1 16 3 = nI v1 := by simp [pi_get]
      have c2 : (cz_i (cz_i (cz_i (cz_i (cz_i (cz_i C 16 11 (nI a1)) 16 3 (nI v1)) 16 11 (nI a2)) 16 4 (nI v2)) 16 11 (nI a3)) 16 5 r3).1 16 4 = nI v2 := by simp [pi_get]
      have c3 : (cz_i (cz_i (cz_i (cz_i (cz_i (cz_i C 16 11 (nI a1)) 16 3 (nI v1)) 16 11 (nI a2)) 16 4 (nI v2)) 16 11 (nI a3)) 16 5 r3).1 16 5 = r3 := pi_same _ _ _ _
      have c0 : (cz_i (cz_i (cz_i (cz_i (cz_i (cz_i C 16 11 (nI a1)) 16 3 (nI v1)) 16 11 (nI a2)) 16 4 (nI v2)) 16 11 (nI a3)) 16 5 r3).1 16 0 = nI 1 := by simp [pi_get, hk]
      rw [z3, pb_i, c1, c2, c3, if_neg (pn_m1 hv1), if_neg (pn_m1 hv2)] at hP
      rcases z6 with ⟨v3, m3, rfl, hv3, l1, l2, l3, l4, l5, l6⟩ | ⟨rfl, m3, l1, l2⟩
      · rw [if_neg (pn_m1 hv3)] at hP
        refine pR.fin hw z2 hP ?_ l3 ((x5.tr y5).tr z5) ((g4.tr k4).tr l4) ⟨c0, fun z => absurd z (by decide), fun _ => ⟨?_, ?_, ?_, ?_, ?_, ?_⟩, fun z => absurd z (by decide), fun z => absurd z (by decide), fun z => absurd z (by decide)⟩
        · rw [g2]
          refine Eq.trans k2 (Eq.trans l2 ?_)
          exact (fend m3 1 3 96 (by omega)).trans (by rw [b_MO_decode_114, if_neg (by decide), if_neg (by decide), b_MO_decode_143]; rfl)
        · rw [c1, l6 0 (by decide), k6 0 (by decide), g5]
        · rw [c2, l6 1 (by decide), k5]
        · rw [c3, l5]
        · rw [c1]
          exact nI_pos' hv1
        · rw [c2]
          exact nI_pos' hv2
        · rw [c3]
          exact nI_pos' hv3
      · rw [if_pos rfl] at hP
        exact pR.no hP (g2.trans (k2.trans l1)) ((x5.tr y5).tr z5) ((g4.tr k4).tr l2)
    · obtain ⟨r3, a3, z2, z3⟩ := cs_num hw hb y2 (Nat.le_refl w) y4
      have c1 : (cz_i (cz_i (cz_i (cz_i (cz_i (cz_i C 16 11 (nI a1)) 16 3 (nI v1)) 16 11 (nI a2)) 16 4 (-1)) 16 11 (nI a3)) 16 5 r3).1 16 3 = nI v1 := by simp [pi_get]
      have c2 : (cz_i (cz_i (cz_i (cz_i (cz_i (cz_i C 16 11 (nI a1)) 16 3 (nI v1)) 16 11 (nI a2)) 16 4 (-1)) 16 11 (nI a3)) 16 5 r3).1 16 4 = -1 := by simp [pi_get]
      rw [z3, pb_i, c1, c2, if_neg (pn_m1 hv1), if_pos rfl] at hP
      exact pR.no hP (g2.trans k1) ((x5.tr y5).tr ((eC.i (by omega)).tr (eC.i (by omega)))) (g4.tr k2)
  · obtain ⟨r2, a2, y2, y3⟩ := cs_num hw hb x2 (Nat.le_refl w) x4
    have y4 : cS w b a2 (cz_i (cz_i (cz_i (cz_i C 16 11 (nI a1)) 16 3 (-1)) 16 11 (nI a2)) 16 4 r2) := ⟨by rw [pi_row _ _ _ _ (by decide), pi_row _ _ _ _ (by decide)]; exact x4.1, by rw [pi_get, if_neg (by omega), pi_same], by rw [pi_row _ _ _ _ (by decide), pi_row _ _ _ _ (by decide)]; exact x4.2.2⟩
    obtain ⟨r3, a3, z2, z3⟩ := cs_num hw hb y2 (Nat.le_refl w) y4
    have c1 : (cz_i (cz_i (cz_i (cz_i (cz_i (cz_i C 16 11 (nI a1)) 16 3 (-1)) 16 11 (nI a2)) 16 4 r2) 16 11 (nI a3)) 16 5 r3).1 16 3 = -1 := by simp [pi_get]
    rw [y3, pb_i, z3, pb_i, c1, if_pos rfl] at hP
    exact pR.no hP g1 (x5.tr (((eC.i (by omega)).tr (eC.i (by omega))).tr ((eC.i (by omega)).tr (eC.i (by omega))))) g2
theorem pf2 (hw : w ≤ 56) (hb : ∀ i, i < w → b i < 256) (ha : a ≤ w) (ha2 : 2 ≤ a) (h : pS w b a C m) (hk : C.1 16 0 = nI 2) : pR w 2 C m (b_MO_decode_77 m 2 1) := by
  obtain ⟨r1, a1, x1, x2, x3, x4, x5, x6⟩ := fld (s1 := 3) hw hb ha h (show 0 < 1 by omega) (by omega) (by omega) 99 2
  have hX : b_MO_decode_77 m 2 1 = cz_lp4 l_MO_decode_80 (99 + 1) m 2 (nI 1) (nI 0) := rfl
  have hP : f_Message_parseFields C (nI w) = (if ((cz_i (cz_i C 16 11 (nI a1)) 16 3 r1).1 16 3) = (-1 : Int32) then (some ((0 : Int32), cz_i (cz_i C 16 11 (nI a1)) 16 3 r1)) else ((cz_bi (f_Message_parseHeaders (cz_i (cz_i C 16 11 (nI a1)) 16 3 r1) (nI w)) (fun r160 M160 => (if r160 = 0 then (some ((0 : Int32), M160)) else (some ((1 : Int32), M160))))))) := by
    rw [f_Message_parseFields, hk, if_neg (by decide), if_neg (by decide), if_pos (by decide), x3, pb_i]
  rw [hX]
  rw [pi_same] at hP
  rcases x6 with ⟨v1, m1, rfl, hv1, g1, g2, g3, g4, g5, g6⟩ | ⟨rfl, m1, g1, g2⟩
  · rw [if_neg (pn_m1 hv1)] at hP
    have hX2 : cz_lp4 l_MO_decode_80 (99 + 1) m 2 (nI 1) (nI 0) = b_MO_decode_135 m1 2 1 := by
      rw [g2]
      exact (fend m1 2 1 98 (by omega)).trans (by rw [b_MO_decode_114, if_pos rfl, b_MO_decode_124, if_pos rfl])
    rw [hX2, b_MO_decode_135]
    obtain ⟨r, C', y1, y2, y3, y4, y5⟩ := li_heads hw hb x2 (by omega) g3
    rw [y1, pb_i] at hP
    have hP2 : f_Message_parseFields C (nI w) = some (r, C') := by
      rw [hP]
      rcases y2 with rfl | rfl
      · rfl
      · rfl
    rcases y5 with ⟨k1, k2, c', m2, k3, k4, k5, k6, k7, k8, k9, k10⟩ | ⟨k1, m2, k2, k3⟩
    · subst k1
      rw [k5, pb_i, if_neg (show ¬ (1 : Int32) = 0 by decide), b_MO_decode_143]
      have h19 : m2.1 0 19 = nI w := by rw [(g4.tr k6).1 19 (by omega)]; exact h.2.1
      rw [k8, h19, if_pos rfl]
      refine ⟨1, C', hP2, Or.inr rfl, x5.tr y3, Or.inl ⟨rfl, k2, m2, rfl, g4.tr k6, ?_, fun z => absurd z (by decide), fun z => absurd z (by decide), fun _ => ⟨?_, c', k3, k4, k9, k10⟩, fun z => absurd z (by decide), fun z => absurd z (by decide)⟩⟩
      · rw [y4 0 (by decide) (by decide)]
        simp [pi_get, hk]
      · rw [y4 3 (by decide) (by decide), pi_same, k7, g5]
    · rw [k2, pb_i, if_pos rfl]
      exact ⟨r, C', hP2, y2, x5.tr y3, Or.inr ⟨k1, m2, rfl, g4.tr k3⟩⟩
  · rw [if_pos rfl] at hP
    exact pR.no hP g1 x5 g2
theorem pf4 (hw : w ≤ 56) (hb : ∀ i, i < w → b i < 256) (ha : a ≤ w) (h : pS w b a C m) (hk : C.1 16 0 = nI 4) : pR w 4 C m (b_MO_decode_77 m 4 1) := by
  obtain ⟨r1, a1, x1, x2, x3, x4, x5, x6⟩ := fld (s1 := 3) hw hb ha h (show 0 < 1 by omega) (by omega) (by omega) 99 4
  have hX : b_MO_decode_77 m 4 1 = cz_lp4 l_MO_decode_80 (99 + 1) m 4 (nI 1) (nI 0) := rfl
  have hP : f_Message_parseFields C (nI w) = (if ((cz_i (cz_i C 16 11 (nI a1)) 16 3 r1).1 16 3) = (-1 : Int32) then (some ((0 : Int32), cz_i (cz_i C 16 11 (nI a1)) 16 3 r1)) else ((cz_bi (f_Message_parseBody (cz_i (cz_i C 16 11 (nI a1)) 16 3 r1) (nI w)) (fun r160 M160 => (if r160 = 0 then (some ((0 : Int32), M160)) else (some ((1 : Int32), M160))))))) := by
    rw [f_Message_parseFields, hk, if_neg (by decide), if_neg (by decide), if_neg (by decide), if_neg (by decide), if_pos (by decide), x3, pb_i]
  rw [hX]
  rw [pi_same] at hP
  rcases x6 with ⟨v1, m1, rfl, hv1, g1, g2, g3, g4, g5, g6⟩ | ⟨rfl, m1, g1, g2⟩
  · rw [if_neg (pn_m1 hv1)] at hP
    have hX2 : cz_lp4 l_MO_decode_80 (99 + 1) m 4 (nI 1) (nI 0) = b_MO_decode_135 m1 4 0 := by
      rw [g2]
      exact (fend m1 4 1 98 (by omega)).trans (by rw [b_MO_decode_114, if_neg (by decide), if_pos rfl, b_MO_decode_124, if_neg (by decide)])
    rw [hX2, b_MO_decode_135]
    obtain ⟨r, C', y1, y2, y3, y4, y5⟩ := li_body hw hb x2 g3
    rw [y1, pb_i] at hP
    have hP2 : f_Message_parseFields C (nI w) = some (r, C') := by
      rw [hP]
      rcases y2 with rfl | rfl
      · rfl
      · rfl
    rcases y5 with ⟨k1, k2, c', m2, k3, k4, k5, k6, k7, k8, k9, k10⟩ | ⟨k1, m2, k2, k3⟩
    · subst k1
      rw [k5, pb_i, if_neg (show ¬ (1 : Int32) = 0 by decide), b_MO_decode_143]
      have h19 : m2.1 0 19 = nI w := by rw [(g4.tr k6).1 19 (by omega)]; exact h.2.1
      rw [k8, h19, if_pos rfl]
      refine ⟨1, C', hP2, Or.inr rfl, x5.tr y3, Or.inl ⟨rfl, k2, m2, rfl, g4.tr k6, ?_, fun z => absurd z (by decide), fun z => absurd z (by decide), fun z => absurd z (by decide), fun z => absurd z (by decide), fun _ => ⟨?_, c', k3, k4, k9, k10⟩⟩⟩
      · rw [y4 0 (by decide) (by decide)]
        simp [pi_get, hk]
      · rw [y4 3 (by decide) (by decide), pi_same, k7, g5]
    · rw [k2, pb_i, if_pos rfl]
      exact ⟨r, C', hP2, y2, x5.tr y3, Or.inr ⟨k1, m2, rfl, g4.tr k3⟩⟩
  · rw [if_pos rfl] at hP
    exact pR.no hP g1 x5 g2
end PF
theorem st_parse {t : Nat} {C m : cz_M} (h : rR t C m) : (∃ v C' m', v ≤ 5 ∧ f_Message_parse C 10 = some (1, C') ∧ f_MO_decode m = some (nI v, m') ∧ eC C C' ∧ eM m m' ∧ pM v C' m') ∨ (∃ C' m', f_Message_parse C 10 = some (0, C') ∧ f_MO_decode m = some (-1, m') ∧ eC C C' ∧ eM m m') := by
  obtain ⟨n, -, -, ⟨w, w1, w2, w3, w4⟩, -⟩ := h
  obtain ⟨C1, c1, c2, c3, c4, c5⟩ := cp_copy (C := C) (a := 14) (b := 10) (by decide) (by decide)
  have e1 : eC C (cz_i C1 16 11 0) := by
    refine eC.tr ⟨fun k hk => c3 k (by omega) (by omega), c2⟩ (eC.i (by omega))
  have e2 : eM m (cz_i m 0 21 0) := eM.i0 (by omega)
  have hb : ∀ i, i < w → (C.1 11 i).toNatClampNeg < 256 := by
    intro i hi
    obtain ⟨-, x, x1, x2⟩ := w4 i hi
    rw [x2, nI_clamp (by omega)]
    exact x1
  have hbe : ∀ i, i < w → C.1 11 i = nI ((C.1 11 i).toNatClampNeg) := by
    intro i hi
    obtain ⟨-, x, x1, x2⟩ := w4 i hi
    rw [x2, nI_clamp (by omega)]
  have hS : pS w (fun i => (C.1 11 i).toNatClampNeg) 0 (cz_i C1 16 11 0) (cz_i m 0 21 0) := by
    refine ⟨⟨?_, pi_same _ _ _ _, fun i hi => ?_⟩, ?_, pi_same _ _ _ _, fun i hi => ?_⟩
    · rw [pi_row _ _ _ _ (by decide), c4, w2]
    · rw [pi_row _ _ _ _ (by decide)]
      exact (c5 i (by omega)).trans (hbe i hi)
    · rw [pi_get, if_neg (by decide), w3]
    · rw [pi_row _ _ _ _ (by decide), ← (w4 i hi).1]
      exact hbe i hi
  have h14 : (cz_i C1 16 11 0).1 14 1 = nI w := hS.1.1
  have h19 : (cz_i m 0 21 0).1 0 19 = nI w := hS.2.1
  rw [f_Message_parse, c1, pb_v, h14, f_MO_decode, h19]
  rcases ps_list w1 hb (Nat.zero_le w) (Nat.le_refl w) hS with ⟨l, l1, l2, l3, l4⟩ | ⟨l3, m', l4, l5⟩
  · have h14b : (cz_i (cz_i C1 16 11 0) 16 11 (nI (0 + 1))).1 14 1 = nI w := by rw [pi_row _ _ _ _ (by decide), h14]
    have h19b : (cz_i (cz_i m 0 21 0) 0 21 (nI (0 + 1))).1 0 19 = nI w := by rw [pi_get, if_neg (by decide), h19]
    rw [l3, pb_i, l4, pb_i, h14b, h19b]
    have e1b : eC C (cz_i (cz_i C1 16 11 0) 16 11 (nI (0 + 1))) := e1.tr (eC.i (by omega))
    have e2b : eM m (cz_i (cz_i m 0 21 0) 0 21 (nI (0 + 1))) := e2.tr (eM.i0 (by omega))
    by_cases el : l = w
    · subst el
      rw [if_pos rfl, if_pos rfl]
      have hS2 : pS l (fun i => (C.1 11 i).toNatClampNeg) 1 (cz_i (cz_i C1 16 11 0) 16 11 (nI (0 + 1))) (cz_i (cz_i m 0 21 0) 0 21 (nI (0 + 1))) := hS.mk' (pi_row _ _ _ _ (by decide)) (pi_row _ _ _ _ (by decide)) (pi_same _ _ _ _) (eM.i0 (by omega)) (pi_same _ _ _ _)
      obtain ⟨r, a', a1, a2, n1, n2⟩ := ps_num w1 hb (by omega) (Nat.le_refl l) hS2
      rw [n1, pb_i]
      generalize cz_i (cz_i C1 16 11 0) 16 11 (nI (0 + 1)) = C2 at e1b hS2 n1 ⊢
      generalize cz_i (cz_i m 0 21 0) 0 21 (nI (0 + 1)) = m2 at e2b hS2 n2 ⊢
      have hC3 : cS l (fun i => (C.1 11 i).toNatClampNeg) a' (cz_i (cz_i C2 16 11 (nI a')) 16 0 r) := ⟨by rw [pi_row _ _ _ _ (by decide), pi_row _ _ _ _ (by decide)]; exact hS2.1.1, by simp [pi_get], by rw [pi_row _ _ _ _ (by decide), pi_row _ _ _ _ (by decide)]; exact hS2.1.2.2⟩
      have e3 : eC C (cz_i (cz_i C2 16 11 (nI a')) 16 0 r) := e1b.tr ((eC.i (by omega)).tr (eC.i (by omega)))
      have hk : (cz_i (cz_i C2 16 11 (nI a')) 16 0 r).1 16 0 = r := pi_same _ _ _ _
      have hdef : (¬ r = 0 ∧ ¬ r = 1 ∧ ¬ r = 2 ∧ ¬ r = 3 ∧ ¬ r = 4 ∧ ¬ r = 5) → f_Message_parseFields (cz_i (cz_i C2 16 11 (nI a')) 16 0 r) (nI l) = some (0, cz_i (cz_i C2 16 11 (nI a')) 16 0 r) := by
        rintro ⟨k0, k1, k2, k3, k4, k5⟩
        rw [f_Message_parseFields, hk, if_neg k0, if_neg k1, if_neg k2, if_neg k3, if_neg k4, if_neg k5]
      rcases n2 with ⟨v, rfl, hv, g1, g2, n3⟩ | ⟨rfl, m3, n3, n4⟩
      · rw [n3, pb_i, if_neg (show ¬ (1 : Int32) = 0 by decide), pi_same]
        have e4 : eM m (cz_i (cz_i m2 0 21 (nI a')) 0 22 (nI v)) := e2b.tr ((eM.i0 (by omega)).tr (eM.i0 (by omega)))
        have hS3 : pS l (fun i => (C.1 11 i).toNatClampNeg) a' (cz_i (cz_i C2 16 11 (nI a')) 16 0 (nI v)) (cz_i (cz_i m2 0 21 (nI a')) 0 22 (nI v)) := ⟨hC3, by simp [pi_get]; exact hS2.2.1, by simp [pi_get], by rw [pi_row _ _ _ _ (by decide), pi_row _ _ _ _ (by decide)]; exact hS2.2.2.2⟩
        generalize cz_i (cz_i C2 16 11 (nI a')) 16 0 (nI v) = C3 at hC3 e3 hk hdef hS3 ⊢
        generalize cz_i (cz_i m2 0 21 (nI a')) 0 22 (nI v) = m3 at e4 hS3 ⊢
        have key : ∀ X, pR l v C3 m3 X → v ≤ 5 → (∃ v C' m', v ≤ 5 ∧ (cz_bi (f_Message_parseFields C3 (nI l)) fun r49 M49 => if r49 = 0 then some ((0 : Int32), M49) else if M49.1 16 11 = nI l then some (1, M49) else some (0, M49)) = some (1, C') ∧ X = some (nI v, m') ∧ eC C C' ∧ eM m m' ∧ pM v C' m') ∨ (∃ C' m', (cz_bi (f_Message_parseFields C3 (nI l)) fun r49 M49 => if r49 = 0 then some ((0 : Int32), M49) else if M49.1 16 11 = nI l then some (1, M49) else some (0, M49)) = some (0, C') ∧ X = some (-1, m') ∧ eC C C' ∧ eM m m') := by
          rintro X ⟨r, C', y1, y2, y3, y4⟩ hv5
          rw [y1, pb_i]
          rcases y4 with ⟨rfl, k2, m', k3, k4, k5⟩ | ⟨k1, m', k2, k3⟩
          · rw [if_neg (show ¬ (1 : Int32) = 0 by decide), if_pos k2]
            exact Or.inl ⟨v, C', m', hv5, rfl, k3, e3.tr y3, e4.tr k4, k5⟩
          · refine Or.inr ⟨C', m', ?_, k2, e3.tr y3, e4.tr k3⟩
            rcases y2 with rfl | rfl
            · rw [if_pos rfl]
            · rcases k1 with k1 | k1
              · exact absurd k1 (by decide)
              · rw [if_neg (show ¬ (1 : Int32) = 0 by decide), if_neg k1]
        by_cases hv5 : v ≤ 5
        · rw [if_pos (show nI v ≤ 5 from nI_le (b := 5) hv5 (by decide))]
          have : v = 0 ∨ v = 1 ∨ v = 2 ∨ v = 3 ∨ v = 4 ∨ v = 5 := by omega
          rcases this with rfl | rfl | rfl | rfl | rfl | rfl
          · exact key _ (pf0 w1 hb a2 hS3 hk) (by omega)
          · exact key _ (pf1 w1 hb a2 hS3 hk) (by omega)
          · exact key _ (pf2 w1 hb a2 (by omega) hS3 hk) (by omega)
          · exact key _ (pf3 w1 hb a2 hS3 hk) (by omega)
          · exact key _ (pf4 w1 hb a2 hS3 hk) (by omega)
          · exact key _ (pf5 w1 hb a2 hS3 hk) (by omega)
        · have hne : ∀ k : Nat, k ≤ 5 → ¬ nI v = nI k := fun k hk z => hv5 (by have := (nI_eq hv (by omega)).mp z; omega)
          rw [hdef ⟨hne 0 (by omega), hne 1 (by omega), hne 2 (by omega), hne 3 (by omega), hne 4 (by omega), hne 5 (by omega)⟩, pb_i, if_pos rfl, if_neg (show ¬ nI v ≤ 5 from nI_ge (a := 5) (by omega) hv)]
          exact Or.inr ⟨_, _, rfl, rfl, e3, e4⟩
      · rw [n3, pb_i, if_pos rfl, hdef (by decide), pb_i, if_pos rfl]
        exact Or.inr ⟨_, _, rfl, rfl, e3, e2b.tr n4⟩
    · have el2 : ¬ nI l = nI w := fun z => el ((nI_eq (by omega) (by omega)).mp z)
      rw [if_neg el2, if_neg el2]
      exact Or.inr ⟨_, _, rfl, rfl, e1b, e2b⟩
  · have hm1 : ¬ (-1 : Int32) = m'.1 0 19 := by
      rw [l5.1 19 (by omega), h19]
      exact fun z => pn_m1 (by omega) z.symm
    rw [l3, pb_i, h14, if_neg (fun z => pn_m1 (by omega) z.symm), l4, pb_i, if_neg hm1]
    exact Or.inr ⟨_, _, rfl, rfl, e1, e2.tr l5⟩
