/-! PURE: seal -/
theorem mo_hash00 {n i : Nat} {C m : cz_M} {q : Nat} (hrow : ∀ j, j < 5 → m.1 17 (i + j) = C.1 q j) (hi : i + 5 ≤ 60) (hB : rB n C m) : f_MO_hash m 0 (nI i) = some (zm_h (C.1 q), m) := by
  rw [mo_hash0 hi]
  exact congrArg (fun x => some (x, m)) (zm_h_cong hrow)
/-- header q of the class, i of the reference, becomes a block -/
theorem rR.add {t n q i k w : Nat} {C m : cz_M} (hB : rB n C m) (hP : ∀ p, p < 4 → rP n t C m p (2 + 2 * p)) (hW : rW C m) (hG : rG t C m) (hq : 5 ≤ cp_ln q) (hl : cp_ln q ≤ 56) (hq2 : q < 69) (hq3 : q < 19 ∨ 26 < q) (hq4 : cp_scr q) (hrow : ∀ j, j < 5 → m.1 17 (i + j) = C.1 q j) (hi : i + 5 ≤ 60) (hn : n < 20) (hk : k < n) (hf : bk_find (C.1 21) (C.1 q 0) 0 n = nI k) (q0 : C.1 21 k = C.1 q 0) (q1 : C.1 q 1 = C.1 (69 + k) 1 + 1) (q2 : C.1 (69 + k) 2 < C.1 q 2) (w1 : 1 ≤ w) (w2 : w ≤ 99) (q3 : C.1 q 3 = nI w) (q4 : 0 ≤ C.1 q 4) (hu : bk_find (C.1 21) (zm_h (C.1 q)) 0 n = -1) : ∃ C' m', f_Blocks_append C q = some C' ∧ f_MO_add m (nI i) = some m' ∧ rB (n + 1) C' m' ∧ (∀ p, p < 4 → rP (n + 1) t C' m' p (2 + 2 * p)) ∧ rW C' m' ∧ rG t C' m' ∧ (∀ x, cp_scr x ∨ (2 ≤ x ∧ x ≤ 8) → C'.1 x = C.1 x) ∧ (∀ x, 4 ≤ x → m'.1 x = m.1 x) ∧ ∀ j, j ≠ 4 → m'.1 0 j = m.1 0 j := by
  obtain ⟨m', a1, a2, a3, a4, a5, a6, a7, a8⟩ := mo_add hn hi hB.2.2.1
  rw [cp_append hB.1 hn hq hl hq2 hk hf hq3, a1]
  have hne : ∀ x, x ≠ 19 → x ≠ 21 → x ≠ 22 → x ≠ 23 → x ≠ 25 → x ≠ 69 + n → (cz_i (cz_i (cz_i (cz_i (cz_i (cz_a C (69 + n) (va_cpy (C.1 q) (C.1 (69 + n)) 0 0 5)) 21 n (zm_h (C.1 q))) 22 n (nI k)) 23 n (C.1 23 k + C.1 q 3)) 25 n (-1)) 19 7 (nI (n + 1))).1 x = C.1 x := by
    intro x x1 x2 x3 x4 x5 x6
    rw [pi_row _ _ _ _ x1, pi_row _ _ _ _ x5, pi_row _ _ _ _ x4, pi_row _ _ _ _ x3, pi_row _ _ _ _ x2, pa_row _ _ _ x6]
  have hb : rB (n + 1) (cz_i (cz_i (cz_i (cz_i (cz_i (cz_a C (69 + n) (va_cpy (C.1 q) (C.1 (69 + n)) 0 0 5)) 21 n (zm_h (C.1 q))) 22 n (nI k)) 23 n (C.1 23 k + C.1 q 3)) 25 n (-1)) 19 7 (nI (n + 1))) m' := by
    refine hB.app (k := k) (w := w) (q := q) hn hk q0 q1 q2 w1 w2 q3 q4 hu (pi_same _ _ _ _) (fun j hj => ?_) (fun j hj => ?_) (fun j => ?_) (fun j => ?_) (fun j => ?_) (fun j => ?_) (hne 26 (by decide) (by decide) (by decide) (by decide) (by decide) (by omega)) a4 a7 (fun x hx => (a8 x hx).trans (hrow x hx)) (a2 2 (by decide) (by decide) (by decide)) a5 a6
    · exact hne _ (by omega) (by omega) (by omega) (by omega) (by omega) (by omega)
    · rw [pi_row _ _ _ _ (by omega), pi_row _ _ _ _ (by omega), pi_row _ _ _ _ (by omega), pi_row _ _ _ _ (by omega), pi_row _ _ _ _ (by omega), pa_get, if_pos rfl, pk_cpy_in (by omega) (by omega), Nat.zero_add, Nat.sub_zero]
    · rw [pi_row _ _ _ _ (by omega), pi_row _ _ _ _ (by omega), pi_row _ _ _ _ (by omega), pi_row _ _ _ _ (by omega), pi_get, pa_row _ _ _ (by omega)]
      simp
    · rw [pi_row _ _ _ _ (by omega), pi_row _ _ _ _ (by omega), pi_row _ _ _ _ (by omega), pi_get, pi_row _ _ _ _ (by omega), pa_row _ _ _ (by omega)]
      simp
    · rw [pi_row _ _ _ _ (by omega), pi_row _ _ _ _ (by omega), pi_get, pi_row _ _ _ _ (by omega), pi_row _ _ _ _ (by omega), pa_row _ _ _ (by omega)]
      simp
    · rw [pi_row _ _ _ _ (by omega), pi_get, pi_row _ _ _ _ (by omega), pi_row _ _ _ _ (by omega), pi_row _ _ _ _ (by omega), pa_row _ _ _ (by omega)]
      simp
  obtain ⟨s1, s2, s3⟩ := rR.store hP hW hG hb (by omega) (fun k hk => hne k (by omega) (by omega) (by omega) (by omega) (by omega) (by omega)) rfl (fun j hj => a3 j (by omega)) (fun k h1 h2 => a2 k (by omega) (by omega) (by omega))
  exact ⟨_, _, rfl, rfl, hb, s1, s2, s3, fun x hx => hne x (by omega) (by omega) (by omega) (by omega) (by omega) (by omega), fun x hx => a2 x (by omega) (by omega) (by omega), a3⟩
theorem seal_core {t n s : Nat} {C m : cz_M} {a1 a2 a3 : Int32} (hB : rB n C m) (hP : ∀ p, p < 4 → rP n t C m p (2 + 2 * p)) (hW : rW C m) (hG : rG t C m) (hrow : ∀ j, j < 5 → m.1 17 (0 + j) = C.1 27 j) (h2 : C.1 27 2 = a1) (h4 : 0 ≤ C.1 27 4) (h28 : C.1 28 0 = a3) (hs : s ≤ 1) (hsa : 1 ≤ s → 0 ≤ a3) (hif : ∀ M v, (if 0 ≤ a3 then b_MO_seal_138 a1 a2 a3 M 1 v else b_MO_seal_138 a1 a2 a3 M 0 v) = b_MO_seal_138 a1 a2 a3 M (nI s) v) : ∃ r C' m',
    (cz_bi (f_Blocks_isGood C 27) (fun r97 M97 => (if r97 = 0 then (some ((-1 : Int32), M97)) else ((cz_bi (f_CP_hashOf M97 27) (fun r111 M111 => (cz_bi (f_Blocks_isKnown M111 r111) (fun r114 M114 => (if r114 = 0 then ((cz_bi (f_Blocks_isFull M114) (fun r124 M124 => (if r124 = 0 then ((cz_bv (f_Blocks_append M124 27) (fun M149 => (cz_bv (f_Blocks_setBody M149 (M124.1 19 7) 28 (nI s)) (fun M164 => some (M124.1 19 7, M164)))))) else (some ((-1 : Int32), M124)))))) else (some ((-1 : Int32), M114))))))))))) = some (r, C') ∧
    (cz_bi (f_MO_hash m (0 : Int32) (0 : Int32)) (fun r77 M77 => (if a1 < 0 then (some ((-1 : Int32), M77)) else ((cz_bi (f_MO_good M77 (0 : Int32)) (fun r88 M88 => (if r88 = 0 then (some ((-1 : Int32), M88)) else ((cz_bi (f_MO_blockOf M88 r77) (fun r97 M97 => (if 0 ≤ r97 then (some ((-1 : Int32), M97)) else ((if (M97.1 0 4) = (20 : Int32) then (some ((-1 : Int32), M97)) else ((cz_bv (f_MO_add M97 (0 : Int32)) (fun M116 => (if 0 ≤ a3 then (b_MO_seal_138 a1 a2 a3 M116 (1 : Int32) ((M116.1 0 4) - (1 : Int32))) else (b_MO_seal_138 a1 a2 a3 M116 (0 : Int32) ((M116.1 0 4) - (1 : Int32)))))))))))))))))))) = some (r, m') ∧ rR t C' m' := by
  have h20 := hB.2.1.1.2
  have h1n := hB.2.1.1.1
  obtain ⟨g, g1, g2, g3⟩ := gd (q := 27) hB (by decide) hrow (by omega)
  have hh : f_MO_hash m 0 0 = some (zm_h (C.1 27), m) := mo_hash00 (i := 0) hrow (by omega) hB
  have g2 : f_MO_good m 0 = some (g, m) := g2
  rw [g1, pb_i, hh, pb_i, g2, pb_i]
  have hno : rR t C m := ⟨n, hB, hP, hW, hG⟩
  rcases g3 with rfl | ⟨rfl, k, w, hk, hf, q0, q1, q2, w1, w2, q3⟩
  · rw [if_pos rfl]
    refine ⟨-1, C, m, rfl, ?_, hno⟩
    by_cases e : a1 < 0
    · rw [if_pos e]
    · rw [if_neg e, if_pos rfl]
  · have ea : ¬ a1 < 0 := by
      rw [← h2]
      exact Int32.not_lt.mpr (Int32.le_trans (hB.2.1.2.2.2.2.2.1 k hk).2.2.1 (Int32.le_of_lt q2))
    rw [if_neg (show ¬ (1 : Int32) = 0 by decide), cp_hashOf (by decide) (by decide), pb_i, cp_isKnown hB.1 h20, pb_i, if_neg ea, if_neg (show ¬ (1 : Int32) = 0 by decide), mo_ha hB.2.1 hB.2.2, pb_i]
    rcases bk_find_spec (ha := C.1 21) (h := zm_h (C.1 27)) n 0 with ⟨hu, -⟩ | ⟨j, -, j2, -, j4⟩
    · rw [hu, if_pos (show (-1 : Int32) = -1 from rfl), if_pos (show (0 : Int32) = 0 from rfl), cp_isFull hB.1 h20, pb_i, if_neg (show ¬ (0 : Int32) ≤ -1 by decide), hB.2.2.1, hB.1]
      by_cases e20 : n = 20
      · rw [if_pos e20, if_neg (show ¬ (1 : Int32) = 0 by decide), if_pos (show nI n = 20 by rw [e20]; rfl)]
        exact ⟨_, _, _, rfl, rfl, hno⟩
      · rw [if_neg e20, if_pos (show (0 : Int32) = 0 from rfl), if_neg (show ¬ nI n = 20 from fun z => e20 ((nI_eq (b := 20) (by omega) (by omega)).mp z))]
        obtain ⟨C', m', b1, b2, b3, b4, b5, b6, b7, b8, b9⟩ := rR.add (q := 27) (i := 0) hB hP hW hG (by decide) (by decide) (by decide) (by decide) (by decide) hrow (by omega) (by omega) hk hf q0 q1 q2 w1 w2 q3 h4 hu
        have b2 : f_MO_add m 0 = some m' := b2
        obtain ⟨C2, d1, d2, d3, d4, d5, d6, d7⟩ := cp_setBody (k := n) (q := 28) (s := s) b3 (by omega) (by omega) (by omega) (by show s ≤ 1; omega)
        have e4 : ∀ i, i < s → C2.1 (89 + n) i = a3 := by
          intro i hi
          have ei : i = 0 := by omega
          subst ei
          rw [d4 0 hi, b7 28 (by omega), h28]
        have hm4 : m'.1 0 4 = nI (n + 1) := b3.2.2.1
        have hb : rB (n + 1) C2 (cz_i (cz_i m' 3 n (nI s)) 2 (8 * n) a3) := by
          refine b3.body (k := n) (s := s) (by omega) (by omega) (by omega) d2 d5 d6 ?_ (fun i hi => ?_) ?_ ?_ (fun x hx => ?_) ?_ (fun x hx => ?_) (fun i hi => ?_)
          · intro j p j0 hj hp h22
            exact d7 j p j0 hj hp h22
          · rw [e4 i hi]
            exact hsa (by omega)
          · rw [pi_row _ _ _ _ (by decide), pi_row _ _ _ _ (by decide)]
          · rw [pi_row _ _ _ _ (by decide), pi_row _ _ _ _ (by decide)]
          · rw [pi_row _ _ _ _ (by decide), pi_get, if_neg (fun z => hx z.2)]
          · rw [pi_row _ _ _ _ (by decide), pi_same]
          · rw [pi_get, if_neg (by omega), pi_row _ _ _ _ (by decide)]
          · have ei : i = 0 := by omega
            subst ei
            rw [e4 0 hi, Nat.add_zero, pi_same]
        obtain ⟨s1, s2, s3⟩ := rR.store b4 b5 b6 hb (Nat.le_refl _) (fun k hk => d2 k (by omega) (by omega) (by omega)) d3 (fun j hj => by rw [pi_row _ _ _ _ (by decide), pi_row _ _ _ _ (by decide)]) (fun k k1 k2 => by rw [pi_row _ _ _ _ (by omega), pi_row _ _ _ _ (by omega)])
        rw [b1, pb_v, d1, pb_v, b2, pb_v, hif, hm4, show nI (n + 1) - (1 : Int32) = nI n from nI_pred n, b_MO_seal_138, pc_in (show n < mo_ln 3 by show n < 20; omega) (by decide), nI_clamp (show n < 2 ^ 31 by omega), pi_row _ _ _ _ (show (0 : Nat) ≠ 3 by decide), hm4, show (8 : Int32) * nI (n + 1) = nI (8 * (n + 1)) from pk_mul 8 _, show nI (8 * (n + 1)) - (8 : Int32) = nI (8 * (n + 1) - 8) from pk_sub (b := 8) (by omega), show 8 * (n + 1) - 8 = 8 * n by omega, pc_in (show 8 * n < mo_ln 2 by show _ < 160; omega) (by decide), nI_clamp (show 8 * n < 2 ^ 31 by omega), pi_row _ _ _ _ (show (0 : Nat) ≠ 2 by decide), pi_row _ _ _ _ (show (0 : Nat) ≠ 3 by decide), hm4, show nI (n + 1) - (1 : Int32) = nI n from nI_pred n]
        exact ⟨_, _, _, rfl, rfl, n + 1, hb, s1, s2, s3⟩
    · rw [j4, if_neg (pn_m1 (by omega)), if_neg (show ¬ (1 : Int32) = 0 by decide), if_pos (nI_pos' (by omega))]
      exact ⟨_, _, _, rfl, rfl, hno⟩
theorem st_seal {t : Nat} {C m : cz_M} (h : rR t C m) (a1 a2 a3 : Int32) : ∃ r C' m', f_CP_seal C a1 a2 a3 = some (r, C') ∧ f_MO_seal m a1 a2 a3 = some (r, m') ∧ rR t C' m' := by
  have h0 := h
  obtain ⟨n, hB, hP, hW, hG⟩ := h0
  have h20 := hB.2.1.1.2
  have h1n := hB.2.1.1.1
  have hlt := bk_head_lt hB.2.1
  obtain ⟨d, d1, d2, d3⟩ := hB.num hlt
  have hk := hB.hash hlt
  generalize hh : bk_head n (C.1 23) (C.1 26) = hd at hlt d1 d2 d3 hk
  have key : ∀ s root, s ≤ 1 → (1 ≤ s → 0 ≤ a3) → 0 ≤ root → (∀ M v, (if 0 ≤ a3 then b_MO_seal_138 a1 a2 a3 M 1 v else b_MO_seal_138 a1 a2 a3 M 0 v) = b_MO_seal_138 a1 a2 a3 M (nI s) v) → mx (fun _ => a3) 0 s (nI s) = root → ∃ r C' m', b_CP_seal_18 a1 a2 a3 C (nI hd) (nI s) = some (r, C') ∧ b_MO_seal_73 a1 a2 a3 (cz_i (cz_i (cz_i (cz_i m 17 0 (C.1 21 hd)) 17 1 (nI (d + 1))) 17 2 a1) 17 3 a2) root 4 = some (r, m') ∧ rR t C' m' := by
    intro s root hs hsa hr hif hmx
    have hE : eC C (cz_i (cz_i (cz_i (cz_i (cz_i (cz_i C 28 0 a3) 27 0 (C.1 21 hd)) 27 1 (nI (d + 1))) 27 2 a1) 27 3 a2) 27 4 root) := ((((((eC.i (by omega)).tr (eC.i (by omega))).tr (eC.i (by omega))).tr (eC.i (by omega))).tr (eC.i (by omega))).tr (eC.i (by omega)))
    have hEm : eM m (cz_i (cz_i (cz_i (cz_i (cz_i m 17 0 (C.1 21 hd)) 17 1 (nI (d + 1))) 17 2 a1) 17 3 a2) 17 4 root) := (((((eM.i (by omega)).tr (eM.i (by omega))).tr (eM.i (by omega))).tr (eM.i (by omega))).tr (eM.i (by omega)))
    obtain ⟨n', hB', hP', hW', hG'⟩ := h.e hE hEm
    have hroot : f_CP_rootOf (cz_i (cz_i (cz_i (cz_i (cz_i C 28 0 a3) 27 0 (C.1 21 hd)) 27 1 (nI (d + 1))) 27 2 a1) 27 3 a2) 28 (nI s) = some (root, cz_i (cz_i (cz_i (cz_i (cz_i C 28 0 a3) 27 0 (C.1 21 hd)) 27 1 (nI (d + 1))) 27 2 a1) 27 3 a2) := by
      rw [f_CP_rootOf, cp_f_mix (nI s) (show s ≤ cp_ln 28 by show s ≤ 1; omega) (by decide), pb_i, ← hmx]
      refine congrArg (fun x => some (x, _)) (mx_cong s 0 _ (fun k k1 k2 => ?_))
      have ek : k = 0 := by omega
      subst ek
      simp [pi_get]
    have hrow : ∀ j, j < 5 → (cz_i (cz_i (cz_i (cz_i (cz_i m 17 0 (C.1 21 hd)) 17 1 (nI (d + 1))) 17 2 a1) 17 3 a2) 17 4 root).1 17 (0 + j) = (cz_i (cz_i (cz_i (cz_i (cz_i (cz_i C 28 0 a3) 27 0 (C.1 21 hd)) 27 1 (nI (d + 1))) 27 2 a1) 27 3 a2) 27 4 root).1 27 j := by
      intro j hj
      have : j = 0 ∨ j = 1 ∨ j = 2 ∨ j = 3 ∨ j = 4 := by omega
      rcases this with rfl | rfl | rfl | rfl | rfl <;> simp [pi_get]
    obtain ⟨r, C', m', r1, r2, r3⟩ := seal_core (a2 := a2) hB' hP' hW' hG' hrow (by simp [pi_get]) (by simp [pi_get]; exact hr) (by simp [pi_get]) hs hsa hif
    refine ⟨r, C', m', ?_, ?_, r3⟩
    · rw [b_CP_seal_18, pl0 (by decide), pc_in (show hd < cp_ln 21 by show hd < 20; omega) (by decide), nI_clamp (show hd < 2 ^ 31 by omega), pl0 (by decide), pt0, pi_row _ _ _ _ (show (21 : Nat) ≠ 28 by decide), cp_numberOf (by omega), pb_i, pl1 (by decide), pl2 (by decide), pl3 (by decide), pt1, pt2, pt3, pi_row _ _ _ _ (show 69 + hd ≠ 27 by omega), pi_row _ _ _ _ (show 69 + hd ≠ 28 by omega), d2, nI_1, hroot, pb_i, pl4 (by decide), pt4]
      exact r1
    · rw [b_MO_seal_73, pl4 (by decide), pt4]
      exact r2
  have e1 : f_CP_seal C a1 a2 a3 = if 0 ≤ a3 then b_CP_seal_18 a1 a2 a3 C (nI hd) 1 else b_CP_seal_18 a1 a2 a3 C (nI hd) 0 := by
    rw [f_CP_seal, cp_head hB.1 h1n h20, pb_i, hh]
  have e2 : f_MO_seal m a1 a2 a3 = if 0 ≤ a3 then b_MO_seal_73 a1 a2 a3 (cz_i (cz_i (cz_i (cz_i m 17 0 (C.1 21 hd)) 17 1 (nI (d + 1))) 17 2 a1) 17 3 a2) (zm_m 1 a3) 4 else b_MO_seal_73 a1 a2 a3 (cz_i (cz_i (cz_i (cz_i m 17 0 (C.1 21 hd)) 17 1 (nI (d + 1))) 17 2 a1) 17 3 a2) 0 4 := by
    rw [f_MO_seal, mo_head hB.2.1 hB.2.2, pb_i, hh, show (5 : Int32) * nI hd = nI (5 * hd) from pk_mul 5 hd, mo_hash1 (by omega), pb_i, hk, nI_1, pl0 (by decide), pt0, pc_in (show 5 * hd + 1 < mo_ln 1 by show _ < 100; omega) (by decide), nI_clamp (show 5 * hd + 1 < 2 ^ 31 by omega), pl1 (by decide), pl2 (by decide), pl3 (by decide), pt1, pt2, pt3, pi_row _ _ _ _ (show (1 : Nat) ≠ 17 by decide), d3, nI_1, f_MO_mix, pb_i, zm_m_eq]
  rw [e1, e2]
  by_cases e : 0 ≤ a3
  · rw [if_pos e, if_pos e]
    refine key 1 (zm_m 1 a3) (by omega) (fun _ => e) ?_ (fun M v => by rw [if_pos e]; rfl) rfl
    rw [← zm_m_eq]
    obtain ⟨j, j1, j2⟩ := pk_andE ((((1 : Int32) ^^^ a3) * (16777619 : Int32)) ^^^ (cz_iushr (((1 : Int32) ^^^ a3) * (16777619 : Int32)) (15 : Int32))) (m := 2147483647) 31 (by decide)
    rw [j2]
    exact nI_pos' j1
  · rw [if_neg e, if_neg e]
    exact key 0 0 (by omega) (fun z => by omega) (by decide) (fun M v => by rw [if_neg e]; rfl) rfl
