/-! PURE: answers to requests -/
theorem rB.root {n k : Nat} {C m : cz_M} (hB : rB n C m) (hk : k < n) (h : C.1 (69 + k) 1 = nI 0) : k = 0 := by
  obtain ⟨-, hI, -⟩ := hB
  have h20 := hI.1.2
  by_cases e : k = 0
  · exact e
  · obtain ⟨p, p1, p2, p3, p4, -⟩ := hI.2.2.2.2.1 k (by omega) hk
    obtain ⟨d', t', q1, q2, -⟩ := bk_dep hI (show p < n by omega)
    simp only at p4
    rw [q2, h, nI_1, nI_eq (by omega) (by omega)] at p4
    omega
theorem rB.up {n k d : Nat} {C m : cz_M} (hB : rB n C m) (hk : k < n) (h : C.1 (69 + k) 1 = nI (d + 1)) (hd : d + 1 ≤ k) : ∃ p, p < k ∧ C.1 22 k = nI p ∧ C.1 (69 + p) 1 = nI d ∧ d ≤ p := by
  obtain ⟨-, hI, -⟩ := hB
  have h20 := hI.1.2
  obtain ⟨p, p1, p2, p3, p4, -⟩ := hI.2.2.2.2.1 k (by omega) hk
  obtain ⟨d', t', q1, q2, -⟩ := bk_dep hI (show p < n by omega)
  simp only at p4
  have e : d' = d := by
    rw [q2, h, nI_1, nI_eq (by omega) (by omega)] at p4
    omega
  subst e
  exact ⟨p, p1, p2, q2, q1⟩
theorem anc {n : Nat} {C m : cz_M} (hB : rB n C m) (b1 b2 : Int32) : ∀ (s k x d c f g : Nat), k < n → C.1 (69 + k) 1 = nI d → d ≤ k → d = x + s → s < f → s < g → c + s < 20 → ∃ j, j < n ∧ cz_lp3 (l_Blocks_ancestor_11 b1 b2) f C (nI k) (nI s) = some (nI j, C) ∧ cz_lp3 (l_MO_ofHead_8 (nI x)) g m (nI k) (nI c) = some (nI j, m) := by
  have h20 := hB.2.1.1.2
  have hstep : ∀ k c, k < n → c < 20 → ∀ (x : Nat) rec, l_MO_ofHead_8 (nI x) rec m (nI k) (nI c) = if C.1 (69 + k) 1 = nI x then some (nI k, m) else cz_bi (f_MO_parent m (nI k)) (fun r36 M36 => rec M36 r36 (nI (c + 1))) := by
    intro k c hk hc x rec
    rw [l_MO_ofHead_8, if_neg (show ¬ (20 : Int32) ≤ nI c from nI_ge (b := 20) hc (by decide)), if_neg (pn_lt0 (by omega)), show (5 : Int32) * nI k = nI (5 * k) from pk_mul 5 k, nI_1, pc_in (show 5 * k + 1 < mo_ln 1 by show _ < 100; omega) (by decide), nI_clamp (by omega), hB.2.2.2.1 k 1 hk (by decide), nI_1]
  intro s
  induction s with
  | zero =>
    intro k x d c f g hk hd hdk hx hf hg hc
    obtain ⟨f, rfl⟩ : ∃ g, f = g + 1 := ⟨f - 1, by omega⟩
    obtain ⟨g, rfl⟩ : ∃ f, g = f + 1 := ⟨g - 1, by omega⟩
    refine ⟨k, hk, ?_, ?_⟩
    · rw [cz_lp3_s, l_Blocks_ancestor_11, if_pos (by decide)]
    · rw [cz_lp3_s, hstep k c hk (by omega), if_pos (by rw [hd, hx, Nat.add_zero])]
  | succ s ih =>
    intro k x d c f g hk hd hdk hx hf hg hc
    obtain ⟨f, rfl⟩ : ∃ g, f = g + 1 := ⟨f - 1, by omega⟩
    obtain ⟨g, rfl⟩ : ∃ f, g = f + 1 := ⟨g - 1, by omega⟩
    obtain ⟨e, rfl⟩ : ∃ e, d = e + 1 := ⟨d - 1, by omega⟩
    obtain ⟨p, p1, p2, p3, p4⟩ := hB.up hk hd hdk
    obtain ⟨j, j1, j2, j3⟩ := ih p x e (c + 1) f g (by omega) p3 p4 (by omega) (by omega) (by omega) (by omega)
    refine ⟨j, j1, ?_, ?_⟩
    · rw [cz_lp3_s, l_Blocks_ancestor_11, if_neg (nI_nle (by omega) (by omega)), pc_in (show k < cp_ln 22 by show k < 20; omega) (by decide), nI_clamp (by omega), p2, nI_pred, j2]
    · rw [cz_lp3_s, hstep k c hk (by omega), if_neg (show ¬ C.1 (69 + k) 1 = nI x by rw [hd, nI_eq (by omega) (by omega)]; omega), mo_par hB.2.1 hB.2.2 hk, pb_i, if_neg (by omega), p2, j3]
theorem anc_no {n : Nat} {C m : cz_M} (hB : rB n C m) {x : Nat} (hx : x < 2 ^ 31) : ∀ (d k c g : Nat), k < n → C.1 (69 + k) 1 = nI d → d ≤ k → d < x → d + 1 < g → c + d < 20 → cz_lp3 (l_MO_ofHead_8 (nI x)) g m (nI k) (nI c) = some (-1, m) := by
  have h20 := hB.2.1.1.2
  have hstep : ∀ k c, k < n → c < 20 → ∀ rec, ¬ C.1 (69 + k) 1 = nI x → l_MO_ofHead_8 (nI x) rec m (nI k) (nI c) = rec m (if k = 0 then -1 else C.1 22 k) (nI (c + 1)) := by
    intro k c hk hc rec hne
    rw [l_MO_ofHead_8, if_neg (show ¬ (20 : Int32) ≤ nI c from nI_ge (b := 20) hc (by decide)), if_neg (pn_lt0 (by omega)), show (5 : Int32) * nI k = nI (5 * k) from pk_mul 5 k, nI_1, pc_in (show 5 * k + 1 < mo_ln 1 by show _ < 100; omega) (by decide), nI_clamp (by omega), hB.2.2.2.1 k 1 hk (by decide), nI_1, if_neg hne, mo_par hB.2.1 hB.2.2 hk, pb_i]
  intro d
  induction d with
  | zero =>
    intro k c g hk hd hdk hxd hg hc
    obtain ⟨g, rfl⟩ : ∃ f, g = f + 1 + 1 := ⟨g - 2, by omega⟩
    have e := hB.root hk hd
    subst e
    rw [cz_lp3_s, hstep 0 c hk (by omega) _ (by rw [hd, nI_eq (by omega) hx]; omega), if_pos rfl, cz_lp3_s, l_MO_ofHead_8, if_pos (show (-1 : Int32) < 0 by decide)]
    by_cases z : (20 : Int32) ≤ nI (c + 1)
    · rw [if_pos z]
    · rw [if_neg z]
  | succ d ih =>
    intro k c g hk hd hdk hxd hg hc
    obtain ⟨g, rfl⟩ : ∃ f, g = f + 1 := ⟨g - 1, by omega⟩
    obtain ⟨p, p1, p2, p3, p4⟩ := hB.up hk hd hdk
    rw [cz_lp3_s, hstep k c hk (by omega) _ (by rw [hd, nI_eq (by omega) hx]; omega), if_neg (by omega), p2]
    exact ih p (c + 1) g (by omega) p3 p4 (by omega) (by omega) (by omega)
theorem rB.row {n k : Nat} {C m : cz_M} (hB : rB n C m) (hk : k < n) : ∃ h : Nat → Nat, (∀ i, i < 5 → C.1 (69 + k) i = nI (h i)) ∧ (∀ i, i < 5 → h i < 2 ^ 31) ∧ h 1 < 128 ∧ h 3 < 128 := by
  obtain ⟨-, hI, -⟩ := hB
  have h20 := hI.1.2
  obtain ⟨d, t, d1, d2, -⟩ := bk_dep hI hk
  obtain ⟨⟨w, w1, w2, w3⟩, w4, w5, w6⟩ := hI.2.2.2.2.2.1 k hk
  simp only at d2 w3 w4 w5 w6
  obtain ⟨a0, b0, c0⟩ := nI_of (Int32.not_lt.mpr w4)
  obtain ⟨a2, b2, c2⟩ := nI_of (Int32.not_lt.mpr w5)
  obtain ⟨a4, b4, c4⟩ := nI_of (Int32.not_lt.mpr w6)
  refine ⟨fun i => if i = 0 then a0 else if i = 1 then d else if i = 2 then a2 else if i = 3 then w else a4, fun i hi => ?_, fun i hi => ?_, ?_, ?_⟩
  · have : i = 0 ∨ i = 1 ∨ i = 2 ∨ i = 3 ∨ i = 4 := by omega
    rcases this with rfl | rfl | rfl | rfl | rfl
    · exact c0
    · exact d2
    · exact c2
    · exact w3
    · exact c4
  · have : i = 0 ∨ i = 1 ∨ i = 2 ∨ i = 3 ∨ i = 4 := by omega
    rcases this with rfl | rfl | rfl | rfl | rfl
    · exact b0
    · show d < 2 ^ 31
      omega
    · exact b2
    · show w < 2 ^ 31
      omega
    · exact b4
  · show d < 128
    omega
  · show w < 128
    omega
/-- the list in the message is closed, and the message goes out -/
theorem sh_fin {t p : Nat} {C m : cz_M} {pre body : List Int32} (h : rR t C m) (hp : p < 4) (hc : cD C (192 :: pre ++ 192 :: body)) (hm : mD m (pre ++ body)) (hl : pre.length + body.length ≤ 54) (b1 : byt pre) (b2 : byt body) : ∃ C' m', (cz_bv (f_Bytes_endList C 12 (nI (pre.length + 1))) (fun M => cz_bv (f_CP_sendDraft M (2 + 2 * p)) (fun M' => some M'))) = some C' ∧ (cz_bv (f_MO_wrap m (nI pre.length)) (fun M => cz_bv (f_MO_post M (nI p)) (fun M' => some ((1 : Int32), M')))) = some (1, m') ∧ rR t C' m' ∧ C'.1 16 = C.1 16 := by
  obtain ⟨C1, x1, x2, x3⟩ := cD.close (as := 192 :: pre) (bs := body) hc
  obtain ⟨m1, y1, y2, y3, -⟩ := mD.wrap (as := pre) (bs := body) hm (by omega)
  obtain ⟨C', m', z1, z2, z3, z4, -⟩ := rR.post (xs := pre ++ nI (192 + body.length) :: body) (h.e x3 y3) hp x2 y2 (by rw [List.length_append, List.length_cons]; omega) (b1.app (byt.cons (by omega) rfl b2))
  rw [List.length_cons] at x1
  refine ⟨C', m', ?_, ?_, z3, ?_⟩
  · rw [x1, pb_v, z1, pb_v]
  · rw [y1, pb_v, z2, pb_v]
  · rw [z4, fr_close x1 16 (by decide) (by decide)]
theorem sh_v5 {d fr i : Nat} (hd : d ≤ 19) (hf : fr < 2 ^ 31) (hi : i ≤ 2) : nI d - nI fr + 1 ≤ nI i ↔ d < fr + i := by
  by_cases e : fr ≤ d
  · rw [pk_sub e, nI_1, nI_leI (by omega) (by omega)]
    omega
  · have e1 : nI d - nI fr + 1 ≤ nI i := by
      rw [Int32.le_iff_toInt_le, Int32.toInt_add, Int32.toInt_sub, nI_toInt (by omega), nI_toInt hf, nI_toInt (by omega), show (1 : Int32).toInt = 1 by decide, Int.bmod_eq_of_le (n := (d : Int) - fr) (by omega) (by omega), Int.bmod_eq_of_le (by omega) (by omega)]
      omega
    exact ⟨fun _ => by omega, fun _ => e1⟩
theorem sh_lp {t n p hd d fr cnt : Nat} {C0 m0 : cz_M} {pre : List Int32} (h : rR t C0 m0) (hB : rB n C0 m0) (hp : p < 4) (hhd : hd = bk_head n (C0.1 23) (C0.1 26)) (hd1 : C0.1 (69 + hd) 1 = nI d) (hd2 : d ≤ hd) (hf : fr < 2 ^ 31) (hcn : cnt < 2 ^ 31) (h164 : C0.1 16 4 = nI fr) (m161 : m0.1 16 1 = nI fr) (m162 : m0.1 16 2 = nI cnt) (hpre : pre.length ≤ 6) (bpre : byt pre) : ∀ (r i f g : Nat) (body : List Int32) (C m : cz_M), i + r = 2 → r < f → r < g → eC C0 C → eM m0 m → C.1 16 = C0.1 16 → m.1 16 = m0.1 16 → cD C (192 :: pre ++ 192 :: body) → mD m (pre ++ body) → body.length ≤ 18 * i → byt body → ∃ C' m', cz_lp6 (l_CP_sendHeaders_74 (2 + 2 * p)) f C (nI (pre.length + 1)) (nI hd) (cz_min (nI cnt) 2) (nI d - nI fr + 1) (nI i) = some C' ∧ cz_lp3 (l_MO_hear_66 (nI p) 1) g m (nI pre.length) (nI i) = some (1, m') ∧ rR t C' m' ∧ C'.1 16 = C0.1 16 := by
  have h20 := hB.2.1.1.2
  have hlt : hd < n := by
    rw [hhd]
    exact bk_head_lt hB.2.1
  have hmin : ∀ i : Nat, i ≤ 2 → (cz_min (nI cnt) 2 ≤ nI i ↔ (2 ≤ i ∨ cnt ≤ i)) := by
    intro i hi
    unfold cz_min
    by_cases z : (2 : Int32) < nI cnt
    · have z2 := (nI_ltI (a := 2) (by omega) hcn).mp z
      rw [if_pos z, show (2 : Int32) = nI 2 from rfl, nI_leI (by omega) (by omega)]
      omega
    · have z2 : ¬ 2 < cnt := fun y => z ((nI_ltI (a := 2) (by omega) hcn).mpr y)
      rw [if_neg z, nI_leI hcn (by omega)]
      omega
  have hhead : ∀ C m, eC C0 C → eM m0 m → f_MO_greatest m 1 = some (nI hd, m) := by
    intro C m e1 e2
    have hB1 := hB.e e1 e2
    rw [mo_head hB1.2.1 hB1.2.2, e1.1 23 (by omega), e1.1 26 (by omega), hhd]
  have hstop : ∀ (r i g : Nat) (C m : cz_M), i + r = 2 → r < g → eC C0 C → eM m0 m → m.1 16 = m0.1 16 → d < fr + i → cz_lp3 (l_MO_hear_66 (nI p) 1) g m (nI pre.length) (nI i) = b_MO_hear_168 (nI p) 1 m (nI pre.length) := by
    intro r
    induction r with
    | zero =>
      intro i g C m hi hg e1 e2 h16 hs
      obtain ⟨g, rfl⟩ : ∃ f, g = f + 1 := ⟨g - 1, by omega⟩
      have ei : i = 2 := by omega
      subst ei
      rw [cz_lp3_s, l_MO_hear_66, if_pos (by decide)]
    | succ r ih =>
      intro i g C m hi hg e1 e2 h16 hs
      obtain ⟨g, rfl⟩ : ∃ f, g = f + 1 := ⟨g - 1, by omega⟩
      rw [cz_lp3_s, l_MO_hear_66, if_neg (show ¬ (2 : Int32) ≤ nI i from nI_ge (b := 2) (by omega) (by decide)), pl2 (by decide), pt2, pl1 (by decide), pl1 (by decide), pt1, h16, m162, m161]
      by_cases z1 : nI cnt ≤ nI i
      · rw [if_pos z1]
      · rw [if_neg z1]
        by_cases z2 : (20 : Int32) ≤ nI fr
        · rw [if_pos z2]
        · have z3 : fr < 20 := by
            by_cases y : fr < 20
            · exact y
            · exact absurd (show (20 : Int32) ≤ nI fr from nI_le (a := 20) (by omega) hf) z2
          have hB1 := hB.e e1 e2
          rw [if_neg z2, nI_add, f_MO_ofHead, hhead C m e1 e2, pb_i, show (0 : Int32) = nI 0 from rfl, anc_no hB1 (show fr + i < 2 ^ 31 by omega) d hd 0 100 hlt (by rw [e1.1 _ (by omega)]; exact hd1) hd2 hs (by omega) (by omega), pb_i]
          show cz_lp6 _ (99 + 1) _ _ _ _ _ _ = _
          rw [cz_lp6_s, l_MO_hear_118, if_neg (by decide), if_pos (by decide), b_MO_hear_151, if_pos (by decide), b_MO_hear_162, nI_1]
          exact ih (i + 1) g C m (by omega) (by omega) e1 e2 h16 (by omega)
  intro r
  induction r with
  | zero =>
    intro i f g body C m hi hf' hg e1 e2 h16 hm16 hc hm hl hby
    obtain ⟨f, rfl⟩ : ∃ g, f = g + 1 := ⟨f - 1, by omega⟩
    obtain ⟨g, rfl⟩ : ∃ f, g = f + 1 := ⟨g - 1, by omega⟩
    have ei : i = 2 := by omega
    subst ei
    rw [cz_lp6_s, l_CP_sendHeaders_74, if_pos ((hmin 2 (by omega)).mpr (Or.inl (by omega))), cz_lp3_s, l_MO_hear_66, if_pos (by decide)]
    obtain ⟨C', m', z1, z2, z3, z4⟩ := sh_fin (h.e e1 e2) hp hc hm (by omega) bpre hby
    exact ⟨C', m', z1, z2, z3, z4.trans h16⟩
  | succ r ih =>
    intro i f g body C m hi hf' hg e1 e2 h16 hm16 hc hm hl hby
    obtain ⟨f, rfl⟩ : ∃ g, f = g + 1 := ⟨f - 1, by omega⟩
    have hfin : ∃ C' m', b_CP_sendHeaders_131 (2 + 2 * p) C (nI (pre.length + 1)) = some C' ∧ b_MO_hear_168 (nI p) 1 m (nI pre.length) = some (1, m') ∧ rR t C' m' ∧ C'.1 16 = C0.1 16 := by
      obtain ⟨C', m', z1, z2, z3, z4⟩ := sh_fin (h.e e1 e2) hp hc hm (by omega) bpre hby
      exact ⟨C', m', z1, z2, z3, z4.trans h16⟩
    rw [cz_lp6_s, l_CP_sendHeaders_74]
    by_cases x1 : cnt ≤ i
    · obtain ⟨g, rfl⟩ : ∃ f, g = f + 1 := ⟨g - 1, by omega⟩
      rw [if_pos ((hmin i (by omega)).mpr (Or.inr x1)), cz_lp3_s, l_MO_hear_66, if_neg (show ¬ (2 : Int32) ≤ nI i from nI_ge (b := 2) (by omega) (by decide)), pl2 (by decide), pt2, hm16, m162, if_pos (nI_le x1 (by omega))]
      exact hfin
    rw [if_neg (fun z => by have := (hmin i (by omega)).mp z; omega)]
    by_cases x2 : d < fr + i
    · rw [if_pos ((sh_v5 (by omega) hf (by omega)).mpr x2), hstop (r + 1) i g C m (by omega) (by omega) e1 e2 hm16 x2]
      exact hfin
    obtain ⟨g, rfl⟩ : ∃ f, g = f + 1 := ⟨g - 1, by omega⟩
    have hB1 := hB.e e1 e2
    have hd1' : C.1 (69 + hd) 1 = nI d := by rw [e1.1 _ (by omega)]; exact hd1
    obtain ⟨j, j1, j2, j3⟩ := anc hB1 (nI hd) (nI (fr + i)) (d - (fr + i)) hd (fr + i) d 0 100 100 hlt hd1' hd2 (by omega) (by omega) (by omega) (by omega)
    have hanc : f_Blocks_ancestor C (nI hd) (nI (fr + i)) = some (nI j, C) := by
      rw [f_Blocks_ancestor, cp_numberOf (by omega), pb_i, hd1', pk_sub (by omega), j2]
    have hofh : f_MO_ofHead m (nI (fr + i)) = some (nI j, m) := by
      rw [f_MO_ofHead, hhead C m e1 e2, pb_i]
      exact j3
    obtain ⟨hn, n1, n2, n3, n4⟩ := hB1.row j1
    obtain ⟨Ca, a1, a2, a3, a4⟩ := hc.hdr (q := 69 + j) (cp_ln69 (by omega)) (by omega) (by omega) n2 n1 n3 n4 (by rw [List.length_append, List.length_cons, List.length_cons]; omega)
    have h17 := enL_len17 n3 n4
    obtain ⟨ma, b1, b2, b3, b4⟩ := mD_hdr (k := j) (h := hn) (nI p) 1 (cz_lp3 (l_MO_hear_66 (nI p) 1) g) (nI pre.length) (nI i) (nI (pre ++ body).length) (by omega) n2 5 0 100 m (pre ++ body) (by omega) (by omega) (fun i hi => (hB1.2.2.2.1 j i j1 hi).trans (n1 i hi)) hm (by rw [List.length_append]; omega)
    obtain ⟨mb, c1, c2, c3, c4⟩ := mD.wrap (as := pre ++ body) (bs := enL hn 0 5) b2 (by rw [List.length_append]; omega)
    have hc2 : cD Ca (192 :: pre ++ 192 :: (body ++ enH hn)) := by
      have e : 192 :: pre ++ 192 :: body ++ enH hn = 192 :: pre ++ 192 :: (body ++ enH hn) := by simp
      rw [e] at a2
      exact a2
    have hm2 : mD mb (pre ++ (body ++ enH hn)) := by
      have e : pre ++ body ++ nI (192 + (enL hn 0 5).length) :: enL hn 0 5 = pre ++ (body ++ enH hn) := by rw [List.append_assoc, enH]
      rw [e] at c2
      exact c2
    have h18 := enH_len n3 n4
    obtain ⟨C', m', y1, y2, y3, y4⟩ := ih (i + 1) f g (body ++ enH hn) Ca mb (by omega) (by omega) (by omega) (e1.tr a3) ((e2.tr b3).tr c3) (by rw [a4 16 (by decide) (by decide), h16]) (by rw [c4 16 (by decide) (by decide), b4 16 (by decide) (by decide), hm16]) hc2 hm2 (by rw [List.length_append]; omega) (hby.app (enH_byt n3 n4))
    refine ⟨C', m', ?_, ?_, y3, y4⟩
    · rw [if_neg (fun z => x2 ((sh_v5 (by omega) hf (by omega)).mp z)), h16, h164, nI_add, hanc, pb_i, pc_in (show j < 20 by omega) (by decide), nI_clamp (by omega), a1, pb_v, nI_1]
      exact y1
    · have b1 : cz_lp6 (l_MO_hear_118 (nI p) 1 (cz_lp3 (l_MO_hear_66 (nI p) 1) g)) 100 m (nI pre.length) (nI i) (nI j) (nI (pre ++ body).length) 0 = _ := b1
      rw [cz_lp3_s, l_MO_hear_66, if_neg (show ¬ (2 : Int32) ≤ nI i from nI_ge (b := 2) (by omega) (by decide)), pl2 (by decide), pt2, pl1 (by decide), pl1 (by decide), pt1, hm16, m162, m161, if_neg (nI_ge (by omega) hcn), if_neg (show ¬ (20 : Int32) ≤ nI fr from nI_ge (b := 20) (by omega) (by decide)), nI_add, hofh, pb_i, hm.2.1, b1, b_MO_hear_151, if_neg (pn_lt0 (by omega)), c1, pb_v, b_MO_hear_162, nI_1]
      exact y2
theorem st_sendHeaders {t p : Nat} {C m : cz_M} (h : rR t C m) (hp : p < 4) (hM : pM 1 C m) : ∃ C' m', f_CP_sendHeaders C (2 + 2 * p) = some C' ∧ b_MO_hear_44 (nI p) 1 m 2 = some (1, m') ∧ rR t C' m' ∧ C'.1 16 = C.1 16 := by
  obtain ⟨-, -, hM1, -⟩ := hM
  obtain ⟨f1, f2, f3, f4, f5, f6⟩ := hM1 rfl
  obtain ⟨id, i1, i2⟩ := nI_of (Int32.not_lt.mpr f4)
  obtain ⟨fr, fr1, fr2⟩ := nI_of (Int32.not_lt.mpr f5)
  obtain ⟨cnt, cn1, cn2⟩ := nI_of (Int32.not_lt.mpr f6)
  have h0 := h
  obtain ⟨n, hB, -⟩ := h0
  have h20 := hB.2.1.1.2
  have hlt := bk_head_lt hB.2.1
  obtain ⟨d, d1, d2, d3⟩ := hB.num hlt
  have hid5 := en_len5 id
  have h21 : (en 2).length = 1 := en_len1 (by omega)
  obtain ⟨Ca, a1, a2, a3⟩ := cD.begin C (k := 2) (by omega)
  obtain ⟨Cb, b1, b2, b3⟩ := a2.num (k := id) i1 (by rw [List.length_cons]; omega)
  obtain ⟨Cc, c1, c2, c3⟩ := b2.opn (by rw [List.length_append, List.length_cons]; omega)
  obtain ⟨ma, x1, x2, x3⟩ := mD.start m (k := 2) (v := id) (by omega) i1
  have e16a := fr_begin a1 16 (by decide) (by decide)
  have e16b := fr_num b1 16 (by decide) (by decide)
  have e16c := fr_opn c1 16 (by decide) (by decide)
  have m16 := fm_start x1 16 (by decide) (by decide)
  have eC3 := (a3.tr b3).tr c3
  have h16 : Cc.1 16 = C.1 16 := by rw [e16c, e16b, e16a]
  obtain ⟨C', m', z1, z2, z3, z4⟩ := sh_lp (pre := en 2 ++ en id) (C0 := C) (m0 := m) h hB hp rfl d2 d1 fr1 cn1 fr2 (by rw [← f2, fr2]) (by rw [← f3, cn2]) (by rw [List.length_append]; omega) ((byt.en _).app (byt.en _)) 2 0 100 100 [] Cc ma (by omega) (by omega) (by omega) eC3 x3 h16 m16 c2 (by rw [List.append_nil]; exact x2) (by simp) byt.nil
  refine ⟨C', m', ?_, ?_, z3, z4⟩
  · have a1 : f_Bytes_begin C 12 2 = some Ca := a1
    rw [List.length_append, List.length_cons, show (en 2).length + 1 + (en id).length = (en 2 ++ en id).length + 1 by rw [List.length_append]; omega] at c1
    rw [f_CP_sendHeaders, a1, pb_v, e16a, i2, b1, pb_v, c1, pb_i, cp_head (n := n) (by rw [eC3.1 19 (by omega)]; exact hB.1) hB.2.1.1.1 h20, pb_i, eC3.1 23 (by omega), eC3.1 26 (by omega), cp_numberOf (by omega), pb_i, eC3.1 (69 + bk_head n (C.1 23) (C.1 26)) (by omega), d2, h16, fr2, cn2]
    exact z1
  · have x1 : f_MO_start m 2 (nI id) = some ma := x1
    rw [b_MO_hear_44, pl0 (by decide), pt0, ← f1, i2, x1, pb_v, if_pos rfl, x2.2.1]
    exact z2
theorem st_sendBody {t p : Nat} {C m : cz_M} (h : rR t C m) (hp : p < 4) (hM : pM 3 C m) : ∃ C' m', f_CP_sendBody C (2 + 2 * p) = some C' ∧ b_MO_hear_44 (nI p) 3 m 4 = some (1, m') ∧ rR t C' m' ∧ C'.1 16 = C.1 16 := by
  obtain ⟨-, -, -, -, hM1, -⟩ := hM
  obtain ⟨f1, f2, f3⟩ := hM1 rfl
  obtain ⟨id, i1, i2⟩ := nI_of (Int32.not_lt.mpr f3)
  have h0 := h
  obtain ⟨n, hB, -⟩ := h0
  have h20 := hB.2.1.1.2
  have hid5 := en_len5 id
  have h41 : (en 4).length = 1 := en_len1 (by omega)
  obtain ⟨ma, x1, x2, x3⟩ := mD.start m (k := 4) (v := id) (by omega) i1
  have m16 := fm_start x1 16 (by decide) (by decide)
  have hBa := hB.e (eC.rf C) x3
  have x1 : f_MO_start m 4 (nI id) = some ma := x1
  rw [f_CP_sendBody, cp_Blocks_find hB.1 h20, pb_i, b_MO_hear_44, pl0 (by decide), pt0, ← f1, i2, x1, pb_v, if_neg (show ¬ (3 : Int32) = 1 by decide), pl1 (by decide), pt1, m16, ← f2, mo_ha hBa.2.1 hBa.2.2, pb_i]
  rcases bk_find_spec (ha := C.1 21) (h := C.1 16 6) n 0 with ⟨e, -⟩ | ⟨k, -, k2, -, k4⟩
  · rw [e, if_pos rfl, if_pos (show (-1 : Int32) < 0 by decide)]
    exact ⟨C, ma, rfl, rfl, h.e (eC.rf C) x3, rfl⟩
  · have hk : k < n := by omega
    rw [k4, if_neg (pn_m1 (by omega)), cp_hasBody (by omega), pb_i, if_neg (pn_lt0 (by omega)), pc_in (show k < mo_ln 3 by show k < 20; omega) (by decide), nI_clamp (show k < 2 ^ 31 by omega), hBa.2.2.2.2.1 k hk]
    rcases hB.2.1.2.2.2.2.2.2.1 k hk with e | ⟨s, s1, s2, s3⟩
    · rw [if_pos e, if_pos rfl, e, if_pos (show (-1 : Int32) < 0 by decide)]
      exact ⟨C, ma, rfl, rfl, h.e (eC.rf C) x3, rfl⟩
    · have s2 : C.1 25 k = nI s := s2
      rw [if_neg (show ¬ C.1 25 k = -1 by rw [s2]; exact pn_m1 (by omega)), if_neg (show ¬ (1 : Int32) = 0 by decide), if_neg (show ¬ C.1 25 k < 0 by rw [s2]; exact pn_lt0 (by omega))]
      have hbn : ∀ i, i < s → C.1 (89 + k) i = nI ((C.1 (89 + k) i).toNatClampNeg) ∧ (C.1 (89 + k) i).toNatClampNeg < 2 ^ 31 := by
        intro i hi
        obtain ⟨v, v1, v2⟩ := nI_of (Int32.not_lt.mpr (s3 i hi))
        simp only at v2
        rw [v2, nI_clamp v1]
        exact ⟨rfl, v1⟩
      have hEL := enL_len (fun i => (C.1 (89 + k) i).toNatClampNeg) s 0
      obtain ⟨Ca, a1, a2, a3⟩ := cD.begin C (k := 4) (by omega)
      obtain ⟨Cb, b1, b2, b3⟩ := a2.num (k := id) i1 (by rw [List.length_cons]; omega)
      obtain ⟨Cc, c1, c2, c3⟩ := b2.opn (by rw [List.length_append, List.length_cons]; omega)
      have e16a := fr_begin a1 16 (by decide) (by decide)
      have e16b := fr_num b1 16 (by decide) (by decide)
      have e16c := fr_opn c1 16 (by decide) (by decide)
      have eC3 := (a3.tr b3).tr c3
      have h16 : Cc.1 16 = C.1 16 := by rw [e16c, e16b, e16a]
      obtain ⟨Cd, d1, d2, d3, d4⟩ := cD_bod (k := k) (s := s) (h := fun i => (C.1 (89 + k) i).toNatClampNeg) (2 + 2 * p) (nI (192 :: en 4 ++ en id).length) (by omega) s1 (fun i hi => (hbn i hi).2) s 0 100 Cc _ (by omega) (by omega) (by rw [eC3.1 25 (by omega)]; exact s2) (fun i hi => by rw [eC3.1 _ (by omega)]; exact (hbn i hi).1) c2 (by rw [List.length_append, List.length_append, List.length_cons, List.length_singleton]; omega)
      obtain ⟨mb, y1, y2, y3, y4⟩ := mD_bod (k := k) (s := s) (h := fun i => (C.1 (89 + k) i).toNatClampNeg) (nI p) 3 (nI (en 4 ++ en id).length) (by omega) s1 (fun i hi => (hbn i hi).2) s 0 100 ma _ (by omega) (by omega) (by rw [hBa.2.2.2.2.1 k hk]; exact s2) (fun i hi => by rw [hBa.2.2.2.2.2 k i s hk s2 s1 hi]; exact (hbn i hi).1) x2 (by rw [List.length_append]; omega)
      have d2' : cD Cd (192 :: (en 4 ++ en id) ++ 192 :: enL (fun i => (C.1 (89 + k) i).toNatClampNeg) 0 s) := by
        have e : 192 :: en 4 ++ en id ++ [192] ++ enL (fun i => (C.1 (89 + k) i).toNatClampNeg) 0 s = 192 :: (en 4 ++ en id) ++ 192 :: enL (fun i => (C.1 (89 + k) i).toNatClampNeg) 0 s := by simp
        rw [e] at d2
        exact d2
      obtain ⟨C', m', w1, w2, w3, w4⟩ := sh_fin (h.e (eC3.tr d3) (x3.tr y3)) hp d2' y2 (by rw [List.length_append]; omega) ((byt.en _).app (byt.en _)) (enL_byt _ _ _)
      refine ⟨C', m', ?_, ?_, w3, ?_⟩
      · have a1 : f_Bytes_begin C 12 4 = some Ca := a1
        have d1 : cz_lp4 (l_CP_sendBody_65 (2 + 2 * p)) 100 Cc (nI k) (nI (192 :: en 4 ++ en id).length) 0 = _ := d1
        rw [a1, pb_v, e16a, i2, b1, pb_v, c1, pb_i, d1]
        have el : (192 :: en 4 ++ en id).length = (en 4 ++ en id).length + 1 := by simp
        rw [el]
        exact w1
      · have y1 : cz_lp4 (l_MO_hear_210 (nI p) 3) 100 ma (nI (en 4 ++ en id).length) (nI k) 0 = _ := y1
        rw [x2.2.1, y1]
        exact w2
      · rw [w4, d4 16 (by decide) (by decide), h16]
