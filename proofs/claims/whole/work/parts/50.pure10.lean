/-! PURE: lists in messages, and how a message is posted -/
theorem lD.set {f g : Nat → Int32} {as bs : List Int32} {x y : Int32} (h : lD f (as ++ x :: bs)) (h1 : ∀ i, i ≠ as.length → g i = f i) (h2 : g as.length = y) : lD g (as ++ y :: bs) := by
  intro i v hv
  by_cases e : i = as.length
  · subst e
    rw [List.getElem?_append_right (Nat.le_refl _), Nat.sub_self, List.getElem?_cons_zero] at hv
    rw [h2]
    exact Option.some.inj hv
  · rw [h1 i e]
    refine h i v ?_
    by_cases e2 : i < as.length
    · rw [List.getElem?_append_left e2] at hv ⊢
      exact hv
    · obtain ⟨j, rfl⟩ : ∃ j, i = as.length + (j + 1) := ⟨i - as.length - 1, by omega⟩
      rw [List.getElem?_append_right (by omega), show as.length + (j + 1) - as.length = j + 1 by omega, List.getElem?_cons_succ] at hv ⊢
      exact hv
theorem lD.ins {f g : Nat → Int32} {as bs : List Int32} {y : Int32} (h : lD f (as ++ bs)) (h1 : ∀ i, i < as.length → g i = f i) (h2 : g as.length = y) (h3 : ∀ i, as.length ≤ i → i < as.length + bs.length → g (i + 1) = f i) : lD g (as ++ y :: bs) := by
  intro i v hv
  by_cases e : i = as.length
  · subst e
    rw [List.getElem?_append_right (Nat.le_refl _), Nat.sub_self, List.getElem?_cons_zero] at hv
    rw [h2]
    exact Option.some.inj hv
  · by_cases e2 : i < as.length
    · rw [h1 i e2]
      refine h i v ?_
      rw [List.getElem?_append_left e2] at hv ⊢
      exact hv
    · obtain ⟨j, rfl⟩ : ∃ j, i = as.length + (j + 1) := ⟨i - as.length - 1, by omega⟩
      rw [List.getElem?_append_right (by omega), show as.length + (j + 1) - as.length = j + 1 by omega, List.getElem?_cons_succ] at hv
      have hj := (List.getElem?_eq_some_iff.mp hv).1
      rw [← Nat.add_assoc, h3 (as.length + j) (by omega) (by omega)]
      refine h _ v ?_
      rw [List.getElem?_append_right (by omega), show as.length + j - as.length = j by omega]
      exact hv
theorem cD.zero (C : cz_M) : cD (cz_i C 12 1 0) [] := ⟨by simp, pi_same _ _ _ _, lD.nil _⟩
theorem mD.zero (m : cz_M) : mD (cz_i m 0 26 0) [] := ⟨by simp, pi_same _ _ _ _, lD.nil _⟩
theorem cD.opn {C : cz_M} {xs : List Int32} (h : cD C xs) (h56 : xs.length < 56) : ∃ C', f_Bytes_beginList C 12 = some (nI xs.length, C') ∧ cD C' (xs ++ [192]) ∧ eC C C' := by
  obtain ⟨C', a1, a2, a3⟩ := h.add h56 192
  exact ⟨C', by rw [f_Bytes_beginList, a1, pb_v, h.2.1], a2, a3⟩
theorem cD.begin (C : cz_M) {k : Nat} (hk : k < 128) : ∃ C', f_Bytes_begin C 12 (nI k) = some C' ∧ cD C' (192 :: en k) ∧ eC C C' := by
  obtain ⟨C1, a1, a2, a3⟩ := (cD.zero C).opn (by simp)
  obtain ⟨C2, b1, b2, b3⟩ := a2.num (k := k) (by omega) (by rw [en_len]; have := en_n_le k; simp; omega)
  exact ⟨C2, by rw [f_Bytes_begin, a1, pb_i, b1, pb_v], b2, ((eC.i (by omega)).tr a3).tr b3⟩
theorem cD.close {C : cz_M} {as bs : List Int32} {x : Int32} (h : cD C (as ++ x :: bs)) : ∃ C', f_Bytes_endList C 12 (nI as.length) = some C' ∧ cD C' (as ++ nI (192 + bs.length) :: bs) ∧ eC C C' := by
  obtain ⟨h1, h2, h3⟩ := h
  rw [List.length_append, List.length_cons] at h1 h2
  refine ⟨cz_i C 13 as.length (nI (192 + bs.length)), ?_, ⟨?_, ?_, ?_⟩, eC.i (by omega)⟩
  · rw [f_Bytes_endList, if_neg (pn_lt0 (by omega)), h2, if_neg (nI_ge (by omega) (by omega)), pc_in (show as.length < cp_ln (12 + 1) by show as.length < 56; omega) (by decide), nI_clamp (by omega), show (192 : Int32) + nI (as.length + (bs.length + 1)) = nI (192 + (as.length + (bs.length + 1))) from nI_add 192 _, pk_sub (by omega), show nI (192 + (as.length + (bs.length + 1)) - as.length) - (1 : Int32) = nI (192 + (as.length + (bs.length + 1)) - as.length - 1) from pk_sub (b := 1) (by omega), show 192 + (as.length + (bs.length + 1)) - as.length - 1 = 192 + bs.length by omega]
  · rw [List.length_append, List.length_cons]
    exact h1
  · rw [pi_row _ _ _ _ (by decide), h2, List.length_append, List.length_cons]
  · exact h3.set (fun i hi => by rw [pi_get, if_neg (fun z => hi z.2)]) (pi_same _ _ _ _)
theorem mo_wrap_lp {s : Nat} : ∀ (r f : Nat) (m : cz_M), r < f → s + r < 60 → ∃ m', cz_lp2 (l_MO_wrap_5 (nI s)) f m (nI (s + r)) = b_MO_wrap_30 (nI s) m' ∧ (∀ i, i ≤ s ∨ s + r < i → m'.1 18 i = m.1 18 i) ∧ (∀ i, s ≤ i → i < s + r → m'.1 18 (i + 1) = m.1 18 i) ∧ ∀ k, k ≠ 18 → m'.1 k = m.1 k := by
  intro r
  induction r with
  | zero =>
    intro f m hf hs
    obtain ⟨f, rfl⟩ : ∃ g, f = g + 1 := ⟨f - 1, by omega⟩
    refine ⟨m, ?_, fun _ _ => rfl, fun i h1 h2 => by omega, fun _ _ => rfl⟩
    rw [cz_lp2_s, l_MO_wrap_5, if_pos (nI_le (by omega) (by omega))]
  | succ r ih =>
    intro f m hf hs
    obtain ⟨f, rfl⟩ : ∃ g, f = g + 1 := ⟨f - 1, by omega⟩
    obtain ⟨m', a1, a2, a3, a4⟩ := ih f (cz_i m 18 (s + (r + 1)) (m.1 18 (s + r))) (by omega) (by omega)
    refine ⟨m', ?_, fun i hi => ?_, fun i h1 h2 => ?_, fun k hk => (a4 k hk).trans (pi_row _ _ _ _ hk)⟩
    · have e1 : nI (s + (r + 1)) - (1 : Int32) = nI (s + r) := nI_pred (s + r)
      rw [cz_lp2_s, l_MO_wrap_5, if_neg (nI_ge (by omega) (by omega)), e1, pc_in (show s + r < mo_ln 18 by show s + r < 60; omega) (by decide), pc_in (show s + (r + 1) < mo_ln 18 by show s + (r + 1) < 60; omega) (by decide), nI_clamp (show s + r < 2 ^ 31 by omega), nI_clamp (show s + (r + 1) < 2 ^ 31 by omega)]
      exact a1
    · rw [a2 i (by omega), pi_get, if_neg (by omega)]
    · by_cases e : i = s + r
      · subst e
        rw [a2 _ (Or.inr (by omega)), show s + r + 1 = s + (r + 1) by omega, pi_same]
      · rw [a3 i h1 (by omega), pi_get, if_neg (by omega)]
theorem mD.wrap {m : cz_M} {as bs : List Int32} (h : mD m (as ++ bs)) (hl : as.length + bs.length < 60) : ∃ m', f_MO_wrap m (nI as.length) = some m' ∧ mD m' (as ++ nI (192 + bs.length) :: bs) ∧ eM m m' ∧ ∀ k, k ≠ 18 → k ≠ 0 → m'.1 k = m.1 k := by
  obtain ⟨h1, h2, h3⟩ := h
  rw [List.length_append] at h1 h2
  obtain ⟨m1, a1, a2, a3, a4⟩ := mo_wrap_lp (s := as.length) bs.length 100 m (by omega) (by omega)
  have h4 : m1.1 0 26 = nI (as.length + bs.length) := by rw [a4 0 (by decide), h2]
  have e1 : eM m m1 := ⟨fun j _ => by rw [a4 0 (by decide)], fun k _ _ => a4 k (by omega)⟩
  refine ⟨cz_i (cz_i m1 18 as.length (nI (192 + bs.length))) 0 26 (nI (as.length + bs.length + 1)), ?_, ⟨?_, ?_, ?_⟩, (e1.tr (eM.i (by omega))).tr (eM.i0 (by omega)), fun k k1 k2 => ?_⟩
  · rw [f_MO_wrap, h2, a1, b_MO_wrap_30, pc_in (show as.length < mo_ln 18 by show as.length < 60; omega) (by decide), nI_clamp (by omega), h4, show (192 : Int32) + nI (as.length + bs.length) = nI (192 + (as.length + bs.length)) from nI_add 192 _, pk_sub (by omega), show 192 + (as.length + bs.length) - as.length = 192 + bs.length by omega, pi_row _ _ _ _ (show (0 : Nat) ≠ 18 by decide), h4, nI_1]
  · rw [List.length_append, List.length_cons]
    omega
  · rw [pi_same, List.length_append, List.length_cons, Nat.add_assoc]
  · rw [pi_row _ _ _ _ (show (18 : Nat) ≠ 0 by decide)]
    exact h3.ins (fun i hi => by rw [pi_get, if_neg (by omega), a2 i (by omega)]) (pi_same _ _ _ _) (fun i h1 h2 => by rw [pi_get, if_neg (by omega), a3 i h1 h2])
  · rw [pi_row _ _ _ _ k2, pi_row _ _ _ _ k1, a4 k k1]
theorem mD.start (m : cz_M) {k v : Nat} (hk : k < 128) (hv : v < 2 ^ 31) : ∃ m', f_MO_start m (nI k) (nI v) = some m' ∧ mD m' (en k ++ en v) ∧ eM m m' := by
  obtain ⟨m1, a1, a2, a3⟩ := (mD.zero m).num (k := k) (by omega) (by rw [en_len]; have := en_n_le k; simp; omega)
  obtain ⟨m2, b1, b2, b3⟩ := a2.num hv (by rw [List.nil_append, en_len, en_len]; have := en_n_le k; have := en_n_le v; omega)
  exact ⟨m2, by rw [f_MO_start, a1, pb_v, b1, pb_v], b2, ((eM.i0 (by omega)).tr a3).tr b3⟩
theorem mo_post_lp {p s len : Nat} (hs : s < 16) (hlen : len ≤ 56) : ∀ (r k f : Nat) (m : cz_M), k + r = len → r < f → m.1 0 26 = nI len → ∃ m', cz_lp3 (l_MO_post_28 (nI p)) f m (nI s) (nI k) = b_MO_post_59 (nI p) m' (nI s) ∧ (∀ x, x ≠ 14 → m'.1 x = m.1 x) ∧ (∀ i, i < 56 * s + k ∨ 56 * s + len ≤ i → m'.1 14 i = m.1 14 i) ∧ ∀ i, k ≤ i → i < len → m'.1 14 (56 * s + i) = m.1 18 i := by
  intro r
  induction r with
  | zero =>
    intro k f m hk hf hl
    obtain ⟨f, rfl⟩ : ∃ g, f = g + 1 := ⟨f - 1, by omega⟩
    refine ⟨m, ?_, fun _ _ => rfl, fun _ _ => rfl, fun i h1 h2 => by omega⟩
    rw [cz_lp3_s, l_MO_post_28, hl, if_pos (nI_le (by omega) (by omega))]
  | succ r ih =>
    intro k f m hk hf hl
    obtain ⟨f, rfl⟩ : ∃ g, f = g + 1 := ⟨f - 1, by omega⟩
    obtain ⟨m', j1, j2, j3, j4⟩ := ih (k + 1) f (cz_i m 14 (56 * s + k) (m.1 18 k)) (by omega) (by omega) (by rw [pi_row _ _ _ _ (by decide)]; exact hl)
    refine ⟨m', ?_, fun x hx => (j2 x hx).trans (pi_row _ _ _ _ hx), fun i hi => ?_, fun i h1 h2 => ?_⟩
    · rw [cz_lp3_s, l_MO_post_28, hl, if_neg (nI_ge (by omega) (by omega)), show (56 : Int32) * nI s = nI (56 * s) from pk_mul 56 s, nI_add, pc_in (show k < mo_ln 18 by show k < 60; omega) (by decide), pc_in (show 56 * s + k < mo_ln 14 by show 56 * s + k < 896; omega) (by decide), nI_clamp (show k < 2 ^ 31 by omega), nI_clamp (show 56 * s + k < 2 ^ 31 by omega), nI_1]
      exact j1
    · rw [j3 i (by omega), pi_get, if_neg (by omega)]
    · by_cases e : i = k
      · subst e
        rw [j3 _ (by omega), pi_same]
      · rw [j4 i (by omega) h2, pi_row _ _ _ _ (by decide)]
theorem rR.post {t p : Nat} {C m : cz_M} {xs : List Int32} (h : rR t C m) (hp : p < 4) (hc : cD C (192 :: xs)) (hm : mD m xs) (hl : xs.length ≤ 55) (hb : ∀ x, x ∈ xs → ∃ b, b < 256 ∧ x = nI b) : ∃ C' m', f_CP_sendDraft C (2 + 2 * p) = some C' ∧ f_MO_post m (nI p) = some m' ∧ rR t C' m' ∧ C'.1 16 = C.1 16 ∧ C'.1 0 = C.1 0 := by
  obtain ⟨C1, a1, ⟨a2, a2', a2''⟩, a3⟩ := cD.close (as := []) (bs := xs) hc
  obtain ⟨m1, b1, ⟨b2, b2', b2''⟩, b3, -⟩ := mD.wrap (as := []) (bs := xs) hm (by simp; omega)
  rw [List.nil_append, List.length_cons] at a2' b2'
  rw [List.nil_append] at a2'' b2''
  have h1 := h.e a3 b3
  have h16 : C1.1 16 = C.1 16 := by
    have a1 : f_Bytes_endList C 12 0 = some C1 := a1
    rw [f_Bytes_endList, if_neg (by decide)] at a1
    by_cases e : C.1 12 1 ≤ 0
    · rw [if_pos e] at a1
      rw [Option.some.inj a1]
    · rw [if_neg e] at a1
      by_cases e2 : (0 : Int32) < 0 ∨ cp_ln (12 + 1) ≤ (0 : Int32).toNatClampNeg
      · exact absurd e2 (by decide)
      · rw [if_neg e2] at a1
        rw [← Option.some.inj a1, pi_row _ _ _ _ (by decide)]
  have a1 : f_Bytes_endList C 12 0 = some C1 := a1
  have b1 : f_MO_wrap m 0 = some m1 := b1
  have h1' := h1
  obtain ⟨n, hB, hP, hW, hG⟩ := h1'
  obtain ⟨hs, q2, q3, q4, q5, ⟨o, o1, o2, o3, o4⟩, q7, q8⟩ := hP p hp
  rw [f_CP_sendDraft, a1, pb_v, f_Peer_addToOutbox, o2, f_MO_post, b1, pb_v, pc_p hp (by omega) (by omega), pc_p hp (by omega) (by omega), nI_clamp (show p < 2 ^ 31 by omega), o3]
  by_cases e : o = 4
  · subst e
    rw [if_pos (by decide), if_pos (by decide), pb_v]
    exact ⟨C1, m1, rfl, rfl, h1, h16, a3.1 0 (by omega)⟩
  rw [if_neg (show ¬ (4 : Int32) ≤ nI o from nI_ge (b := 4) (by omega) (by decide)), if_neg (show ¬ (4 : Int32) ≤ nI o from nI_ge (b := 4) (by omega) (by decide)), pc_in (show o < 4 by omega) (by decide), nI_clamp (show o < 2 ^ 31 by omega)]
  obtain ⟨x, x1, x2⟩ := q7 o (by omega)
  have hBo : cp_B (C1.2 (2 + 2 * p + 1) o) := by
    rw [x2]
    exact Or.inr ⟨by omega, by omega, by omega⟩
  obtain ⟨C2, g1, g2, g3, g4, g5⟩ := cp_copy (C := C1) (a := C1.2 (2 + 2 * p + 1) o) (b := 12) hBo (by decide)
  rw [x2] at g3 g4 g5
  obtain ⟨m2, c1, c2, c3, c4⟩ := mo_post_lp (p := p) (s := 4 * p + o) (len := xs.length + 1) (by omega) (by omega) (xs.length + 1) 0 100 m1 (by omega) (by omega) b2'
  have g9 : C2.1 (2 + 2 * p) 9 = nI o := by rw [g3 _ (by omega) (by omega)]; exact o2
  have c26 : m2.1 0 26 = nI (xs.length + 1) := by rw [c2 0 (by decide)]; exact b2'
  have c12 : m2.1 12 p = nI o := by rw [c2 12 (by decide)]; exact o3
  rw [if_pos hBo, g1, pb_v, pb_v, g9, nI_1]
  have e1 : cz_lp3 (l_MO_post_28 (nI p)) 100 m1 (4 * nI p + nI o) 0 = some (cz_i (cz_i m2 13 (4 * p + o) (nI (xs.length + 1))) 12 p (nI (o + 1))) := by
    rw [show (4 : Int32) * nI p = nI (4 * p) from pk_mul 4 p, nI_add]
    refine Eq.trans c1 ?_
    rw [b_MO_post_59, pc_in (show 4 * p + o < mo_ln 13 by show 4 * p + o < 16; omega) (by decide), pc_p hp (by omega) (by omega), pc_p hp (by omega) (by omega), nI_clamp (show p < 2 ^ 31 by omega), nI_clamp (show 4 * p + o < 2 ^ 31 by omega), c26, pi_row _ _ _ _ (show (12 : Nat) ≠ 13 by decide), c12, nI_1]
  refine ⟨_, _, rfl, e1, ⟨n, hB.fr ?_ ?_ ?_ ?_, fun p' hp' => ?_, hW.fr ?_ ?_ ?_ ?_, hG.fr ?_ ?_⟩, ?_, ?_⟩
  · rw [pi_row _ _ _ _ (by omega), g3 19 (by omega) (by omega)]
  · intro k hk
    rw [pi_row _ _ _ _ (by omega), g3 k (by omega) (by omega)]
  · rw [pi_row _ _ _ _ (by decide), pi_row _ _ _ _ (by decide), c2 0 (by decide)]
  · intro k k1 k2
    rw [pi_row _ _ _ _ (by omega), pi_row _ _ _ _ (by omega), c2 k (by omega)]
  · by_cases ep : p' = p
    · subst ep
      have hk : ∀ k, k ≠ 12 → k ≠ 13 → k ≠ 14 → (cz_i (cz_i m2 13 (4 * p' + o) (nI (xs.length + 1))) 12 p' (nI (o + 1))).1 k = m1.1 k := fun k k1 k2 k3 => by rw [pi_row _ _ _ _ k1, pi_row _ _ _ _ k2, c2 k k3]
      have hq : ∀ j, j ≠ 9 → (cz_i C2 (2 + 2 * p') 9 (nI (o + 1))).1 (2 + 2 * p') j = C1.1 (2 + 2 * p') j := fun j hj => by rw [pi_get, if_neg (fun z => hj z.2), g3 _ (by omega) (by omega)]
      refine ⟨?_, ?_, ?_, ?_, ?_, ⟨o + 1, by omega, pi_same _ _ _ _, pi_same _ _ _ _, fun j hj => ?_⟩, ?_, ?_⟩
      · rw [hq 0 (by decide), hq 1 (by decide), hk 4 (by decide) (by decide) (by decide), hk 5 (by decide) (by decide) (by decide)]
        exact hs
      · rw [hq 2 (by decide), hk 6 (by decide) (by decide) (by decide)]
        exact q2
      · rw [hq 3 (by decide), hk 7 (by decide) (by decide) (by decide)]
        exact q3
      · rw [hq 5 (by decide), hk 10 (by decide) (by decide) (by decide)]
        exact q4
      · unfold rQ at q5 ⊢
        rw [hq 4 (by decide), hq 5 (by decide), hq 6 (by decide), hq 7 (by decide), hk 4 (by decide) (by decide) (by decide), hk 8 (by decide) (by decide) (by decide), hk 9 (by decide) (by decide) (by decide), hk 11 (by decide) (by decide) (by decide)]
        exact q5
      · have hC2 : (cz_i C2 (2 + 2 * p') 9 (nI (o + 1))).2 = C1.2 := g2
        rw [hC2]
        by_cases ej : j = o
        · subst ej
          rw [x2]
          refine ⟨xs.length + 1, by omega, by omega, ?_, ?_, fun i hi => ?_⟩
          · rw [pi_row _ _ _ _ (by omega), g4, a2']
          · rw [pi_row _ _ _ _ (by decide), pi_same]
          · rw [pi_row _ _ _ _ (by omega), g5 i (by omega), pi_row _ _ _ _ (show (14 : Nat) ≠ 12 by decide), pi_row _ _ _ _ (show (14 : Nat) ≠ 13 by decide), c4 i (by omega) hi]
            obtain ⟨v, hv⟩ : ∃ v, (nI (192 + xs.length) :: xs)[i]? = some v := ⟨_, List.getElem?_eq_getElem (by rw [List.length_cons]; exact hi)⟩
            have d1 := a2'' i v hv
            have d2 := b2'' i v hv
            refine ⟨d1.trans d2.symm, ?_⟩
            rw [show (12 + 1 : Nat) = 13 from rfl, d1]
            rcases List.mem_cons.mp (List.mem_of_getElem? hv) with hv | hv
            · exact ⟨_, by omega, hv⟩
            · exact hb v hv
        · obtain ⟨y, y1, y2⟩ := q7 j (by omega)
          have yx : y ≠ x := by
            intro z
            subst z
            exact ej (q8 j o (by omega) (by omega) (y2.trans x2.symm))
          have o5 := o4 j (by omega)
          rw [y2] at o5 ⊢
          refine o5.fr ?_ ?_ ?_ (fun i hi => ?_)
          · rw [pi_row _ _ _ _ (by omega), g3 _ (by omega) (by omega)]
          · rw [pi_row _ _ _ _ (by omega), g3 _ (by omega) (by omega)]
          · rw [pi_row _ _ _ _ (by decide), pi_get, if_neg (by omega), c2 13 (by decide)]
          · rw [pi_row _ _ _ _ (by decide), pi_row _ _ _ _ (by decide), c3 _ (by omega)]
      · have hC2 : (cz_i C2 (2 + 2 * p') 9 (nI (o + 1))).2 = C1.2 := g2
        rw [hC2]
        exact q7
      · have hC2 : (cz_i C2 (2 + 2 * p') 9 (nI (o + 1))).2 = C1.2 := g2
        rw [hC2]
        exact q8
    · refine (hP p' hp').fr ?_ (congrFun g2 _) (fun e he => ?_) (fun k k1 k2 => ?_) (fun j hj => ?_) (fun i hi => ?_)
      · rw [pi_row _ _ _ _ (by omega), g3 _ (by omega) (by omega)]
      · rw [pi_row _ _ _ _ (by omega), g3 _ (by omega) (by omega)]
      · rw [pi_get, if_neg (fun z => ep z.2), pi_row _ _ _ _ (by omega), c2 k (by omega)]
      · rw [pi_row _ _ _ _ (by decide), pi_get, if_neg (by omega), c2 13 (by decide)]
      · rw [pi_row _ _ _ _ (by decide), pi_row _ _ _ _ (by decide), c3 _ (by omega)]
  · rw [pi_row _ _ _ _ (by omega), g3 _ (by omega) (by omega)]
  · rw [pi_row _ _ _ _ (by omega), g3 _ (by omega) (by omega)]
  · rw [pi_row _ _ _ _ (by decide), pi_row _ _ _ _ (by decide), c2 0 (by decide)]
  · rw [pi_row _ _ _ _ (by decide), pi_row _ _ _ _ (by decide), c2 15 (by decide)]
  · rw [pi_row _ _ _ _ (by omega), g3 _ (by omega) (by omega)]
  · intro j hj
    rw [pi_row _ _ _ _ (by decide), pi_row _ _ _ _ (by decide), c2 0 (by decide)]
  · rw [pi_row _ _ _ _ (by omega), g3 _ (by omega) (by omega), h16]
  · rw [pi_row _ _ _ _ (by omega), g3 _ (by omega) (by omega), a3.1 0 (by omega)]
