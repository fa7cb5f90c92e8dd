/-! PURE: how bytes are read: a number, a list's first byte -/
theorem pi_pi (M : cz_M) (k j : Nat) (u v : Int32) : cz_i (cz_i M k j u) k j v = cz_i M k j v := by
  refine Prod.ext ?_ rfl
  funext k' j'
  show (if k' = k ∧ j' = j then v else if k' = k ∧ j' = j then u else M.1 k' j') = if k' = k ∧ j' = j then v else M.1 k' j'
  by_cases e : k' = k ∧ j' = j
  · rw [if_pos e, if_pos e]
  · rw [if_neg e, if_neg e, if_neg e]
/-- the bytes b, w of them, read up to a, on both sides -/
def pS (w : Nat) (b : Nat → Nat) (a : Nat) (C m : cz_M) : Prop := (C.1 14 1 = nI w ∧ C.1 16 11 = nI a ∧ ∀ i, i < w → C.1 15 i = nI (b i)) ∧ m.1 0 19 = nI w ∧ m.1 0 21 = nI a ∧ ∀ i, i < w → m.1 15 i = nI (b i)
def be (b : Nat → Nat) (i : Nat) : Nat → Nat → Nat
  | 0, v => v
  | n + 1, v => be b (i + 1) n (v * 256 + b i)
section PS
variable {w a e : Nat} {b : Nat → Nat} {C m : cz_M}
theorem ps_at (hw : w ≤ 56) (hC : C.1 14 1 = nI w ∧ C.1 16 11 = nI a ∧ ∀ i, i < w → C.1 15 i = nI (b i)) {i : Nat} (hi : i < w) : f_Bytes_at C 14 (nI i) = some (nI (b i), C) := by
  rw [f_Bytes_at, if_neg (pn_lt0 (by omega)), hC.1, if_neg (nI_ge hi (by omega)), pc_in (show i < cp_ln (14 + 1) by show i < 56; omega) (by decide), nI_clamp (by omega), hC.2.2 i hi]
theorem ps_out (hw : w ≤ 56) (hC : C.1 14 1 = nI w ∧ C.1 16 11 = nI a ∧ ∀ i, i < w → C.1 15 i = nI (b i)) {i : Nat} (hi : w ≤ i) (h : i < 2 ^ 31) : f_Bytes_at C 14 (nI i) = some (-1, C) := by
  rw [f_Bytes_at, if_neg (pn_lt0 h), hC.1, if_pos (nI_le hi h)]
theorem ps_lp (hw : w ≤ 56) (hb : ∀ i, i < w → b i < 256) (hC : C.1 14 1 = nI w ∧ C.1 16 11 = nI a ∧ ∀ i, i < w → C.1 15 i = nI (b i)) (a1 : Int32) {l : Nat} (hl : a + l < w) : ∀ (r k f v : Nat), k + r = l + 1 → r < f → cz_lp4 (l_Message_nextNumber_76 a1) f C (nI l) (lN v) (nI k) = b_Message_nextNumber_112 a1 C (nI l) (lN (be b (a + k) r v)) := by
  intro r
  induction r with
  | zero =>
    intro k f v hk hf
    obtain ⟨f, rfl⟩ : ∃ g, f = g + 1 := ⟨f - 1, by omega⟩
    rw [cz_lp4_s, l_Message_nextNumber_76, if_pos (nI_lt (by omega) (by omega)), be]
  | succ r ih =>
    intro k f v hk hf
    obtain ⟨f, rfl⟩ : ∃ g, f = g + 1 := ⟨f - 1, by omega⟩
    have hx := hb (a + k) (by omega)
    rw [cz_lp4_s, l_Message_nextNumber_76, if_neg (nI_nlt (by omega) (by omega)), hC.2.1, nI_add, ps_at hw hC (show a + k < w by omega), pb_i, nI_l (by omega), show (256 : Int64) = lN 256 from rfl, lN_mul, lN_add, nI_1, be, ih (k + 1) f _ (by omega) (by omega), Nat.add_assoc a k 1]
theorem ms_lp (hw : w ≤ 56) (hb : ∀ i, i < w → b i < 256) (h21 : m.1 0 21 = nI (a + 1)) (hm : ∀ i, i < w → m.1 15 i = nI (b i)) (a1 : Int32) {l : Nat} (hl : a + l < w) : ∀ (r k f v : Nat), k + r = l → r < f → cz_lp4 (l_MO_number_81 a1) f m (nI l) (lN v) (nI k) = b_MO_number_115 a1 m (nI l) (lN (be b (a + 1 + k) r v)) := by
  intro r
  induction r with
  | zero =>
    intro k f v hk hf
    obtain ⟨f, rfl⟩ : ∃ g, f = g + 1 := ⟨f - 1, by omega⟩
    rw [cz_lp4_s, l_MO_number_81, if_pos (nI_le (by omega) (by omega)), be]
  | succ r ih =>
    intro k f v hk hf
    obtain ⟨f, rfl⟩ : ∃ g, f = g + 1 := ⟨f - 1, by omega⟩
    have hx := hb (a + 1 + k) (by omega)
    rw [cz_lp4_s, l_MO_number_81, if_neg (nI_ge (by omega) (by omega)), h21, nI_add, pc_in (show a + 1 + k < mo_ln 15 by show _ < 56; omega) (by decide), nI_clamp (by omega), hm _ (by omega), nI_l (by omega), show (256 : Int64) = lN 256 from rfl, lN_mul, lN_add, nI_1, be, ih (k + 1) f _ (by omega) (by omega), Nat.add_assoc (a + 1) k 1]
theorem en_n_0 {v : Nat} : en_n v = 0 ↔ v < 128 := by
  unfold en_n
  by_cases e1 : v < 128
  · simp [e1]
  · rw [if_neg e1]
    split <;> (try split) <;> (try split) <;> omega
theorem en_n_1 {v : Nat} : en_n v = 1 ↔ 128 ≤ v ∧ v < 256 := by
  unfold en_n
  split <;> (try split) <;> (try split) <;> (try split) <;> omega
theorem en_n_2 {v : Nat} : en_n v = 2 ↔ 256 ≤ v ∧ v < 65536 := by
  unfold en_n
  split <;> (try split) <;> (try split) <;> (try split) <;> omega
theorem en_n_3 {v : Nat} : en_n v = 3 ↔ 65536 ≤ v ∧ v < 16777216 := by
  unfold en_n
  split <;> (try split) <;> (try split) <;> (try split) <;> omega
theorem en_n_4 {v : Nat} : en_n v = 4 ↔ 16777216 ≤ v := by
  unfold en_n
  split <;> (try split) <;> (try split) <;> (try split) <;> omega
theorem be_bd (hb : ∀ i, i < w → b i < 256) {i l : Nat} (hl : l ≤ 4) (hi : i + l ≤ w) : be b i l 0 < 2 ^ 32 := by
  have : l = 0 ∨ l = 1 ∨ l = 2 ∨ l = 3 ∨ l = 4 := by omega
  rcases this with rfl | rfl | rfl | rfl | rfl
  · simp [be]
  · have h0 := hb i (by omega)
    simp [be]
    omega
  · have h0 := hb i (by omega)
    have h1 := hb (i + 1) (by omega)
    simp [be]
    omega
  · have h0 := hb i (by omega)
    have h1 := hb (i + 1) (by omega)
    have h2 := hb (i + 1 + 1) (by omega)
    simp [be]
    omega
  · have h0 := hb i (by omega)
    have h1 := hb (i + 1) (by omega)
    have h2 := hb (i + 1 + 1) (by omega)
    have h3 := hb (i + 1 + 1 + 1) (by omega)
    simp [be]
    omega
/-- no code longer than it must be -/
theorem be_can (hb : ∀ i, i < w → b i < 256) {i l : Nat} (hl : l ≤ 4) (hi : i + l ≤ w) : en_n (be b i l 0) = l ↔ ¬ (l = 1 ∧ be b i l 0 < 128) ∧ ¬ (1 < l ∧ b i = 0) := by
  have : l = 0 ∨ l = 1 ∨ l = 2 ∨ l = 3 ∨ l = 4 := by omega
  rcases this with rfl | rfl | rfl | rfl | rfl
  · rw [en_n_0]
    simp [be]
  · have h0 := hb i (by omega)
    rw [en_n_1]
    simp [be]
    omega
  · have h0 := hb i (by omega)
    have h1 := hb (i + 1) (by omega)
    rw [en_n_2]
    simp [be]
    omega
  · have h0 := hb i (by omega)
    have h1 := hb (i + 1) (by omega)
    have h2 := hb (i + 1 + 1) (by omega)
    rw [en_n_3]
    simp [be]
    omega
  · have h0 := hb i (by omega)
    have h1 := hb (i + 1) (by omega)
    have h2 := hb (i + 1 + 1) (by omega)
    have h3 := hb (i + 1 + 1 + 1) (by omega)
    rw [en_n_4]
    simp [be]
    omega
theorem lg_max {v : Nat} (hv : v < 2 ^ 32) : 0 < lg_cmp (lN v) (2147483647 : Int64) ↔ 2 ^ 31 ≤ v := by
  rw [lg_cmp_gt, show (2147483647 : Int64) = lN 2147483647 from rfl, pk_lLT (by omega) (by omega)]
  omega
theorem lg_128 {v : Nat} (hv : v < 2 ^ 32) : lg_cmp (lN v) (128 : Int64) < 0 ↔ v < 128 := by
  rw [lg_cmp_lt, show (128 : Int64) = lN 128 from rfl, pk_lLT (by omega) (by omega)]
/-- one number: both read it, or both refuse -/
theorem ps_num (hw : w ≤ 56) (hb : ∀ i, i < w → b i < 256) (ha : a ≤ w) (he : e ≤ w) (h : pS w b a C m) : ∃ r a', a ≤ a' ∧ a' ≤ w ∧ f_Message_nextNumber C (nI e) = some (r, cz_i C 16 11 (nI a')) ∧ ((∃ v, r = nI v ∧ v < 2 ^ 31 ∧ a < a' ∧ a' ≤ e ∧ f_MO_number m (nI e) = some (1, cz_i (cz_i m 0 21 (nI a')) 0 22 r)) ∨ (r = -1 ∧ ∃ m', f_MO_number m (nI e) = some (0, m') ∧ eM m m')) := by
  obtain ⟨hC, m1, m2, m3⟩ := h
  have hid : cz_i C 16 11 (nI a) = C := pi_id hC.2.1
  have e21 : eM m (cz_i m 0 21 (nI (a + 1))) := eM.i0 (by omega)
  by_cases haw : a < w
  · have hx := hb a haw
    rw [f_Message_nextNumber, hC.2.1, ps_at hw hC haw, pb_i, f_MO_number, m2, nI_1, pc_in (show a < mo_ln 15 by show a < 56; omega) (by decide), nI_clamp (show a < 2 ^ 31 by omega), m3 a haw, hC.2.1, nI_1]
    by_cases x0 : b a < 128
    · -- one byte
      have hs : nI (b a) - (128 : Int32) < 0 := pk_sneg (b := 128) (by omega) x0
      have b43 : b_Message_nextNumber_43 (nI e) C (nI (b a)) = some (-1, C) := by rw [b_Message_nextNumber_43, if_pos hs]
      by_cases x1 : b a = 0
      · rw [if_pos (show nI (b a) ≤ 0 by rw [x1]; decide), b43, if_pos (show nI (b a) ≤ 0 by rw [x1]; decide), b_MO_number_48, if_pos hs]
        refine ⟨-1, a, Nat.le_refl _, ha, by rw [hid], Or.inr ⟨rfl, ?_⟩⟩
        by_cases x2 : a < e
        · rw [if_pos (nI_lt x2 (by omega))]
          exact ⟨_, rfl, e21⟩
        · rw [if_neg (nI_nlt (by omega) (by omega))]
          exact ⟨_, rfl, eM.rf m⟩
      · rw [if_neg (nI_nle (by omega) (by omega)), if_neg (nI_nle (by omega) (by omega)), if_neg (show ¬ (128 : Int32) ≤ nI (b a) from nI_ge (b := 128) x0 (by decide)), if_neg (show ¬ (128 : Int32) ≤ nI (b a) from nI_ge (b := 128) x0 (by decide)), b43]
        by_cases x2 : a < e
        · rw [if_neg (nI_ge x2 (by omega)), if_pos (nI_lt x2 (by omega))]
          exact ⟨_, a + 1, by omega, by omega, rfl, Or.inl ⟨b a, rfl, by omega, by omega, by omega, rfl⟩⟩
        · rw [if_pos (nI_le (by omega) (by omega)), if_neg (nI_nlt (by omega) (by omega))]
          exact ⟨-1, a, Nat.le_refl _, ha, by rw [hid], Or.inr ⟨rfl, m, rfl, eM.rf m⟩⟩
    · obtain ⟨l, hl⟩ : ∃ l, b a = 128 + l := ⟨b a - 128, by omega⟩
      have hsub : nI (128 + l) - (128 : Int32) = nI l := by
        rw [show (128 : Int32) = nI 128 from rfl, pk_sub (by omega), Nat.add_sub_cancel_left]
      rw [hl, if_neg (nI_nle (by omega) (by omega)), if_neg (nI_nle (by omega) (by omega)), if_pos (show (128 : Int32) ≤ nI (128 + l) from nI_le (a := 128) (by omega) (by omega)), if_pos (show (128 : Int32) ≤ nI (128 + l) from nI_le (a := 128) (by omega) (by omega)), b_Message_nextNumber_43, hsub, if_neg (pn_lt0 (by omega)), b_MO_number_48, hsub, if_neg (pn_lt0 (by omega)), pi_same, hC.2.1, nI_add, nI_add]
      have hfail : ∀ m', eM m m' → ∀ (X : Option (Int32 × cz_M)), X = some (0, m') → ∃ r a', a ≤ a' ∧ a' ≤ w ∧ some ((-1 : Int32), C) = some (r, cz_i C 16 11 (nI a')) ∧ ((∃ v, r = nI v ∧ v < 2 ^ 31 ∧ a < a' ∧ a' ≤ e ∧ X = some (1, cz_i (cz_i m 0 21 (nI a')) 0 22 r)) ∨ (r = -1 ∧ ∃ m', X = some (0, m') ∧ eM m m')) := fun m' h1 X h2 => ⟨-1, a, Nat.le_refl _, ha, by rw [hid], Or.inr ⟨rfl, m', h2, h1⟩⟩
      by_cases l4 : 4 < l
      · rw [if_pos (show (4 : Int32) < nI l from nI_lt (a := 4) l4 (by omega)), if_pos (show (4 : Int32) < nI l from nI_lt (a := 4) l4 (by omega))]
        by_cases x2 : a < e
        · rw [if_pos (nI_lt x2 (by omega))]
          exact hfail _ e21 _ rfl
        · rw [if_neg (nI_nlt (by omega) (by omega))]
          exact hfail _ (eM.rf m) _ rfl
      · rw [if_neg (show ¬ (4 : Int32) < nI l from nI_nlt (a := 4) (by omega) (by decide)), if_neg (show ¬ (4 : Int32) < nI l from nI_nlt (a := 4) (by omega) (by decide))]
        by_cases x2 : a + l < e
        · rw [if_pos (nI_lt x2 (by omega)), if_pos (nI_lt (show a < e by omega) (by omega)), if_pos (nI_le (show a + 1 + l ≤ e by omega) (by omega))]
          have p1 := ps_lp hw hb hC (nI e) (l := l) (by omega) l 1 100 0 (by omega) (by omega)
          have p2 := ms_lp (m := cz_i m 0 21 (nI (a + 1))) hw hb (pi_same _ _ _ _) (fun i hi => by rw [pi_row _ _ _ _ (by decide)]; exact m3 i hi) (nI e) (l := l) (by omega) l 0 100 0 (by omega) (by omega)
          have p1 : cz_lp4 (l_Message_nextNumber_76 (nI e)) 100 C (nI l) 0 1 = _ := p1
          have p2 : cz_lp4 (l_MO_number_81 (nI e)) 100 (cz_i m 0 21 (nI (a + 1))) (nI l) 0 0 = _ := p2
          rw [Nat.add_zero] at p2
          have hV := be_bd (w := w) hb (i := a + 1) (l := l) (by omega) (by omega)
          have hcan := be_can (w := w) hb (i := a + 1) (l := l) (by omega) (by omega)
          rw [p1, p2, b_Message_nextNumber_112]
          generalize be b (a + 1) l 0 = V at hV hcan
          have h15 : (cz_i m 0 21 (nI (a + 1))).1 15 = m.1 15 := pi_row _ _ _ _ (by decide)
          have f151 : ∀ s, ∃ m', eM m m' ∧ (¬ s = 0 → b_MO_number_151 (nI e) (cz_i m 0 21 (nI (a + 1))) (nI l) (lN V) s = some (0, m')) ∧ (2 ^ 31 ≤ V → b_MO_number_151 (nI e) (cz_i m 0 21 (nI (a + 1))) (nI l) (lN V) s = some (0, m')) := by
            intro s
            refine ⟨_, (e21.tr (eM.i0 (j := 21) (v := nI (a + 1) + nI l) (by omega))).tr (eM.i0 (j := 22) (v := (lN V).toInt32) (by omega)), fun h0 => ?_, fun h0 => ?_⟩
            · rw [b_MO_number_151, if_neg h0, pi_same]
            · rw [b_MO_number_151, pi_same, if_pos ((lg_max hV).mpr h0)]
              by_cases z : s = 0
              · rw [if_pos z]
              · rw [if_neg z]
          by_cases c1 : 2 ^ 31 ≤ V
          · rw [if_pos ((lg_max hV).mpr c1)]
            have : ∃ s, b_MO_number_115 (nI e) (cz_i m 0 21 (nI (a + 1))) (nI l) (lN V) = b_MO_number_151 (nI e) (cz_i m 0 21 (nI (a + 1))) (nI l) (lN V) s := by
              rw [b_MO_number_115, b_MO_number_146, b_MO_number_129, b_MO_number_150, pi_same, h15]
              by_cases z1 : nI l = 1
              · rw [if_pos z1]
                by_cases z2 : lg_cmp (lN V) (128 : Int64) < 0
                · rw [if_pos z2]
                  exact ⟨_, rfl⟩
                · rw [if_neg z2, if_pos (show nI l ≤ 1 by rw [z1]; decide)]
                  exact ⟨_, rfl⟩
              · rw [if_neg z1]
                by_cases z2 : nI l ≤ 1
                · rw [if_pos z2]
                  exact ⟨_, rfl⟩
                · have hl2 : 1 < l := by
                    by_cases z3 : 1 < l
                    · exact z3
                    · exact absurd (show nI l ≤ 1 from nI_le (b := 1) (by omega) (by decide)) z2
                  rw [if_neg z2, pc_in (show a + 1 < mo_ln 15 by show _ < 56; omega) (by decide), nI_clamp (by omega)]
                  by_cases z3 : m.1 15 (a + 1) = 0
                  · rw [if_pos z3]
                    exact ⟨_, rfl⟩
                  · rw [if_neg z3]
                    exact ⟨_, rfl⟩
            obtain ⟨s, hs⟩ := this
            obtain ⟨m', f1, -, f3⟩ := f151 s
            exact hfail m' f1 _ (hs.trans (f3 c1))
          · have hV31 : V < 2 ^ 31 := by omega
            rw [if_neg (fun z => c1 ((lg_max hV).mp z)), lN_i, cp_codeLength hV31, pb_i, show (1 : Int32) + nI l = nI (1 + l) from nI_add 1 l]
            have f150 : b_MO_number_151 (nI e) (cz_i m 0 21 (nI (a + 1))) (nI l) (lN V) 0 = some (1, cz_i (cz_i m 0 21 (nI (a + (1 + l)))) 0 22 (nI V)) := by
              rw [b_MO_number_151, if_pos rfl, if_neg (fun z => c1 ((lg_max hV).mp z)), pi_same, nI_add, pi_pi, lN_i, Nat.add_assoc]
            obtain ⟨m', f1, f2, -⟩ := f151 1
            have f146 := f2 (by decide)
            by_cases c2 : en_n V = l
            · rw [if_pos (show nI (1 + en_n V) = nI (1 + l) by rw [c2]), hC.2.1, nI_add]
              obtain ⟨d1, d2⟩ := hcan.mp c2
              refine ⟨nI V, a + (1 + l), by omega, by omega, rfl, Or.inl ⟨V, rfl, hV31, by omega, by omega, ?_⟩⟩
              rw [← f150, b_MO_number_115, b_MO_number_146, b_MO_number_129, b_MO_number_150, pi_same, h15]
              by_cases z1 : l = 1
              · subst z1
                rw [if_pos (show nI 1 = 1 from rfl), if_neg (fun z => d1 ⟨rfl, (lg_128 hV).mp z⟩), if_pos (show nI 1 ≤ 1 by decide)]
              · rw [if_neg (show ¬ nI l = 1 from fun z => z1 ((nI_eq (b := 1) (by omega) (by omega)).mp z))]
                by_cases z2 : l = 0
                · subst z2
                  rw [if_pos (show nI 0 ≤ 1 by decide)]
                · have hb1 := hb (a + 1) (by omega)
                  rw [if_neg (show ¬ nI l ≤ 1 from nI_ge (a := 1) (by omega) (by omega)), pc_in (show a + 1 < mo_ln 15 by show _ < 56; omega) (by decide), nI_clamp (by omega), m3 _ (by omega), if_neg (nI_ne0 (by omega) (by omega))]
            · rw [if_neg (show ¬ nI (1 + en_n V) = nI (1 + l) from fun z => c2 (by have := (nI_eq (by have := en_n_le V; omega) (by omega)).mp z; omega))]
              refine hfail m' f1 _ ?_
              rw [b_MO_number_115, b_MO_number_146, b_MO_number_129, b_MO_number_150, b_MO_number_146, pi_same, h15, f146]
              by_cases z1 : l = 1
              · subst z1
                rw [if_pos (show nI 1 = 1 from rfl), if_pos ((lg_128 hV).mpr (by
                  by_cases z : V < 128
                  · exact z
                  · exact absurd (hcan.mpr ⟨fun y => z y.2, fun y => by omega⟩) c2))]
              · rw [if_neg (show ¬ nI l = 1 from fun z => z1 ((nI_eq (b := 1) (by omega) (by omega)).mp z))]
                by_cases z2 : l = 0
                · exact absurd (hcan.mpr ⟨fun y => by omega, fun y => by omega⟩) c2
                · have hb0 : b (a + 1) = 0 := by
                    by_cases z : b (a + 1) = 0
                    · exact z
                    · exact absurd (hcan.mpr ⟨fun y => by omega, fun y => z y.2⟩) c2
                  rw [if_neg (show ¬ nI l ≤ 1 from nI_ge (a := 1) (by omega) (by omega)), pc_in (show a + 1 < mo_ln 15 by show _ < 56; omega) (by decide), nI_clamp (by omega), m3 _ (by omega), hb0, if_pos nI_0]
        · rw [if_neg (nI_nlt (by omega) (by omega))]
          by_cases x3 : a < e
          · rw [if_pos (nI_lt x3 (by omega)), if_neg (nI_ge (by omega) (by omega))]
            exact hfail _ e21 _ rfl
          · rw [if_neg (nI_nlt (by omega) (by omega))]
            exact hfail _ (eM.rf m) _ rfl
  · have ew : a = w := by omega
    subst ew
    rw [f_Message_nextNumber, hC.2.1, ps_out hw hC (Nat.le_refl _) (by omega), pb_i, if_pos (by decide), b_Message_nextNumber_43, if_pos (by decide), f_MO_number, m2, if_neg (nI_nlt (by omega) (by omega))]
    exact ⟨-1, a, Nat.le_refl _, Nat.le_refl _, by rw [hid], Or.inr ⟨rfl, m, rfl, eM.rf m⟩⟩
/-- a list's first byte -/
theorem ps_list (hw : w ≤ 56) (hb : ∀ i, i < w → b i < 256) (ha : a ≤ w) (he : e ≤ w) (h : pS w b a C m) : (∃ l, a + 1 ≤ l ∧ l ≤ e ∧ f_Message_enterList C (nI e) = some (nI l, cz_i C 16 11 (nI (a + 1))) ∧ f_MO_opening m (nI e) = some (nI l, cz_i m 0 21 (nI (a + 1)))) ∨ (f_Message_enterList C (nI e) = some (-1, C) ∧ ∃ m', f_MO_opening m (nI e) = some (-1, m') ∧ eM m m') := by
  obtain ⟨hC, m1, m2, m3⟩ := h
  have e21 : eM m (cz_i m 0 21 (nI (a + 1))) := eM.i0 (by omega)
  by_cases haw : a < w
  · have hx := hb a haw
    rw [f_Message_enterList, hC.2.1, ps_at hw hC haw, pb_i, f_MO_opening, m2, nI_1, pc_in (show a < mo_ln 15 by show a < 56; omega) (by decide), pc_in (show a < mo_ln 15 by show a < 56; omega) (by decide), nI_clamp (show a < 2 ^ 31 by omega), m3 a haw, hC.2.1, nI_1, pi_same, pi_same]
    by_cases x0 : b a < 192
    · rw [if_pos (show nI (b a) - (192 : Int32) < 0 from pk_sneg (b := 192) (by omega) x0), if_neg (show ¬ (192 : Int32) ≤ nI (b a) from nI_ge (b := 192) x0 (by decide))]
      refine Or.inr ⟨rfl, ?_⟩
      by_cases x2 : e ≤ a
      · rw [if_pos (nI_le x2 (by omega))]
        exact ⟨m, rfl, eM.rf m⟩
      · rw [if_neg (nI_ge (by omega) (by omega))]
        exact ⟨m, rfl, eM.rf m⟩
    · obtain ⟨l, hl⟩ : ∃ l, b a = 192 + l := ⟨b a - 192, by omega⟩
      have hsub : nI (192 + l) - (192 : Int32) = nI l := by
        rw [show (192 : Int32) = nI 192 from rfl, pk_sub (by omega), Nat.add_sub_cancel_left]
      rw [hl, hsub, if_neg (pn_lt0 (by omega)), if_pos (show (192 : Int32) ≤ nI (192 + l) from nI_le (a := 192) (by omega) (by omega)), nI_add, nI_add]
      by_cases l4 : 55 < l
      · rw [if_pos (show (55 : Int32) < nI l from nI_lt (a := 55) l4 (by omega)), if_pos (show (55 : Int32) < nI l from nI_lt (a := 55) l4 (by omega))]
        refine Or.inr ⟨rfl, ?_⟩
        by_cases x2 : e ≤ a
        · rw [if_pos (nI_le x2 (by omega))]
          exact ⟨m, rfl, eM.rf m⟩
        · rw [if_neg (nI_ge (by omega) (by omega))]
          exact ⟨_, rfl, e21⟩
      · rw [if_neg (show ¬ (55 : Int32) < nI l from nI_nlt (a := 55) (by omega) (by decide)), if_neg (show ¬ (55 : Int32) < nI l from nI_nlt (a := 55) (by omega) (by decide))]
        by_cases x2 : a + l < e
        · rw [if_pos (nI_lt x2 (by omega)), if_neg (nI_ge (show a < e by omega) (by omega)), if_neg (nI_nlt (show a + 1 + l ≤ e by omega) (by omega))]
          exact Or.inl ⟨a + 1 + l, by omega, by omega, rfl, rfl⟩
        · rw [if_neg (nI_nlt (by omega) (by omega))]
          refine Or.inr ⟨rfl, ?_⟩
          by_cases x3 : e ≤ a
          · rw [if_pos (nI_le x3 (by omega))]
            exact ⟨m, rfl, eM.rf m⟩
          · rw [if_neg (nI_ge (by omega) (by omega)), if_pos (nI_lt (by omega) (by omega))]
            exact ⟨_, rfl, e21⟩
  · have ew : a = w := by omega
    subst ew
    rw [f_Message_enterList, hC.2.1, ps_out hw hC (Nat.le_refl _) (by omega), pb_i, if_pos (by decide), f_MO_opening, m2, if_pos (nI_le (by omega) (by omega))]
    exact Or.inr ⟨rfl, m, rfl, eM.rf m⟩
/-- behind a list that isn't there nothing is read -/
theorem ps_none (hw : w ≤ 56) (hb : ∀ i, i < w → b i < 256) (ha : a ≤ w) (hC : C.1 14 1 = nI w ∧ C.1 16 11 = nI a ∧ ∀ i, i < w → C.1 15 i = nI (b i)) : f_Message_nextNumber C (-1) = some (-1, C) := by
  have hneg : ∀ k : Nat, k < 2 ^ 31 → ¬ nI k < (-1 : Int32) := by
    intro k hk z
    exact pn_lt0 hk (Int32.lt_trans z (by decide))
  have hle : ∀ k : Nat, k < 2 ^ 31 → (-1 : Int32) ≤ nI k := fun k hk => Int32.not_lt.mp (hneg k hk)
  by_cases haw : a < w
  · have hx := hb a haw
    rw [f_Message_nextNumber, hC.2.1, ps_at hw hC haw, pb_i, hC.2.1, if_pos (hle a (by omega)), b_Message_nextNumber_43]
    by_cases x0 : b a < 128
    · rw [if_pos (show nI (b a) - (128 : Int32) < 0 from pk_sneg (b := 128) (by omega) x0)]
      simp
    · obtain ⟨l, hl⟩ : ∃ l, b a = 128 + l := ⟨b a - 128, by omega⟩
      have hsub : nI (128 + l) - (128 : Int32) = nI l := by
        rw [show (128 : Int32) = nI 128 from rfl, pk_sub (by omega), Nat.add_sub_cancel_left]
      rw [hl, hsub, if_neg (pn_lt0 (by omega)), hC.2.1, nI_add, if_neg (hneg _ (by omega))]
      simp
  · have ew : a = w := by omega
    subst ew
    rw [f_Message_nextNumber, hC.2.1, ps_out hw hC (Nat.le_refl _) (by omega), pb_i, if_pos (by decide), b_Message_nextNumber_43, if_pos (by decide)]
end PS
