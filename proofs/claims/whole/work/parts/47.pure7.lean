/-! PURE: put -/
theorem put_low (z : Int64) {i : Nat} (hi : i < 32) : z.toInt32.toBitVec.getLsbD i = z.toBitVec.getLsbD i := by
  show (z.toBitVec.signExtend 32).getLsbD i = _
  rw [BitVec.getLsbD_signExtend, if_pos (by omega)]
  simp [hi]
theorem put_255 : ∀ i, i < 32 → (255 : Int32).toBitVec.getLsbD i = decide (i < 8) := by decide
theorem put_u (x : Int64) {r i : Nat} (hr : r < 8) (hi : i < 8) : (cz_lushr x (8 * nI r)).toBitVec.getLsbD i = x.toBitVec.getLsbD (8 * r + i) := by
  have e : ((8 * nI r : Int32).toInt64.toUInt64 &&& Int64.toUInt64 63).toBitVec.toNat % 64 = 8 * r := by
    have : r = 0 ∨ r = 1 ∨ r = 2 ∨ r = 3 ∨ r = 4 ∨ r = 5 ∨ r = 6 ∨ r = 7 := by omega
    rcases this with rfl | rfl | rfl | rfl | rfl | rfl | rfl | rfl <;> decide
  show (x.toBitVec >>> (((8 * nI r : Int32).toInt64.toUInt64 &&& Int64.toUInt64 63).toBitVec % 64)).getLsbD i = _
  rw [BitVec.ushiftRight_eq', BitVec.getLsbD_ushiftRight, BitVec.toNat_umod]
  show x.toBitVec.getLsbD (((8 * nI r : Int32).toInt64.toUInt64 &&& Int64.toUInt64 63).toBitVec.toNat % 64 + i) = _
  rw [e]
theorem put_s (x : Int64) {r i : Nat} (hr : r < 8) (hi : i < 8) : (cz_lshr x (8 * nI r)).toBitVec.getLsbD i = x.toBitVec.getLsbD (8 * r + i) := by
  have e : (((8 * nI r : Int32).toInt64 &&& 63).toBitVec.smod 64).toNat = 8 * r := by
    have : r = 0 ∨ r = 1 ∨ r = 2 ∨ r = 3 ∨ r = 4 ∨ r = 5 ∨ r = 6 ∨ r = 7 := by omega
    rcases this with rfl | rfl | rfl | rfl | rfl | rfl | rfl | rfl <;> decide
  show (x.toBitVec.sshiftRight (((8 * nI r : Int32).toInt64 &&& 63).toBitVec.smod 64).toNat).getLsbD i = _
  rw [e, BitVec.getLsbD_sshiftRight, if_pos (by omega)]
  simp
  omega
theorem put_byte (x : Int64) {r : Nat} (hr : r < 8) : (cz_lushr x (8 * nI r)).toInt32 &&& 255 = (cz_lshr x (8 * nI r)).toInt32 &&& 255 := by
  apply Int32.toBitVec_inj.mp
  apply BitVec.eq_of_getLsbD_eq
  intro i hi
  rw [Int32.toBitVec_and, Int32.toBitVec_and, BitVec.getLsbD_and, BitVec.getLsbD_and, put_low _ hi, put_low _ hi, put_255 i hi]
  by_cases h : i < 8
  · rw [put_u x hr h, put_s x hr h]
  · simp [h]
theorem cp_add {C : cz_M} {b w : Nat} {x : Int32} (hb : cp_ln (b + 1) = 56) (hw : C.1 b 1 = nI w) (h : w < 56) : f_Bytes_add C b x = some (cz_i (cz_i C (b + 1) w x) b 1 (nI (w + 1))) := by
  rw [f_Bytes_add, hw, if_neg (show ¬ (56 : Int32) ≤ nI w from nI_ge (b := 56) h (by decide)), hb, pc_in h (by decide), nI_clamp (by omega), pi_get, if_neg (by omega), hw, nI_1]
theorem rR.push {t w : Nat} {C m : cz_M} (h : rR t C m) (hw : C.1 10 1 = nI w) (h56 : w < 56) {x : Int32} (hx : ∃ b, b < 256 ∧ x = nI b) : rR t (cz_i (cz_i C 11 w x) 10 1 (nI (w + 1))) (cz_i (cz_i m 15 w x) 0 19 (nI (w + 1))) := by
  obtain ⟨n, hB, hP, ⟨w', w1, w2, w3, w4⟩, hG⟩ := h
  have e : w' = w := by
    rw [hw, nI_eq (by omega) (by omega)] at w2
    omega
  subst e
  refine ⟨n, hB.fr ?_ ?_ ?_ ?_, fun p hp => (hP p hp).fr ?_ ?_ ?_ ?_ ?_ ?_, ⟨w' + 1, by omega, pi_same _ _ _ _, pi_same _ _ _ _, fun i hi => ?_⟩, hG.fr ?_ ?_⟩
  · rw [pi_row _ _ _ _ (by decide), pi_row _ _ _ _ (by decide)]
  · intro k hk
    rw [pi_row _ _ _ _ (by omega), pi_row _ _ _ _ (by omega)]
  · rw [pi_get, if_neg (by decide), pi_row _ _ _ _ (by decide)]
  · intro k h1 h2
    rw [pi_row _ _ _ _ (by omega), pi_row _ _ _ _ (by omega)]
  · rw [pi_row _ _ _ _ (by omega), pi_row _ _ _ _ (by omega)]
  · rfl
  · intro e he
    rw [pi_row _ _ _ _ (by omega), pi_row _ _ _ _ (by omega)]
  · intro k h1 h2
    rw [pi_row _ _ _ _ (by omega), pi_row _ _ _ _ (by omega)]
  · intro j hj
    rw [pi_row _ _ _ _ (by omega), pi_row _ _ _ _ (by omega)]
  · intro i hi
    rw [pi_row _ _ _ _ (by omega), pi_row _ _ _ _ (by omega)]
  · rw [pi_row _ _ _ _ (show (11 : Nat) ≠ 10 by decide), pi_row _ _ _ _ (show (15 : Nat) ≠ 0 by decide), pi_get, pi_get]
    by_cases e : i = w'
    · rw [if_pos ⟨rfl, e⟩, if_pos ⟨rfl, e⟩]
      exact ⟨rfl, hx⟩
    · rw [if_neg (fun z => e z.2), if_neg (fun z => e z.2)]
      exact w4 i (by omega)
  · rw [pi_row _ _ _ _ (by decide), pi_row _ _ _ _ (by decide)]
  · intro j hj
    rw [pi_get, if_neg (by omega), pi_row _ _ _ _ (by decide)]
theorem put_lp {t : Nat} (a1 : Int32) (x : Int64) : ∀ (r f w : Nat) (C m : cz_M), r ≤ 8 → r < f → w + r ≤ 56 → C.1 10 1 = nI w → rR t C m → ∃ C' m', cz_lp2 (l_CP_put_32 a1 x) f C (nI r - 1) = some (1, C') ∧ cz_lp2 (l_MO_put_29 a1 x) f m (nI r - 1) = some (1, m') ∧ rR t C' m' := by
  intro r
  induction r with
  | zero =>
    intro f w C m _ hf hw h1 h
    obtain ⟨f, rfl⟩ : ∃ g, f = g + 1 := ⟨f - 1, by omega⟩
    refine ⟨C, m, ?_, ?_, h⟩
    · rw [cz_lp2_s, l_CP_put_32, if_pos (by decide)]
    · rw [cz_lp2_s, l_MO_put_29, if_pos (by decide)]
  | succ r ih =>
    intro f w C m h8 hf hw h1 h
    obtain ⟨f, rfl⟩ : ∃ g, f = g + 1 := ⟨f - 1, by omega⟩
    have hwm : m.1 0 19 = nI w := by
      obtain ⟨n, -, -, ⟨w', w1, w2, w3, -⟩, -⟩ := h
      rw [h1] at w2
      rw [w3, w2]
    obtain ⟨b, b1, b2⟩ := pk_andE ((cz_lshr x (8 * nI r)).toInt32) (m := 255) 8 (by decide)
    have hp := h.push h1 (by omega) (x := (cz_lshr x (8 * nI r)).toInt32 &&& 255) ⟨b, b1, b2⟩
    obtain ⟨C', m', j1, j2, j3⟩ := ih f (w + 1) _ _ (by omega) (by omega) (by omega) (pi_same _ _ _ _) hp
    refine ⟨C', m', ?_, ?_, j3⟩
    · rw [nI_pred, cz_lp2_s, l_CP_put_32, if_neg (pn_lt0 (by omega)), put_byte x (show r < 8 by omega), cp_add (by rfl) h1 (by omega), pb_v]
      exact j1
    · rw [nI_pred, cz_lp2_s, l_MO_put_29, if_neg (pn_lt0 (by omega)), hwm, pc_in (show w < mo_ln 15 by show w < 56; omega) (by decide), nI_clamp (by omega), pi_row _ _ _ _ (show (0 : Nat) ≠ 15 by decide), hwm, nI_1]
      exact j2
theorem st_put {t : Nat} {C m : cz_M} (h : rR t C m) (a : Int32) (x : Int64) : ∃ r C' m', f_CP_put C a x = some (r, C') ∧ f_MO_put m a x = some (r, m') ∧ rR t C' m' := by
  have h0 := h
  obtain ⟨n, -, -, ⟨w, w1, w2, w3, -⟩, -⟩ := h0
  rw [f_CP_put, f_MO_put, w2, w3]
  by_cases e1 : a < 1
  · rw [if_pos e1, if_pos e1]
    exact ⟨_, _, _, rfl, rfl, h⟩
  rw [if_neg e1, if_neg e1]
  by_cases e2 : 8 < a
  · rw [if_pos e2, if_pos e2]
    exact ⟨_, _, _, rfl, rfl, h⟩
  rw [if_neg e2, if_neg e2]
  obtain ⟨r, hr, rfl⟩ := nI_of2 (n := 8) (M := 8) (x := a) (by decide) (fun z => e1 (Int32.lt_trans z (by decide))) (Int32.not_lt.mp e2)
  rw [nI_add]
  by_cases e3 : w + r ≤ 56
  · rw [if_pos (show nI (w + r) ≤ (56 : Int32) from nI_le (b := 56) e3 (by decide)), if_pos (show nI (w + r) ≤ (56 : Int32) from nI_le (b := 56) e3 (by decide))]
    obtain ⟨C', m', j1, j2, j3⟩ := put_lp (nI r) x r 100 w C m hr (by omega) e3 w2 h
    exact ⟨1, C', m', j1, j2, j3⟩
  · rw [if_neg (show ¬ nI (w + r) ≤ (56 : Int32) from nI_ge (a := 56) (by omega) (by omega)), if_neg (show ¬ nI (w + r) ≤ (56 : Int32) from nI_ge (a := 56) (by omega) (by omega))]
    exact ⟨_, _, _, rfl, rfl, h⟩
