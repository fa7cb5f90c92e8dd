/-! the class's hash of a row -/
/-- the numbers f i, f (i + 1) .. mixed in -/
noncomputable def mx (f : Nat → Int32) (i : Nat) : Nat → Int32 → Int32
  | 0, v => v
  | n + 1, v => mx f (i + 1) n (zm_m v (f i))
theorem mx_cong {f g : Nat → Int32} : ∀ (n i : Nat) (v : Int32), (∀ k, i ≤ k → k < i + n → f k = g k) → mx f i n v = mx g i n v
  | 0, _, _, _ => rfl
  | n + 1, i, v, e => by
    unfold mx
    rw [e i (Nat.le_refl _) (by omega)]
    exact mx_cong n (i + 1) _ (fun k h1 h2 => e k (by omega) (by omega))
theorem cp_mix {C : cz_M} {q n : Nat} (s : Int32) (hq : n ≤ cp_ln q) (hl : cp_ln q < 2 ^ 31) : ∀ (r j f : Nat) (v : Int32), j + r = n → r < f → cz_lp3 (l_CP_mix_5 s q (nI n)) f C v (nI j) = some (mx (C.1 q) j r v, C)
  | r, j, 0, _, _, hf => by omega
  | 0, j, f + 1, v, hk, _ => by
    rw [cz_lp3_s, l_CP_mix_5, if_pos (nI_le (by omega) (by omega))]
    rfl
  | r + 1, j, f + 1, v, hk, hf => by
    rw [cz_lp3_s, l_CP_mix_5, if_neg (nI_ge (by omega) (by omega)), show Int32.ofNat (cp_ln q) = nI (cp_ln q) from rfl, if_neg (nI_ge (show j < cp_ln q by omega) hl), pc_in (show j < cp_ln q by omega) hl, nI_clamp (by omega), zm_m_eq, nI_1, mx]
    exact cp_mix s hq hl r (j + 1) f (zm_m v (C.1 q j)) (by omega) (by omega)
theorem cp_f_mix {C : cz_M} {q n : Nat} (s : Int32) (hq : n ≤ cp_ln q) (hl : cp_ln q ≤ 56) : f_CP_mix C s q (nI n) = some (mx (C.1 q) 0 n s, C) := cp_mix s hq (by omega) n 0 100 s (by omega) (by omega)
theorem cp_hashOf {C : cz_M} {q : Nat} (hq : 5 ≤ cp_ln q) (hl : cp_ln q ≤ 56) : f_CP_hashOf C q = some (zm_h (C.1 q), C) := by
  rw [f_CP_hashOf, show (5 : Int32) = nI 5 from rfl, cp_f_mix 7 hq hl, pb_i]
  simp only [mx, zm_h]
