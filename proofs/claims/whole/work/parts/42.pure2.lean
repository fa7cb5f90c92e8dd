/-! PURE: the store of blocks, as a picture: hd headers, ha hashes, pr parents, tt totals, sz sizes of bodies, im imported, bd bodies -/
theorem zm_h_cong {r r' : Nat → Int32} (h : ∀ j, j < 5 → r j = r' j) : zm_h r = zm_h r' := by
  rw [zm_h, zm_h, h 0 (by decide), h 1 (by decide), h 2 (by decide), h 3 (by decide), h 4 (by decide)]
def bk_I (n : Nat) (hd : Nat → Nat → Int32) (ha pr tt sz im : Nat → Int32) (bd : Nat → Nat → Int32) : Prop :=
  (1 ≤ n ∧ n ≤ 20) ∧
  (∀ k, k < n → ha k = zm_h (hd k)) ∧
  (∀ i j, i < n → j < n → ha i = ha j → i = j) ∧
  (hd 0 0 = 0 ∧ hd 0 1 = 0 ∧ hd 0 2 = 0 ∧ hd 0 3 = 8 ∧ hd 0 4 = 0 ∧ tt 0 = 8 ∧ sz 0 = 0 ∧ im 0 = 1) ∧
  (∀ k, 0 < k → k < n → ∃ p, p < k ∧ pr k = nI p ∧ hd k 0 = ha p ∧ hd k 1 = hd p 1 + 1 ∧ tt k = tt p + hd k 3 ∧ im k = if sz k = -1 then 0 else im p) ∧
  (∀ k, k < n → (∃ w, 1 ≤ w ∧ w ≤ 99 ∧ hd k 3 = nI w) ∧ 0 ≤ hd k 0 ∧ 0 ≤ hd k 2 ∧ 0 ≤ hd k 4) ∧
  (∀ k, k < n → sz k = -1 ∨ ∃ s, s ≤ 8 ∧ sz k = nI s ∧ ∀ i, i < s → 0 ≤ bd k i) ∧
  (∀ k, n ≤ k → im k = 0)
/-- what the reference holds of it -/
def bk_E (n : Nat) (hd : Nat → Nat → Int32) (sz : Nat → Int32) (bd : Nat → Nat → Int32) (m : cz_M) : Prop :=
  m.1 0 4 = nI n ∧ (∀ k j, k < n → j < 5 → m.1 1 (5 * k + j) = hd k j) ∧ (∀ k, k < n → m.1 3 k = sz k) ∧ ∀ k i s, k < n → sz k = nI s → s ≤ 8 → i < s → m.1 2 (8 * k + i) = bd k i
section BK
variable {n : Nat} {hd : Nat → Nat → Int32} {ha pr tt sz im : Nat → Int32} {bd : Nat → Nat → Int32}
theorem bk_depth (hB : bk_I n hd ha pr tt sz im bd) : ∀ (N k : Nat), k ≤ N → k < n → ∃ d t, d ≤ k ∧ hd k 1 = nI d ∧ t ≤ 8 + 99 * k ∧ 1 ≤ t ∧ tt k = nI t ∧ (im k = 0 ∨ im k = 1) := by
  obtain ⟨h1, h2, h3, ⟨g0, g1, g2, g3, g4, g5, g6, g7⟩, h5, h6, h7, h8⟩ := hB
  intro N
  induction N with
  | zero =>
    intro k hk hn
    have e : k = 0 := by omega
    subst e
    exact ⟨0, 8, Nat.le_refl _, g1, by omega, by omega, g5, Or.inr g7⟩
  | succ N ih =>
    intro k hk hn
    by_cases e : k = 0
    · subst e
      exact ⟨0, 8, Nat.le_refl _, g1, by omega, by omega, g5, Or.inr g7⟩
    · obtain ⟨p, p1, p2, p3, p4, p5, p6⟩ := h5 k (by omega) hn
      obtain ⟨d, t, q1, q2, q3, q4, q5, q6⟩ := ih p (by omega) (by omega)
      obtain ⟨⟨w, w1, w2, w3⟩, -⟩ := h6 k hn
      refine ⟨d + 1, t + w, by omega, by rw [p4, q2, nI_1], by omega, by omega, by rw [p5, q5, w3, nI_add], ?_⟩
      rw [p6]
      by_cases e2 : sz k = -1
      · rw [if_pos e2]
        exact Or.inl rfl
      · rw [if_neg e2]
        exact q6
theorem bk_dep (hB : bk_I n hd ha pr tt sz im bd) {k : Nat} (hk : k < n) : ∃ d t, d ≤ k ∧ hd k 1 = nI d ∧ t ≤ 8 + 99 * k ∧ 1 ≤ t ∧ tt k = nI t ∧ (im k = 0 ∨ im k = 1) := bk_depth hB k k (Nat.le_refl _) hk
variable {m : cz_M}
theorem mo_ha (hB : bk_I n hd ha pr tt sz im bd) (hE : bk_E n hd sz bd m) (h : Int32) : f_MO_blockOf m h = some (bk_find ha h 0 n, m) := by
  rw [mo_blockOf hE.1 hB.1.2]
  refine congrArg (fun x => some (x, m)) (bk_find_cong n 0 (fun i _ hi => ?_))
  rw [hB.2.1 i (by omega)]
  exact zm_h_cong (fun j hj => hE.2.1 i j (by omega) hj)
theorem mo_par (hB : bk_I n hd ha pr tt sz im bd) (hE : bk_E n hd sz bd m) {k : Nat} (hk : k < n) : f_MO_parent m (nI k) = some (if k = 0 then -1 else pr k, m) := by
  have h20 := hB.1.2
  rw [f_MO_parent]
  by_cases e : k = 0
  · subst e
    rw [if_pos (by decide), if_pos rfl]
  · rw [if_neg (nI_ne0 (by omega) (by omega)), if_neg e, show (5 : Int32) = nI 5 from rfl, pk_mul, pc_in (show 5 * k < mo_ln 1 by show 5 * k < 100; omega) (by decide), nI_clamp (by omega), mo_ha hB hE, pb_i]
    obtain ⟨p, p1, p2, p3, -⟩ := hB.2.2.2.2.1 k (by omega) hk
    have h0 := hE.2.1 k 0 hk (by decide)
    rw [Nat.add_zero] at h0
    rw [h0, p3, bk_find_at hB.2.2.1 (by omega), p2]
theorem mo_total_lp (hB : bk_I n hd ha pr tt sz im bd) (hE : bk_E n hd sz bd m) (a1 : Int32) : ∀ (d k c f : Nat) (v : Int32), k < n → hd k 1 = nI d → d ≤ k → c + d < 20 → d + 2 ≤ f → cz_lp4 (l_MO_total_7 a1) f m v (nI k) (nI c) = some (v + tt k, m) := by
  have h20 := hB.1.2
  have hend : ∀ (c f : Nat) (v : Int32), 1 ≤ f → cz_lp4 (l_MO_total_7 a1) f m v (-1) (nI c) = some (v, m) := by
    intro c f v hf
    obtain ⟨f, rfl⟩ : ∃ g, f = g + 1 := ⟨f - 1, by omega⟩
    rw [cz_lp4_s, l_MO_total_7]
    by_cases e : (20 : Int32) ≤ nI c
    · rw [if_pos e]
    · rw [if_neg e, if_pos (by decide)]
  have hstep : ∀ (k c f : Nat) (v : Int32), k < n → c < 20 → cz_lp4 (l_MO_total_7 a1) (f + 1) m v (nI k) (nI c) = cz_lp4 (l_MO_total_7 a1) f m (v + hd k 3) (if k = 0 then -1 else pr k) (nI (c + 1)) := by
    intro k c f v hk hc
    rw [cz_lp4_s, l_MO_total_7, if_neg (show ¬ (20 : Int32) ≤ nI c from nI_ge (b := 20) hc (by decide)), if_neg (pn_lt0 (by omega)), show (5 : Int32) = nI 5 from rfl, show (3 : Int32) = nI 3 from rfl, pk_mul, nI_add, pc_in (show 5 * k + 3 < mo_ln 1 by show 5 * k + 3 < 100; omega) (by decide), nI_clamp (by omega), mo_par hB hE hk, pb_i, hE.2.1 k 3 hk (by decide), nI_1]
  intro d
  induction d with
  | zero =>
    intro k c f v hk hdk _ hc hf
    obtain ⟨f, rfl⟩ : ∃ g, f = g + 1 := ⟨f - 1, by omega⟩
    rw [hstep k c f v hk (by omega)]
    by_cases e : k = 0
    · subst e
      rw [if_pos rfl, hend _ _ _ (by omega), hB.2.2.2.1.2.2.2.1, hB.2.2.2.1.2.2.2.2.2.1]
    · obtain ⟨p, p1, -, -, p4, -⟩ := hB.2.2.2.2.1 k (by omega) hk
      obtain ⟨d2, t, q1, q2, -⟩ := bk_dep hB (show p < n by omega)
      rw [q2, nI_1, hdk, nI_eq (by omega) (by omega)] at p4
      omega
  | succ d ih =>
    intro k c f v hk hdk hdl hc hf
    obtain ⟨f, rfl⟩ : ∃ g, f = g + 1 := ⟨f - 1, by omega⟩
    rw [hstep k c f v hk (by omega), if_neg (by omega)]
    obtain ⟨p, p1, p2, -, p4, p5, -⟩ := hB.2.2.2.2.1 k (by omega) hk
    obtain ⟨d2, t, q1, q2, -⟩ := bk_dep hB (show p < n by omega)
    rw [q2, nI_1, hdk, nI_eq (by omega) (by omega)] at p4
    have e2 : d2 = d := by omega
    subst e2
    rw [p2, ih p (c + 1) f _ (by omega) q2 q1 (by omega) (by omega), p5, Int32.add_assoc, Int32.add_comm (hd k 3)]
theorem mo_total (hB : bk_I n hd ha pr tt sz im bd) (hE : bk_E n hd sz bd m) {k : Nat} (hk : k < n) : f_MO_total m (nI k) = some (tt k, m) := by
  have h20 := hB.1.2
  obtain ⟨d, t, q1, q2, -⟩ := bk_dep hB hk
  have h := mo_total_lp hB hE (nI k) d k 0 100 0 hk q2 q1 (by omega) (by omega)
  rw [Int32.zero_add] at h
  exact h
theorem mo_imp_lp (hB : bk_I n hd ha pr tt sz im bd) (hE : bk_E n hd sz bd m) (a1 : Int32) : ∀ (d k c f : Nat) (v : Int32), (v = 0 ∨ v = 1) → k < n → hd k 1 = nI d → d ≤ k → c + d < 20 → d + 2 ≤ f → cz_lp4 (l_MO_imported_7 a1) f m v (nI k) (nI c) = some (if v = 0 then 0 else im k, m) := by
  have h20 := hB.1.2
  have hend : ∀ (c f : Nat) (v : Int32), (v = 0 ∨ v = 1) → 1 ≤ f → cz_lp4 (l_MO_imported_7 a1) f m v (-1) (nI c) = some (v, m) := by
    intro c f v hv hf
    obtain ⟨f, rfl⟩ : ∃ g, f = g + 1 := ⟨f - 1, by omega⟩
    rw [cz_lp4_s, l_MO_imported_7, if_pos hv]
    by_cases e : (20 : Int32) ≤ nI c
    · rw [if_pos e]
    · rw [if_neg e, if_pos (by decide)]
  have hstep : ∀ (k c f : Nat) (v : Int32), (v = 0 ∨ v = 1) → k < n → c < 20 → cz_lp4 (l_MO_imported_7 a1) (f + 1) m v (nI k) (nI c) = cz_lp4 (l_MO_imported_7 a1) f m (if v = 0 then 0 else if sz k = -1 then 0 else 1) (if k = 0 then -1 else pr k) (nI (c + 1)) := by
    intro k c f v hv hk hc
    rw [cz_lp4_s, l_MO_imported_7, if_neg (show ¬ (20 : Int32) ≤ nI c from nI_ge (b := 20) hc (by decide)), if_neg (pn_lt0 (by omega)), pc_in (show k < mo_ln 3 by show k < 20; omega) (by decide), nI_clamp (by omega), hE.2.2.1 k hk, b_MO_imported_35, b_MO_imported_36, b_MO_imported_36, mo_par hB hE hk, pb_i, pb_i, nI_1]
    by_cases e : v = 0
    · rw [if_pos e, if_pos e]
    · rw [if_neg e, if_neg e]
      rcases hB.2.2.2.2.2.2.1 k hk with h | ⟨s, h1, h2, -⟩
      · have x1 : sz k < 0 := by rw [h]; decide
        rw [if_pos h, if_pos x1]
      · have x1 : ¬ sz k = -1 := by rw [h2]; exact pn_m1 (by omega)
        have x2 : ¬ sz k < 0 := by rw [h2]; exact pn_lt0 (by omega)
        rw [if_neg x1, if_neg x2]
  have hfl : ∀ (k : Nat) (v : Int32), (if v = 0 then (0 : Int32) else if sz k = -1 then 0 else 1) = 0 ∨ (if v = 0 then (0 : Int32) else if sz k = -1 then 0 else 1) = 1 := by
    intro k v
    by_cases e : v = 0
    · rw [if_pos e]
      exact Or.inl rfl
    · rw [if_neg e]
      by_cases e2 : sz k = -1
      · rw [if_pos e2]
        exact Or.inl rfl
      · rw [if_neg e2]
        exact Or.inr rfl
  intro d
  induction d with
  | zero =>
    intro k c f v hv hk hdk _ hc hf
    obtain ⟨f, rfl⟩ : ∃ g, f = g + 1 := ⟨f - 1, by omega⟩
    rw [hstep k c f v hv hk (by omega)]
    by_cases e : k = 0
    · subst e
      rw [if_pos rfl, hend _ _ _ (hfl 0 v) (by omega), hB.2.2.2.1.2.2.2.2.2.2.1, hB.2.2.2.1.2.2.2.2.2.2.2, if_neg (show ¬ (0 : Int32) = -1 by decide)]
    · obtain ⟨p, p1, -, -, p4, -⟩ := hB.2.2.2.2.1 k (by omega) hk
      obtain ⟨d2, t, q1, q2, -⟩ := bk_dep hB (show p < n by omega)
      rw [q2, nI_1, hdk, nI_eq (by omega) (by omega)] at p4
      omega
  | succ d ih =>
    intro k c f v hv hk hdk hdl hc hf
    obtain ⟨f, rfl⟩ : ∃ g, f = g + 1 := ⟨f - 1, by omega⟩
    rw [hstep k c f v hv hk (by omega), if_neg (show ¬ k = 0 by omega)]
    obtain ⟨p, p1, p2, -, p4, -, p6⟩ := hB.2.2.2.2.1 k (by omega) hk
    obtain ⟨d2, t, q1, q2, -⟩ := bk_dep hB (show p < n by omega)
    rw [q2, nI_1, hdk, nI_eq (by omega) (by omega)] at p4
    have e2 : d2 = d := by omega
    subst e2
    rw [p2, ih p (c + 1) f _ (hfl k v) (by omega) q2 q1 (by omega) (by omega), p6]
    by_cases e : v = 0
    · rw [if_pos e, if_pos e, if_pos rfl]
    · rw [if_neg e, if_neg e]
      by_cases e3 : sz k = -1
      · rw [if_pos e3, if_pos e3, if_pos rfl]
      · rw [if_neg e3, if_neg e3, if_neg (by decide)]
theorem mo_imported (hB : bk_I n hd ha pr tt sz im bd) (hE : bk_E n hd sz bd m) {k : Nat} (hk : k < n) : f_MO_imported m (nI k) = some (im k, m) := by
  have h20 := hB.1.2
  obtain ⟨d, t, q1, q2, -⟩ := bk_dep hB hk
  have h := mo_imp_lp hB hE (nI k) d k 0 100 1 (Or.inr rfl) hk q2 q1 (by omega) (by omega)
  rw [if_neg (by decide)] at h
  exact h
/-- the first of the greatest totals among those that are taken -/
def bk_gt (tt : Nat → Int32) (P : Nat → Prop) [DecidablePred P] (b k : Nat) : Nat → Nat
  | 0 => b
  | r + 1 => bk_gt tt P (if P k ∧ ¬ tt k ≤ tt b then k else b) (k + 1) r
theorem bk_gt_lt {tt : Nat → Int32} {P : Nat → Prop} [DecidablePred P] : ∀ (r b k N : Nat), b < N → k + r ≤ N → bk_gt tt P b k r < N
  | 0, b, k, N, hb, _ => hb
  | r + 1, b, k, N, hb, h => by
    unfold bk_gt
    refine bk_gt_lt r _ (k + 1) N ?_ (by omega)
    by_cases e : P k ∧ ¬ tt k ≤ tt b
    · rw [if_pos e]
      omega
    · rw [if_neg e]
      exact hb
theorem mo_gt1 (hB : bk_I n hd ha pr tt sz im bd) (hE : bk_E n hd sz bd m) : ∀ (r b k f : Nat), b < n → k + r = n → r < f → cz_lp3 (l_MO_greatest_4 1) f m (nI b) (nI k) = some (nI (bk_gt tt (fun k => ¬ im k = 0) b k r), m)
  | r, b, k, 0, _, _, hf => by omega
  | 0, b, k, f + 1, _, hk, _ => by
    have h20 := hB.1.2
    rw [cz_lp3_s, l_MO_greatest_4, hE.1, if_pos (nI_le (by omega) (by omega))]
    rfl
  | r + 1, b, k, f + 1, hb, hk, hf => by
    have h20 := hB.1.2
    rw [cz_lp3_s, l_MO_greatest_4, hE.1, if_neg (nI_ge (by omega) (by omega)), if_neg (by decide), mo_imported hB hE (show k < n by omega), pb_i]
    unfold bk_gt
    by_cases e : im k = 0
    · rw [if_pos e, if_neg (fun h => h.1 e), b_MO_greatest_39, nI_1]
      exact mo_gt1 hB hE r b (k + 1) f hb (by omega) (by omega)
    · rw [if_neg e, b_MO_greatest_24, mo_total hB hE (show k < n by omega), pb_i, mo_total hB hE hb, pb_i]
      by_cases e2 : tt k ≤ tt b
      · rw [if_pos e2, if_neg (fun h => h.2 e2), b_MO_greatest_39, nI_1]
        exact mo_gt1 hB hE r b (k + 1) f hb (by omega) (by omega)
      · rw [if_neg e2, if_pos ⟨e, e2⟩, b_MO_greatest_39, nI_1]
        exact mo_gt1 hB hE r k (k + 1) f (by omega) (by omega) (by omega)
theorem mo_gt0 (hB : bk_I n hd ha pr tt sz im bd) (hE : bk_E n hd sz bd m) : ∀ (r b k f : Nat), b < n → k + r = n → r < f → cz_lp3 (l_MO_greatest_4 0) f m (nI b) (nI k) = some (nI (bk_gt tt (fun _ => True) b k r), m)
  | r, b, k, 0, _, _, hf => by omega
  | 0, b, k, f + 1, _, hk, _ => by
    have h20 := hB.1.2
    rw [cz_lp3_s, l_MO_greatest_4, hE.1, if_pos (nI_le (by omega) (by omega))]
    rfl
  | r + 1, b, k, f + 1, hb, hk, hf => by
    have h20 := hB.1.2
    rw [cz_lp3_s, l_MO_greatest_4, hE.1, if_neg (nI_ge (by omega) (by omega)), if_pos (by decide), b_MO_greatest_24, mo_total hB hE (show k < n by omega), pb_i, mo_total hB hE hb, pb_i]
    unfold bk_gt
    by_cases e2 : tt k ≤ tt b
    · rw [if_pos e2, if_neg (fun h => h.2 e2), b_MO_greatest_39, nI_1]
      exact mo_gt0 hB hE r b (k + 1) f hb (by omega) (by omega)
    · rw [if_neg e2, if_pos ⟨trivial, e2⟩, b_MO_greatest_39, nI_1]
      exact mo_gt0 hB hE r k (k + 1) f (by omega) (by omega) (by omega)
/-- HEAD and HEAVIEST -/
def bk_head (n : Nat) (tt im : Nat → Int32) : Nat := bk_gt tt (fun k => ¬ im k = 0) 0 1 (n - 1)
def bk_heavy (n : Nat) (tt : Nat → Int32) : Nat := bk_gt tt (fun _ => True) 0 1 (n - 1)
theorem bk_head_lt (hB : bk_I n hd ha pr tt sz im bd) : bk_head n tt im < n := bk_gt_lt (n - 1) 0 1 n (by have := hB.1.1; omega) (by have := hB.1.1; omega)
theorem bk_heavy_lt (hB : bk_I n hd ha pr tt sz im bd) : bk_heavy n tt < n := bk_gt_lt (n - 1) 0 1 n (by have := hB.1.1; omega) (by have := hB.1.1; omega)
theorem mo_head (hB : bk_I n hd ha pr tt sz im bd) (hE : bk_E n hd sz bd m) : f_MO_greatest m 1 = some (nI (bk_head n tt im), m) := mo_gt1 hB hE (n - 1) 0 1 100 (by have := hB.1.1; omega) (by have := hB.1.1; omega) (by have := hB.1.2; omega)
theorem mo_heavy (hB : bk_I n hd ha pr tt sz im bd) (hE : bk_E n hd sz bd m) : f_MO_greatest m 0 = some (nI (bk_heavy n tt), m) := mo_gt0 hB hE (n - 1) 0 1 100 (by have := hB.1.1; omega) (by have := hB.1.1; omega) (by have := hB.1.2; omega)
end BK
