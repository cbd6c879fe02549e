/-! ===== LEVEL 3: the sheet: light and dark ===== -/
/-- light, dark, taken -/
def Shd (L : Nat) (s t : ev_M) : Prop := ∀ q, q < L → (s.1 53 q = cI 0 ∧ t.1 649 q = cI 0 ∧ t.1 650 q = cI 1) ∨ (s.1 53 q = cI 1 ∧ t.1 649 q = cI 1 ∧ t.1 650 q = cI 0) ∨ (s.1 53 q = cI 2 ∧ t.1 649 q = cI 1 ∧ t.1 650 q = cI 1)
theorem bx1 {s t : ev_M} (h : RTx1 s t) {k : Nat} (hk : k < ix (s.1 1 1)) : fTape_byteAt_1 s (cI (k : Int)) = some (s.1 2 k &&& cI 255) ∧ t.1 554 k = s.1 2 k := by
  obtain ⟨a1, a2, a3, a4⟩ := h
  have e := ix_toNat (s.1 1 1)
  refine ⟨?_, a4 k hk⟩
  unfold fTape_byteAt_1
  rw [if_neg (by rw [lt_i, i32_0, q_ti (by omega)]; omega), if_pos (by rw [lt_i, q_ti (by omega)]; omega), if_pos (q_in (by omega) (by decide)), q_ix (by omega)]
theorem dk1 {s t : ev_M} (h : RTx1 s t) : ∀ (r m m' k : Nat) (x2 x3 : Int32), k + r = ix (s.1 1 1) → r < m → r < m' → ∃ lo hi : Int32, fSheet_darken_1_h9 m s x2 x3 (cI (k : Int)) = (if hi - lo < cI 32 then fSheet_darken_1_h64 1048576 s lo hi (cI 0) (cI 0) else fSheet_darken_1_h64 1048576 s lo hi (cI 1) (cI 0)) ∧ fM_findDark_h8 m' t x2 x3 (cI (k : Int)) = fM_findDark_h62 1048576 t lo hi (cI 0)
  | 0, m, m', k, x2, x3, hk, hm, hm' => by
    obtain ⟨m, rfl⟩ : ∃ k, m = k + 1 := ⟨m - 1, by omega⟩
    obtain ⟨m', rfl⟩ : ∃ k, m' = k + 1 := ⟨m' - 1, by omega⟩
    obtain ⟨a1, a2, a3, a4⟩ := h
    have e := ix_toNat (s.1 1 1)
    have nl : ¬ cI (k : Int) < s.1 1 1 := by rw [lt_i, q_ti (by omega)]; omega
    refine ⟨x2, x3, ?_, ?_⟩
    · rw [fSheet_darken_1_h9, if_neg nl]
      rfl
    · rw [fM_findDark_h8, a1, if_neg nl]
  | r + 1, m, m', k, x2, x3, hk, hm, hm' => by
    obtain ⟨m, rfl⟩ : ∃ k, m = k + 1 := ⟨m - 1, by omega⟩
    obtain ⟨m', rfl⟩ : ∃ k, m' = k + 1 := ⟨m' - 1, by omega⟩
    have e := ix_toNat (s.1 1 1)
    have a3 := h.2.2.1
    have lt : cI (k : Int) < s.1 1 1 := by rw [lt_i, q_ti (by omega)]; omega
    obtain ⟨b1, b2⟩ := bx1 h (k := k) (by omega)
    obtain ⟨b, eb⟩ : ∃ b, b = s.1 2 k &&& cI 255 := ⟨_, rfl⟩
    rw [← eb] at b1
    obtain ⟨lo, hi, c1, c2⟩ := dk1 h r m m' (k + 1) (if b < x2 then b else x2) (if b ≤ x3 then x3 else b) (by omega) (by omega) (by omega)
    have m1 : fMath_min s x2 b = some (if b < x2 then b else x2) := by
      unfold fMath_min
      by_cases z : x2 ≤ b
      · rw [if_pos z, if_neg (by rw [lt_i]; rw [le_i] at z; omega)]
      · rw [if_neg z, if_pos (by rw [lt_i]; rw [le_i] at z; omega)]
    have m2 : fMath_max s x3 b = some (if b ≤ x3 then x3 else b) := by
      unfold fMath_max
      by_cases z : x3 < b
      · rw [if_pos z, if_neg (by rw [le_i]; rw [lt_i] at z; omega)]
      · rw [if_neg z, if_pos (by rw [le_i]; rw [lt_i] at z; omega)]
    refine ⟨lo, hi, ?_, ?_⟩
    · rw [fSheet_darken_1_h9, if_pos lt, b1, bd1_some, m1, bd1_some, bd1_some, m2, bd1_some, q_s (by omega)]
      exact c1
    · rw [fM_findDark_h8, h.1, if_pos lt, if_pos (q_in (by omega) (by decide)), ltI_eq, q_ix (by omega), b2, ← eb]
      unfold fM_findDark_b40 fM_findDark_b53
      rw [q_s (by omega)]
      rw [← c2]
      by_cases z : b < x2
      · rw [if_pos z, if_pos z]
        by_cases y : b ≤ x3
        · rw [if_pos y, if_pos y]
        · rw [if_neg y, if_neg y]
      · rw [if_neg z, if_neg z]
        by_cases y : b ≤ x3
        · rw [if_pos y, if_pos y]
        · rw [if_neg y, if_neg y]
theorem dw1 {lo hi fl : Int32} (hf : fl = cI 0 ∧ hi - lo < cI 32 ∨ fl = cI 1 ∧ ¬ hi - lo < cI 32) : ∀ (r m m' k : Nat) (s t : ev_M), RTx1 s t → k + r = ix (s.1 1 1) → r < m → r < m' → Shd k s t → ∃ s' t', fSheet_darken_1_h64 m s lo hi fl (cI (k : Int)) = some s' ∧ fM_findDark_h62 m' t lo hi (cI (k : Int)) = some t' ∧ Shd (ix (s.1 1 1)) s' t' ∧ fr [(53, 53, 0)] s s' ∧ fr [(649, 649, 0), (650, 650, 0)] t t'
  | 0, m, m', k, s, t, h, hk, hm, hm', hS => by
    obtain ⟨m, rfl⟩ : ∃ k, m = k + 1 := ⟨m - 1, by omega⟩
    obtain ⟨m', rfl⟩ : ∃ k, m' = k + 1 := ⟨m' - 1, by omega⟩
    obtain ⟨a1, a2, a3, a4⟩ := h
    have e := ix_toNat (s.1 1 1)
    have nl : ¬ cI (k : Int) < s.1 1 1 := by rw [lt_i, q_ti (by omega)]; omega
    refine ⟨s, t, ?_, ?_, by rw [← show k = ix (s.1 1 1) by omega]; exact hS, fr.rf, fr.rf⟩
    · rw [fSheet_darken_1_h64, if_neg nl]
    · rw [fM_findDark_h62, a1, if_neg nl]
  | r + 1, m, m', k, s, t, h, hk, hm, hm', hS => by
    obtain ⟨m, rfl⟩ : ∃ k, m = k + 1 := ⟨m - 1, by omega⟩
    obtain ⟨m', rfl⟩ : ∃ k, m' = k + 1 := ⟨m' - 1, by omega⟩
    have e := ix_toNat (s.1 1 1)
    have a3 := h.2.2.1
    have lt : cI (k : Int) < s.1 1 1 := by rw [lt_i, q_ti (by omega)]; omega
    have kb : inb (cI (k : Int)) 4096 = true := q_in (by omega) (by decide)
    have kx : ix (cI (k : Int)) = k := q_ix (by omega)
    obtain ⟨b1, b2⟩ := bx1 h (k := k) (by omega)
    have step : ∀ (c d f : Int32), (c = cI 0 ∧ d = cI 0 ∧ f = cI 1) ∨ (c = cI 1 ∧ d = cI 1 ∧ f = cI 0) → fSheet_darken_1_h64 (m + 1) s lo hi fl (cI (k : Int)) = fSheet_darken_1_h64 m (wI s 53 k c) lo hi fl (cI ((k + 1 : Nat) : Int)) → fM_findDark_h62 (m' + 1) t lo hi (cI (k : Int)) = fM_findDark_h62 m' (wI (wI t 649 k d) 650 k f) lo hi (cI ((k + 1 : Nat) : Int)) → ∃ s' t', fSheet_darken_1_h64 (m + 1) s lo hi fl (cI (k : Int)) = some s' ∧ fM_findDark_h62 (m' + 1) t lo hi (cI (k : Int)) = some t' ∧ Shd (ix (s.1 1 1)) s' t' ∧ fr [(53, 53, 0)] s s' ∧ fr [(649, 649, 0), (650, 650, 0)] t t' := by
      intro c d f hcd k1 k2
      have f1 : fr [(53, 53, 0)] s (wI s 53 k c) := fr.rf.wI rfl
      have f2 : fr [(649, 649, 0), (650, 650, 0)] t (wI (wI t 649 k d) 650 k f) := (fr.rf.wI rfl).wI rfl
      have h' : RTx1 (wI s 53 k c) (wI (wI t 649 k d) 650 k f) := by
        unfold RTx1 at h ⊢
        simp (disch := decide) only [ix_0, ix_1, ix_2, ix_3, ix_4, ix_5, ix_6, ix_7, ix_8, ix_9, ix_10, ix_11, ix_12, ix_13, ix_14, ix_15, ix_16, ix_17, ix_18, ix_19, ix_20, ix_21, Nat.reduceAdd, wI_c, wI_ne, wL_1, lupd_ne, up1_eq, up1_ne]
        exact h
      have eL : (wI s 53 k c).1 1 1 = s.1 1 1 := (f1.1 1 1 rfl).1
      obtain ⟨s', t', a1, a2, a3, a4, a5⟩ := dw1 hf r m m' (k + 1) _ _ h' (by rw [eL]; omega) (by omega) (by omega) (by
        intro q hq
        simp (disch := decide) only [ix_0, ix_1, ix_2, ix_3, ix_4, ix_5, ix_6, ix_7, ix_8, ix_9, ix_10, ix_11, ix_12, ix_13, ix_14, ix_15, ix_16, ix_17, ix_18, ix_19, ix_20, ix_21, Nat.reduceAdd, wI_c, wI_ne, wL_1, lupd_ne, up1_eq, up1_ne]
        by_cases z : q = k
        · rw [z, up1_eq, up1_eq, up1_eq]
          rcases hcd with u | u
          · exact Or.inl u
          · exact Or.inr (Or.inl u)
        · rw [up1_ne z, up1_ne z, up1_ne z]
          exact hS q (by omega))
      rw [eL] at a3
      exact ⟨s', t', k1.trans a1, k2.trans a2, a3, f1.tr a4, f2.tr a5⟩
    have n10 : ¬ (cI 1 : Int32) = 0 := by decide
    have kL : fM_findDark_b105 (fM_findDark_h62 m') t lo hi (cI (k : Int)) (cI (k : Int)) = fM_findDark_h62 m' (wI (wI t 649 k (cI 0)) 650 k (cI 1)) lo hi (cI ((k + 1 : Nat) : Int)) := by
      unfold fM_findDark_b105 fM_findDark_b106 fM_findDark_b126
      rw [if_pos kb, ltM_eq, if_pos kb, kx, show cI 0 &&& 1 = cI 0 by decide, wI_c, up1_eq, if_pos (show cI 0 = 0 from rfl), if_pos kb, ltM_eq, show cI 1 &&& 1 = cI 1 by decide, q_s (by omega)]
    have kD : fM_findDark_b106 (fM_findDark_h62 m') t lo hi (cI (k : Int)) (cI (k : Int)) (cI 1) = fM_findDark_h62 m' (wI (wI t 649 k (cI 1)) 650 k (cI 0)) lo hi (cI ((k + 1 : Nat) : Int)) := by
      unfold fM_findDark_b106 fM_findDark_b126
      rw [if_pos kb, ltM_eq, if_pos kb, kx, show cI 1 &&& 1 = cI 1 by decide, wI_c, up1_eq, if_neg n10, if_pos kb, ltM_eq, show cI 0 &&& 1 = cI 0 by decide, q_s (by omega)]
    rcases hf with ⟨hf1, hf2⟩ | ⟨hf1, hf2⟩
    · refine step (cI 0) (cI 0) (cI 1) (Or.inl ⟨rfl, rfl, rfl⟩) ?_ ?_
      · rw [fSheet_darken_1_h64, if_pos lt, hf1, if_pos (show cI 0 = 0 from rfl)]
        unfold fSheet_darken_1_b102 fSheet_darken_1_b103
        rw [if_pos kb, ltM_eq, kx, show i2b (i2b (cI 0)) = cI 0 by decide, q_s (by omega)]
      · rw [fM_findDark_h62, h.1, if_pos lt, if_pos hf2]
        exact kL
    · by_cases z : cI 2 * (s.1 2 k &&& cI 255) < lo + hi
      · refine step (cI 1) (cI 1) (cI 0) (Or.inr ⟨rfl, rfl, rfl⟩) ?_ ?_
        · rw [fSheet_darken_1_h64, if_pos lt, hf1, if_neg n10, b1, bd1_some, if_pos z]
          unfold fSheet_darken_1_b103
          rw [if_pos kb, ltM_eq, kx, show i2b (i2b (cI 1)) = cI 1 by decide, q_s (by omega)]
        · rw [fM_findDark_h62, h.1, if_pos lt, if_neg hf2, if_pos kb, kx, b2, if_pos z]
          exact kD
      · refine step (cI 0) (cI 0) (cI 1) (Or.inl ⟨rfl, rfl, rfl⟩) ?_ ?_
        · rw [fSheet_darken_1_h64, if_pos lt, hf1, if_neg n10, b1, bd1_some, if_neg z]
          unfold fSheet_darken_1_b102 fSheet_darken_1_b103
          rw [if_pos kb, ltM_eq, kx, show i2b (i2b (cI 0)) = cI 0 by decide, q_s (by omega)]
        · rw [fM_findDark_h62, h.1, if_pos lt, if_neg hf2, if_pos kb, kx, b2, if_neg z]
          exact kL
/-- light and dark: class and reference -/
theorem dark1 {s t : ev_M} (h : RTx1 s t) : ∃ s' t', fSheet_darken_1 s = some s' ∧ fM_findDark t = some t' ∧ Shd (ix (s.1 1 1)) s' t' ∧ fr [(53, 53, 0)] s s' ∧ fr [(649, 649, 0), (650, 650, 0)] t t' := by
  have e := ix_toNat (s.1 1 1)
  have a3 := h.2.2.1
  obtain ⟨lo, hi, c1, c2⟩ := dk1 h (ix (s.1 1 1)) 1048576 1048576 0 (cI 255) (cI 0) (by omega) (by omega) (by omega)
  have c1' : fSheet_darken_1 s = _ := c1
  have c2' : fM_findDark t = _ := c2
  by_cases z : hi - lo < cI 32
  · obtain ⟨s', t', d1, d2, d3, d4, d5⟩ := dw1 (Or.inl ⟨rfl, z⟩) (ix (s.1 1 1)) 1048576 1048576 0 s t h (by omega) (by omega) (by omega) (fun q hq => absurd hq (Nat.not_lt_zero _))
    refine ⟨s', t', ?_, c2'.trans d2, d3, d4, d5⟩
    rw [c1', if_pos z]; exact d1
  · obtain ⟨s', t', d1, d2, d3, d4, d5⟩ := dw1 (Or.inr ⟨rfl, z⟩) (ix (s.1 1 1)) 1048576 1048576 0 s t h (by omega) (by omega) (by omega) (fun q hq => absurd hq (Nat.not_lt_zero _))
    refine ⟨s', t', ?_, c2'.trans d2, d3, d4, d5⟩
    rw [c1', if_neg z]; exact d1
theorem bx4 {s t : ev_M} (h : RTx4 s t) {k : Nat} (hk : k < ix (s.1 4 1)) : fTape_byteAt_4 s (cI (k : Int)) = some (s.1 5 k &&& cI 255) ∧ t.1 554 k = s.1 5 k := by
  obtain ⟨a1, a2, a3, a4⟩ := h
  have e := ix_toNat (s.1 4 1)
  refine ⟨?_, a4 k hk⟩
  unfold fTape_byteAt_4
  rw [if_neg (by rw [lt_i, i32_0, q_ti (by omega)]; omega), if_pos (by rw [lt_i, q_ti (by omega)]; omega), if_pos (q_in (by omega) (by decide)), q_ix (by omega)]
theorem dk4 {s t : ev_M} (h : RTx4 s t) : ∀ (r m m' k : Nat) (x2 x3 : Int32), k + r = ix (s.1 4 1) → r < m → r < m' → ∃ lo hi : Int32, fSheet_darken_4_h9 m s x2 x3 (cI (k : Int)) = (if hi - lo < cI 32 then fSheet_darken_4_h64 1048576 s lo hi (cI 0) (cI 0) else fSheet_darken_4_h64 1048576 s lo hi (cI 1) (cI 0)) ∧ fM_findDark_h8 m' t x2 x3 (cI (k : Int)) = fM_findDark_h62 1048576 t lo hi (cI 0)
  | 0, m, m', k, x2, x3, hk, hm, hm' => by
    obtain ⟨m, rfl⟩ : ∃ k, m = k + 1 := ⟨m - 1, by omega⟩
    obtain ⟨m', rfl⟩ : ∃ k, m' = k + 1 := ⟨m' - 1, by omega⟩
    obtain ⟨a1, a2, a3, a4⟩ := h
    have e := ix_toNat (s.1 4 1)
    have nl : ¬ cI (k : Int) < s.1 4 1 := by rw [lt_i, q_ti (by omega)]; omega
    refine ⟨x2, x3, ?_, ?_⟩
    · rw [fSheet_darken_4_h9, if_neg nl]
      rfl
    · rw [fM_findDark_h8, a1, if_neg nl]
  | r + 1, m, m', k, x2, x3, hk, hm, hm' => by
    obtain ⟨m, rfl⟩ : ∃ k, m = k + 1 := ⟨m - 1, by omega⟩
    obtain ⟨m', rfl⟩ : ∃ k, m' = k + 1 := ⟨m' - 1, by omega⟩
    have e := ix_toNat (s.1 4 1)
    have a3 := h.2.2.1
    have lt : cI (k : Int) < s.1 4 1 := by rw [lt_i, q_ti (by omega)]; omega
    obtain ⟨b1, b2⟩ := bx4 h (k := k) (by omega)
    obtain ⟨b, eb⟩ : ∃ b, b = s.1 5 k &&& cI 255 := ⟨_, rfl⟩
    rw [← eb] at b1
    obtain ⟨lo, hi, c1, c2⟩ := dk4 h r m m' (k + 1) (if b < x2 then b else x2) (if b ≤ x3 then x3 else b) (by omega) (by omega) (by omega)
    have m1 : fMath_min s x2 b = some (if b < x2 then b else x2) := by
      unfold fMath_min
      by_cases z : x2 ≤ b
      · rw [if_pos z, if_neg (by rw [lt_i]; rw [le_i] at z; omega)]
      · rw [if_neg z, if_pos (by rw [lt_i]; rw [le_i] at z; omega)]
    have m2 : fMath_max s x3 b = some (if b ≤ x3 then x3 else b) := by
      unfold fMath_max
      by_cases z : x3 < b
      · rw [if_pos z, if_neg (by rw [le_i]; rw [lt_i] at z; omega)]
      · rw [if_neg z, if_pos (by rw [le_i]; rw [lt_i] at z; omega)]
    refine ⟨lo, hi, ?_, ?_⟩
    · rw [fSheet_darken_4_h9, if_pos lt, b1, bd1_some, m1, bd1_some, bd1_some, m2, bd1_some, q_s (by omega)]
      exact c1
    · rw [fM_findDark_h8, h.1, if_pos lt, if_pos (q_in (by omega) (by decide)), ltI_eq, q_ix (by omega), b2, ← eb]
      unfold fM_findDark_b40 fM_findDark_b53
      rw [q_s (by omega)]
      rw [← c2]
      by_cases z : b < x2
      · rw [if_pos z, if_pos z]
        by_cases y : b ≤ x3
        · rw [if_pos y, if_pos y]
        · rw [if_neg y, if_neg y]
      · rw [if_neg z, if_neg z]
        by_cases y : b ≤ x3
        · rw [if_pos y, if_pos y]
        · rw [if_neg y, if_neg y]
theorem dw4 {lo hi fl : Int32} (hf : fl = cI 0 ∧ hi - lo < cI 32 ∨ fl = cI 1 ∧ ¬ hi - lo < cI 32) : ∀ (r m m' k : Nat) (s t : ev_M), RTx4 s t → k + r = ix (s.1 4 1) → r < m → r < m' → Shd k s t → ∃ s' t', fSheet_darken_4_h64 m s lo hi fl (cI (k : Int)) = some s' ∧ fM_findDark_h62 m' t lo hi (cI (k : Int)) = some t' ∧ Shd (ix (s.1 4 1)) s' t' ∧ fr [(53, 53, 0)] s s' ∧ fr [(649, 649, 0), (650, 650, 0)] t t'
  | 0, m, m', k, s, t, h, hk, hm, hm', hS => by
    obtain ⟨m, rfl⟩ : ∃ k, m = k + 1 := ⟨m - 1, by omega⟩
    obtain ⟨m', rfl⟩ : ∃ k, m' = k + 1 := ⟨m' - 1, by omega⟩
    obtain ⟨a1, a2, a3, a4⟩ := h
    have e := ix_toNat (s.1 4 1)
    have nl : ¬ cI (k : Int) < s.1 4 1 := by rw [lt_i, q_ti (by omega)]; omega
    refine ⟨s, t, ?_, ?_, by rw [← show k = ix (s.1 4 1) by omega]; exact hS, fr.rf, fr.rf⟩
    · rw [fSheet_darken_4_h64, if_neg nl]
    · rw [fM_findDark_h62, a1, if_neg nl]
  | r + 1, m, m', k, s, t, h, hk, hm, hm', hS => by
    obtain ⟨m, rfl⟩ : ∃ k, m = k + 1 := ⟨m - 1, by omega⟩
    obtain ⟨m', rfl⟩ : ∃ k, m' = k + 1 := ⟨m' - 1, by omega⟩
    have e := ix_toNat (s.1 4 1)
    have a3 := h.2.2.1
    have lt : cI (k : Int) < s.1 4 1 := by rw [lt_i, q_ti (by omega)]; omega
    have kb : inb (cI (k : Int)) 4096 = true := q_in (by omega) (by decide)
    have kx : ix (cI (k : Int)) = k := q_ix (by omega)
    obtain ⟨b1, b2⟩ := bx4 h (k := k) (by omega)
    have step : ∀ (c d f : Int32), (c = cI 0 ∧ d = cI 0 ∧ f = cI 1) ∨ (c = cI 1 ∧ d = cI 1 ∧ f = cI 0) → fSheet_darken_4_h64 (m + 1) s lo hi fl (cI (k : Int)) = fSheet_darken_4_h64 m (wI s 53 k c) lo hi fl (cI ((k + 1 : Nat) : Int)) → fM_findDark_h62 (m' + 1) t lo hi (cI (k : Int)) = fM_findDark_h62 m' (wI (wI t 649 k d) 650 k f) lo hi (cI ((k + 1 : Nat) : Int)) → ∃ s' t', fSheet_darken_4_h64 (m + 1) s lo hi fl (cI (k : Int)) = some s' ∧ fM_findDark_h62 (m' + 1) t lo hi (cI (k : Int)) = some t' ∧ Shd (ix (s.1 4 1)) s' t' ∧ fr [(53, 53, 0)] s s' ∧ fr [(649, 649, 0), (650, 650, 0)] t t' := by
      intro c d f hcd k1 k2
      have f1 : fr [(53, 53, 0)] s (wI s 53 k c) := fr.rf.wI rfl
      have f2 : fr [(649, 649, 0), (650, 650, 0)] t (wI (wI t 649 k d) 650 k f) := (fr.rf.wI rfl).wI rfl
      have h' : RTx4 (wI s 53 k c) (wI (wI t 649 k d) 650 k f) := by
        unfold RTx4 at h ⊢
        simp (disch := decide) only [ix_0, ix_1, ix_2, ix_3, ix_4, ix_5, ix_6, ix_7, ix_8, ix_9, ix_10, ix_11, ix_12, ix_13, ix_14, ix_15, ix_16, ix_17, ix_18, ix_19, ix_20, ix_21, Nat.reduceAdd, wI_c, wI_ne, wL_1, lupd_ne, up1_eq, up1_ne]
        exact h
      have eL : (wI s 53 k c).1 4 1 = s.1 4 1 := (f1.1 4 1 rfl).1
      obtain ⟨s', t', a1, a2, a3, a4, a5⟩ := dw4 hf r m m' (k + 1) _ _ h' (by rw [eL]; omega) (by omega) (by omega) (by
        intro q hq
        simp (disch := decide) only [ix_0, ix_1, ix_2, ix_3, ix_4, ix_5, ix_6, ix_7, ix_8, ix_9, ix_10, ix_11, ix_12, ix_13, ix_14, ix_15, ix_16, ix_17, ix_18, ix_19, ix_20, ix_21, Nat.reduceAdd, wI_c, wI_ne, wL_1, lupd_ne, up1_eq, up1_ne]
        by_cases z : q = k
        · rw [z, up1_eq, up1_eq, up1_eq]
          rcases hcd with u | u
          · exact Or.inl u
          · exact Or.inr (Or.inl u)
        · rw [up1_ne z, up1_ne z, up1_ne z]
          exact hS q (by omega))
      rw [eL] at a3
      exact ⟨s', t', k1.trans a1, k2.trans a2, a3, f1.tr a4, f2.tr a5⟩
    have n10 : ¬ (cI 1 : Int32) = 0 := by decide
    have kL : fM_findDark_b105 (fM_findDark_h62 m') t lo hi (cI (k : Int)) (cI (k : Int)) = fM_findDark_h62 m' (wI (wI t 649 k (cI 0)) 650 k (cI 1)) lo hi (cI ((k + 1 : Nat) : Int)) := by
      unfold fM_findDark_b105 fM_findDark_b106 fM_findDark_b126
      rw [if_pos kb, ltM_eq, if_pos kb, kx, show cI 0 &&& 1 = cI 0 by decide, wI_c, up1_eq, if_pos (show cI 0 = 0 from rfl), if_pos kb, ltM_eq, show cI 1 &&& 1 = cI 1 by decide, q_s (by omega)]
    have kD : fM_findDark_b106 (fM_findDark_h62 m') t lo hi (cI (k : Int)) (cI (k : Int)) (cI 1) = fM_findDark_h62 m' (wI (wI t 649 k (cI 1)) 650 k (cI 0)) lo hi (cI ((k + 1 : Nat) : Int)) := by
      unfold fM_findDark_b106 fM_findDark_b126
      rw [if_pos kb, ltM_eq, if_pos kb, kx, show cI 1 &&& 1 = cI 1 by decide, wI_c, up1_eq, if_neg n10, if_pos kb, ltM_eq, show cI 0 &&& 1 = cI 0 by decide, q_s (by omega)]
    rcases hf with ⟨hf1, hf2⟩ | ⟨hf1, hf2⟩
    · refine step (cI 0) (cI 0) (cI 1) (Or.inl ⟨rfl, rfl, rfl⟩) ?_ ?_
      · rw [fSheet_darken_4_h64, if_pos lt, hf1, if_pos (show cI 0 = 0 from rfl)]
        unfold fSheet_darken_4_b102 fSheet_darken_4_b103
        rw [if_pos kb, ltM_eq, kx, show i2b (i2b (cI 0)) = cI 0 by decide, q_s (by omega)]
      · rw [fM_findDark_h62, h.1, if_pos lt, if_pos hf2]
        exact kL
    · by_cases z : cI 2 * (s.1 5 k &&& cI 255) < lo + hi
      · refine step (cI 1) (cI 1) (cI 0) (Or.inr ⟨rfl, rfl, rfl⟩) ?_ ?_
        · rw [fSheet_darken_4_h64, if_pos lt, hf1, if_neg n10, b1, bd1_some, if_pos z]
          unfold fSheet_darken_4_b103
          rw [if_pos kb, ltM_eq, kx, show i2b (i2b (cI 1)) = cI 1 by decide, q_s (by omega)]
        · rw [fM_findDark_h62, h.1, if_pos lt, if_neg hf2, if_pos kb, kx, b2, if_pos z]
          exact kD
      · refine step (cI 0) (cI 0) (cI 1) (Or.inl ⟨rfl, rfl, rfl⟩) ?_ ?_
        · rw [fSheet_darken_4_h64, if_pos lt, hf1, if_neg n10, b1, bd1_some, if_neg z]
          unfold fSheet_darken_4_b102 fSheet_darken_4_b103
          rw [if_pos kb, ltM_eq, kx, show i2b (i2b (cI 0)) = cI 0 by decide, q_s (by omega)]
        · rw [fM_findDark_h62, h.1, if_pos lt, if_neg hf2, if_pos kb, kx, b2, if_neg z]
          exact kL
/-- light and dark: class and reference -/
theorem dark4 {s t : ev_M} (h : RTx4 s t) : ∃ s' t', fSheet_darken_4 s = some s' ∧ fM_findDark t = some t' ∧ Shd (ix (s.1 4 1)) s' t' ∧ fr [(53, 53, 0)] s s' ∧ fr [(649, 649, 0), (650, 650, 0)] t t' := by
  have e := ix_toNat (s.1 4 1)
  have a3 := h.2.2.1
  obtain ⟨lo, hi, c1, c2⟩ := dk4 h (ix (s.1 4 1)) 1048576 1048576 0 (cI 255) (cI 0) (by omega) (by omega) (by omega)
  have c1' : fSheet_darken_4 s = _ := c1
  have c2' : fM_findDark t = _ := c2
  by_cases z : hi - lo < cI 32
  · obtain ⟨s', t', d1, d2, d3, d4, d5⟩ := dw4 (Or.inl ⟨rfl, z⟩) (ix (s.1 4 1)) 1048576 1048576 0 s t h (by omega) (by omega) (by omega) (fun q hq => absurd hq (Nat.not_lt_zero _))
    refine ⟨s', t', ?_, c2'.trans d2, d3, d4, d5⟩
    rw [c1', if_pos z]; exact d1
  · obtain ⟨s', t', d1, d2, d3, d4, d5⟩ := dw4 (Or.inr ⟨rfl, z⟩) (ix (s.1 4 1)) 1048576 1048576 0 s t h (by omega) (by omega) (by omega) (fun q hq => absurd hq (Nat.not_lt_zero _))
    refine ⟨s', t', ?_, c2'.trans d2, d3, d4, d5⟩
    rw [c1', if_neg z]; exact d1
