/-! ===== LEVEL 3: the class measures the ways of a round ===== -/
theorem k_ti {k : Nat} (h : k < 1000) : (cI (k : Int)).toInt = (k : Int) := cI_toInt (by omega) (by omega)
theorem k_ix {k : Nat} (h : k < 1000) : ix (cI (k : Int)) = k := by rw [ix_cI (by omega) (by omega)]; omega
theorem k_in {k N : Nat} (h : k < N) (h2 : N < 1000) : inb (cI (k : Int)) N = true := inb_iff.mpr ⟨by rw [k_ti (by omega)]; omega, by rw [k_ti (by omega)]; omega⟩
theorem k_s {k : Nat} (h : k < 999) : cI (k : Int) + cI 1 = cI ((k + 1 : Nat) : Int) := by
  rw [eq_i, inc_i (by rw [k_ti (by omega)]; omega), k_ti (by omega), k_ti (by omega)]; omega
theorem k_p {k : Nat} (h : k < 999) : cI ((k + 1 : Nat) : Int) + cI (-1) = cI (k : Int) := by
  rw [eq_i, dec_i (by rw [k_ti (by omega)]; omega), k_ti (by omega), k_ti (by omega)]; omega
theorem k_m {k : Nat} (h : k < 999) : cI ((k + 1 : Nat) : Int) - cI 1 = cI (k : Int) := by
  rw [eq_i, sub_toInt (by rw [k_ti (by omega), show (cI 1).toInt = 1 from rfl]; omega) (by rw [k_ti (by omega), show (cI 1).toInt = 1 from rfl]; omega), k_ti (by omega), k_ti (by omega), show (cI 1).toInt = 1 from rfl]; omega
theorem k_lt {k n : Nat} (h : k < 1000) (h2 : n < 1000) : cI (k : Int) < cI (n : Int) ↔ k < n := by
  rw [lt_i, k_ti h, k_ti h2]; omega
/-- the ways between a round's places, as the class answers -/
def Gq (s : ev_M) (a : Int32) (n : Nat) (P : Nat → Nat) (d : Nat → Nat → Int32) : Prop := ∀ q, q < n → fRounds_fromBeginning s a (cI (P q : Int)) = some (d q n) ∧ ∀ q', q' < n → fRounds_between s (cI (P q : Int)) (cI (P q' : Int)) = some (d q q')
def Rw (s : ev_M) (a n : Nat) (P : Nat → Nat) : Prop := ∀ q, q < n → s.1 (146 + a) q = cI (P q : Int)
theorem between_cg {s s' : ev_M} {p q : Int32} (h : ∀ c, c < 146 → s'.1 c = s.1 c) : fRounds_between s' p q = fRounds_between s p q := by
  have e33 := h 33 (by decide)
  have e34 := h 34 (by decide)
  have e35 := h 35 (by decide)
  have e44 := h 44 (by decide)
  have e45 := h 45 (by decide)
  simp only [fRounds_between, fBook_xOf_b57, fBook_xOf, fBook_yOf_b58, fBook_yOf, fMath_abs, ix_0, ix_1, ix_2, ix_3, ix_4, ix_5, ix_6, ix_7, ix_8, ix_9, ix_10, ix_11, ix_12, ix_13, ix_14, ix_15, ix_16, ix_17, ix_18, ix_19, ix_20, ix_21, Nat.reduceAdd, wI_c, wI_ne, wL_1, lupd_ne, up1_eq, up1_ne, e33, e34, e35, e44, e45]
theorem fromB_cg {s s' : ev_M} {p q : Int32} (h : ∀ c, c < 146 → s'.1 c = s.1 c) : fRounds_fromBeginning s' p q = fRounds_fromBeginning s p q := by
  have e33 := h 33 (by decide)
  have e34 := h 34 (by decide)
  have e35 := h 35 (by decide)
  have e44 := h 44 (by decide)
  have e45 := h 45 (by decide)
  have e1 := h 141 (by decide)
  have e2 := h 142 (by decide)
  simp only [fRounds_fromBeginning, fBook_xOf_b57, fBook_xOf, fBook_yOf_b58, fBook_yOf, fMath_abs, ix_0, ix_1, ix_2, ix_3, ix_4, ix_5, ix_6, ix_7, ix_8, ix_9, ix_10, ix_11, ix_12, ix_13, ix_14, ix_15, ix_16, ix_17, ix_18, ix_19, ix_20, ix_21, Nat.reduceAdd, wI_c, wI_ne, wL_1, lupd_ne, up1_eq, up1_ne, e33, e34, e35, e44, e45, e1, e2]
  rfl
theorem Gq.cg {s s' : ev_M} {a : Int32} {n : Nat} {P : Nat → Nat} {d : Nat → Nat → Int32} (g : Gq s a n P d) (h : ∀ c, c < 146 → s'.1 c = s.1 c) : Gq s' a n P d := fun q hq => ⟨by rw [fromB_cg h]; exact (g q hq).1, fun q' h' => by rw [between_cg h]; exact (g q hq).2 q' h'⟩
theorem inF_ms {i k : Nat} (h : i ≤ 8) : inF [(183, 191, 0)] (183 + i) k = true := by
  simp only [inF, List.any_cons, List.any_nil, Bool.or_false]
  have a : Nat.ble 183 (183 + i) = true := Nat.ble_eq.mpr (by omega)
  have b : Nat.ble (183 + i) 191 = true := Nat.ble_eq.mpr (by omega)
  simp [a, b]
theorem ms_in {a : Int32} {n i : Nat} {P : Nat → Nat} {d : Nat → Nat → Int32} {k2 : ev_M → Int32 → Int32 → Int32 → Option ev_M} (hn : n ≤ 8) (hi : i < n) (ha : inb a 12 = true) : ∀ (r m j : Nat) (s : ev_M), j + r = n → r < m → Gq s a n P d → Rw s (ix a) n P → ∃ s', fRounds_measure_h47 k2 m s a (cI (n : Int)) (cI (i : Int)) (cI (j : Int)) = k2 s' a (cI (n : Int)) (cI ((i + 1 : Nat) : Int)) ∧ (∀ q, j ≤ q → q < n → s'.1 (183 + i) q = d i q) ∧ (∀ q, q < j ∨ n ≤ q → s'.1 (183 + i) q = s.1 (183 + i) q) ∧ (∀ c, c ≠ 183 + i → s'.1 c = s.1 c) ∧ fr [(183, 191, 0)] s s'
  | 0, m, j, s, hj, hm, hG, hR => by
    obtain ⟨m, rfl⟩ : ∃ k, m = k + 1 := ⟨m - 1, by omega⟩
    have e : j = n := by omega
    subst e
    refine ⟨s, ?_, fun q h1 h2 => by omega, fun _ _ => rfl, fun _ _ => rfl, fr.rf⟩
    rw [fRounds_measure_h47, if_neg (by rw [k_lt (by omega) (by omega)]; omega), k_s (by omega)]
  | r + 1, m, j, s, hj, hm, hG, hR => by
    obtain ⟨m, rfl⟩ : ∃ k, m = k + 1 := ⟨m - 1, by omega⟩
    have lt : cI (j : Int) < cI (n : Int) := (k_lt (by omega) (by omega)).mpr (by omega)
    have c1 : ∀ c, c < 146 → (wI s (183 + i) j (d i j)).1 c = s.1 c := fun c hc => wI_ne (by omega)
    obtain ⟨s', b1, b2, b3, b4, b5⟩ := ms_in (d := d) (P := P) (k2 := k2) hn hi ha r m (j + 1) (wI s (183 + i) j (d i j)) (by omega) (by omega) (hG.cg c1) (fun q hq => by rw [wI_ne (by have := inb_lt ha; omega)]; exact hR q hq)
    refine ⟨s', ?_, fun q h1 h2 => ?_, fun q hq => ?_, fun c hc => by rw [b4 c hc, wI_ne hc], (fr.rf.wI (inF_ms (by omega))).tr b5⟩
    · rw [fRounds_measure_h47, if_pos lt, if_pos (k_in (by omega) (by decide)), if_pos ha, if_pos (k_in (by omega) (by decide)), if_pos ha, if_pos (k_in (by omega) (by decide)), k_ix (by omega), k_ix (by omega), hR i hi, hR j (by omega), (hG i hi).2 j (by omega), bd1_some, if_pos (k_in (by omega) (by decide)), ltM_eq, k_s (by omega)]
      exact b1
    · by_cases z : q = j
      · subst z
        rw [b3 q (Or.inl (by omega)), wI_c, up1_eq]
      · exact b2 q (by omega) h2
    · rw [b3 q (by omega), wI_c, up1_ne (by omega)]
theorem ms_lp {a : Int32} {n : Nat} {P : Nat → Nat} {d : Nat → Nat → Int32} (hn : n ≤ 8) (ha : inb a 12 = true) (hd : ∀ q, q < n → d n q = d q n) : ∀ (r m i : Nat) (s : ev_M), i + r = n → r < m → Gq s a n P d → Rw s (ix a) n P → (∀ q, q < i → (∀ j, j ≤ n → s.1 (183 + q) j = d q j) ∧ s.1 (183 + n) q = d n q) → ∃ s', fRounds_measure_h2 m s a (cI (n : Int)) (cI (i : Int)) = some s' ∧ (∀ q, q < n → (∀ j, j ≤ n → s'.1 (183 + q) j = d q j) ∧ s'.1 (183 + n) q = d n q) ∧ (∀ c, c < 183 → s'.1 c = s.1 c) ∧ fr [(183, 191, 0)] s s'
  | 0, m, i, s, hi, hm, hG, hR, hT => by
    obtain ⟨m, rfl⟩ : ∃ k, m = k + 1 := ⟨m - 1, by omega⟩
    have e : i = n := by omega
    subst e
    refine ⟨s, ?_, hT, fun _ _ => rfl, fr.rf⟩
    rw [fRounds_measure_h2, if_neg (by rw [k_lt (by omega) (by omega)]; omega)]
  | r + 1, m, i, s, hi, hm, hG, hR, hT => by
    obtain ⟨m, rfl⟩ : ∃ k, m = k + 1 := ⟨m - 1, by omega⟩
    have lt : cI (i : Int) < cI (n : Int) := (k_lt (by omega) (by omega)).mpr (by omega)
    have al := inb_lt ha
    have w1 : fr [(183, 191, 0)] s (wI s (183 + i) n (d i n)) := fr.rf.wI (inF_ms (by omega))
    have w2 := w1.wI (c := 183 + n) (k := i) (x := d i n) (inF_ms (by omega))
    have c2 : ∀ c, c < 183 → (wI (wI s (183 + i) n (d i n)) (183 + n) i (d i n)).1 c = s.1 c := fun c hc => by rw [wI_ne (by omega), wI_ne (by omega)]
    obtain ⟨s1, b1, b2, b3, b4, b5⟩ := ms_in (d := d) (P := P) (k2 := fRounds_measure_h2 m) hn (i := i) (by omega) ha n 1048576 0 (wI (wI s (183 + i) n (d i n)) (183 + n) i (d i n)) (by omega) (by omega) (hG.cg (fun c hc => c2 c (by omega))) (fun q hq => by rw [c2 _ (by omega)]; exact hR q hq)
    have c3 : ∀ c, c < 183 → s1.1 c = s.1 c := fun c hc => by rw [b4 c (by omega), c2 c hc]
    obtain ⟨s', e1, e2, e3, e4⟩ := ms_lp (d := d) (P := P) hn ha hd r m (i + 1) s1 (by omega) (by omega) (hG.cg (fun c hc => c3 c (by omega))) (fun q hq => by rw [c3 _ (by omega)]; exact hR q hq) (fun q hq => by
      by_cases z : q = i
      · subst z
        refine ⟨fun j hj => ?_, ?_⟩
        · by_cases w : j = n
          · subst w
            rw [b3 j (by omega), wI_ne (by omega), wI_c, up1_eq]
          · exact b2 j (by omega) (by omega)
        · rw [b4 (183 + n) (by omega), wI_c, up1_eq, hd q (by omega)]
      · obtain ⟨t1, t2⟩ := hT q (by omega)
        refine ⟨fun j hj => ?_, ?_⟩
        · rw [b4 (183 + q) (by omega), wI_ne (by omega), wI_ne (by omega)]
          exact t1 j hj
        · rw [b4 (183 + n) (by omega), wI_c, up1_ne z, wI_ne (by omega)]
          exact t2)
    refine ⟨s', ?_, e2, fun c hc => by rw [e3 c hc, c3 c hc], (w2.tr b5).tr e4⟩
    rw [fRounds_measure_h2, if_pos lt, if_pos (k_in (by omega) (by decide)), if_pos ha, if_pos (k_in (by omega) (by decide)), k_ix (by omega), k_ix (by omega), hR i (by omega), (hG i (by omega)).1, bd1_some]
    simp only [if_pos (k_in (show n < 9 by omega) (by decide)), if_pos (k_in (show i < 9 by omega) (by decide)), ltM_eq]
    rw [wI_c, up1_eq]
    exact b1.trans e1
