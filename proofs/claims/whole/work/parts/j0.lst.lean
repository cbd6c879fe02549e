/-! ===== LEVEL 3: the class goes the least way ===== -/
def fbI (o : Option Nat) : Int32 := match o with | none => cI (-1) | some b => cI (b : Int)
def fbV (g : Nat → Int32) (o : Option Nat) : Int32 := match o with | none => cI 2147483647 | some b => g b
theorem bn_lp {s : ev_M} {n rem last : Nat} {g : Nat → Int32} (hn : n ≤ 8) (hl : last ≤ 8) (hr : rem < 256) (hg : ∀ k, k < n → rem.testBit k = true → s.1 (183 + last) k + s.1 (193 + (rem - 2 ^ k)) k = g k ∧ (g k).toInt < 2147483647) : ∀ (r m k : Nat), k + r = n → r < m → fRounds_bestNext_h10 s m (cI (n : Int)) (cI (rem : Int)) (cI (last : Int)) (fbI (fam g (fun k => rem.testBit k) k)) (fbV g (fam g (fun k => rem.testBit k) k)) (cI (k : Int)) = some (fbI (fam g (fun k => rem.testBit k) n))
  | 0, m, k, hk, hm => by
    obtain ⟨m, rfl⟩ : ∃ k, m = k + 1 := ⟨m - 1, by omega⟩
    have e : k = n := by omega
    subst e
    rw [fRounds_bestNext_h10, if_neg (by rw [k_lt (by omega) (by omega)]; omega)]
  | r + 1, m, k, hk, hm => by
    obtain ⟨m, rfl⟩ : ∃ k, m = k + 1 := ⟨m - 1, by omega⟩
    have lt : cI (k : Int) < cI (n : Int) := (k_lt (by omega) (by omega)).mpr (by omega)
    have ih := bn_lp hn hl hr hg r m (k + 1) (by omega) (by omega)
    by_cases z : rem.testBit k = true
    · have nz : ¬ ((cI (rem : Int) >>> (cI (k : Int) &&& 31)) &&& cI 1) = 0 := fun w => by
        rw [(bit_q rem hr k (by omega)).mp w] at z; cases z
      obtain ⟨x1, x2⟩ := bit_x rem hr k (by omega) z
      have pk := bit_p k (by omega)
      obtain ⟨g1, g2⟩ := hg k (by omega) z
      rw [fRounds_bestNext_h10, if_pos lt, if_neg nz, if_pos (k_in (by omega) (by decide)), if_pos (k_in (by omega) (by decide)), x1, if_pos (k_in (by omega) (by decide)), if_pos (k_in (by omega) (by decide)), ltI_eq, k_ix (by omega), k_ix (by omega), k_ix (by omega), g1]
      simp only [fRounds_bestNext_b69]
      rw [k_s (by omega)]
      cases e : fam g (fun k => rem.testBit k) k with
      | none =>
        have e2 : fam g (fun k => rem.testBit k) (k + 1) = some k := by
          unfold fam
          rw [if_pos z, e]
        rw [e2] at ih
        rw [show fbV g none = cI 2147483647 from rfl, if_pos (by rw [lt_i, show (cI 2147483647).toInt = 2147483647 from rfl]; exact g2)]
        exact ih
      | some b =>
        rw [show fbV g (some b) = g b from rfl]
        by_cases w : g k < g b
        · have e2 : fam g (fun k => rem.testBit k) (k + 1) = some k := by
            unfold fam
            rw [if_pos z, e]
            simp only [if_pos w]
          rw [e2] at ih
          rw [if_pos w]
          exact ih
        · have e2 : fam g (fun k => rem.testBit k) (k + 1) = some b := by
            unfold fam
            rw [if_pos z, e]
            simp only [if_neg w]
          rw [e2] at ih
          rw [if_neg w]
          exact ih
    · have z' : rem.testBit k = false := by simpa using z
      have e2 : fam g (fun k => rem.testBit k) (k + 1) = fam g (fun k => rem.testBit k) k := by
        show (if rem.testBit k = true then _ else _) = _
        rw [if_neg z]
      rw [e2] at ih
      rw [fRounds_bestNext_h10, if_pos lt, if_pos ((bit_q rem hr k (by omega)).mpr z')]
      simp only [fRounds_bestNext_b69]
      rw [k_s (by omega)]
      exact ih
theorem e_bestNext {s : ev_M} {n rem last : Nat} {g : Nat → Int32} (hn : n ≤ 8) (hl : last ≤ 8) (hr : rem < 256) (hg : ∀ k, k < n → rem.testBit k = true → s.1 (183 + last) k + s.1 (193 + (rem - 2 ^ k)) k = g k ∧ (g k).toInt < 2147483647) : fRounds_bestNext s (cI (n : Int)) (cI (rem : Int)) (cI (last : Int)) = some (fbI (fam g (fun k => rem.testBit k) n)) := bn_lp hn hl hr hg n 1048576 0 (by omega) (by omega)
/-- the ways are in the class's table -/
def Dt (s : ev_M) (n : Nat) (d : Nat → Nat → Int32) : Prop := (∀ q, q < n → ∀ j, j ≤ n → s.1 (183 + q) j = d q j) ∧ ∀ q, q < n → s.1 (183 + n) q = d n q
theorem inF_lw {i k : Nat} (h : i < 256) : inF [(193, 448, 0)] (193 + i) k = true := by
  simp only [inF, List.any_cons, List.any_nil, Bool.or_false]
  have a : Nat.ble 193 (193 + i) = true := Nat.ble_eq.mpr (by omega)
  have b : Nat.ble (193 + i) 448 = true := Nat.ble_eq.mpr (by omega)
  simp [a, b]
theorem fam_0 {g : Nat → Int32} {c : Nat} : fam g (fun k => (0 : Nat).testBit k) c = none := by
  cases e : fam g (fun k => (0 : Nat).testBit k) c with
  | none => rfl
  | some b => exact absurd (fam_at e).2.1 (by simp)
theorem fbI_ne {b : Nat} (h : b < 1000) : ¬ fbI (some b) = cI (-1) := fun w => neg1_ne (n := b) (by omega) w.symm
theorem lw_in {a : Int32} {n rem : Nat} {d : Nat → Nat → Int32} {k17 : ev_M → Int32 → Int32 → Int32 → Option ev_M} (hn : n ≤ 8) (hd : Dn d n) (hr : rem < 2 ^ n) : ∀ (r m l : Nat) (s : ev_M), l + r = n → r < m → Dt s n d → (∀ i, i < rem → ∀ q, q < n → s.1 (193 + i) q = wv d n i q) → (∀ q, q < l → s.1 (193 + rem) q = wv d n rem q) → ∃ s', fRounds_goLeastWay_h27 k17 m s a (cI (n : Int)) (cI (rem : Int)) (cI (l : Int)) = k17 s' a (cI (n : Int)) (cI ((rem + 1 : Nat) : Int)) ∧ (∀ q, q < n → s'.1 (193 + rem) q = wv d n rem q) ∧ (∀ c, c ≠ 193 + rem → s'.1 c = s.1 c) ∧ fr [(193, 448, 0)] s s'
  | 0, m, l, s, hl, hm, hD, hT, hL => by
    have h256 := bit_256 n (by omega)
    obtain ⟨m, rfl⟩ : ∃ k, m = k + 1 := ⟨m - 1, by omega⟩
    have e : l = n := by omega
    subst e
    refine ⟨s, ?_, hL, fun _ _ => rfl, fr.rf⟩
    rw [fRounds_goLeastWay_h27, if_neg (by rw [k_lt (by omega) (by omega)]; omega), k_s (by omega)]
  | r + 1, m, l, s, hl, hm, hD, hT, hL => by
    have h256 := bit_256 n (by omega)
    obtain ⟨m, rfl⟩ : ∃ k, m = k + 1 := ⟨m - 1, by omega⟩
    have lt : cI (l : Int) < cI (n : Int) := (k_lt (by omega) (by omega)).mpr (by omega)
    obtain ⟨s', b1, b2, b3, b4⟩ := lw_in (a := a) (k17 := k17) hn hd hr r m (l + 1) (wI s (193 + rem) l (wv d n rem l)) (by omega) (by omega) ⟨fun q hq j hj => by rw [wI_ne (by omega)]; exact hD.1 q hq j hj, fun q hq => by rw [wI_ne (by omega)]; exact hD.2 q hq⟩ (fun i hi q hq => by rw [wI_ne (by omega)]; exact hT i hi q hq) (fun q hq => by
      by_cases z : q = l
      · subst z; rw [wI_c, up1_eq]
      · rw [wI_c, up1_ne z]; exact hL q (by omega))
    have bn := e_bestNext (s := s) (g := wg d n rem l) hn (show l ≤ 8 by omega) (show rem < 256 by omega) (fun k hk mk => by
      have x2 := (bit_x rem (by omega) k (by omega) mk).2
      have p := bit_p k (by omega)
      refine ⟨?_, ?_⟩
      · rw [hD.1 l (by omega) k (by omega), hT (rem - 2 ^ k) (by omega) k hk]
        rfl
      · have := (wg_b hn hd hr (show l ≤ n by omega) hk).2
        omega)
    refine ⟨s', ?_, b2, fun c hc => by rw [b3 c hc, wI_ne hc], (fr.rf.wI (inF_lw (by omega))).tr b4⟩
    by_cases z : rem = 0
    · subst z
      rw [fam_0] at bn
      rw [fRounds_goLeastWay_h27, if_pos lt, bn, bd1_some, if_pos (k_in (by omega) (by decide)), if_pos (show fbI none = cI (-1) from rfl), if_pos (k_in (by omega) (by decide)), if_pos (k_in (by omega) (by decide))]
      unfold fRounds_goLeastWay_b94
      rw [if_pos (k_in (by omega) (by decide)), ltM_eq, k_ix (by omega), k_ix (by omega), k_ix (by omega), k_s (by omega), hD.1 l (by omega) n (Nat.le_refl _)]
      rw [wv_0] at b1
      exact b1
    · obtain ⟨j, hj, mj⟩ := bit_e n (by omega) rem hr z
      obtain ⟨b, hb⟩ := fam_some (g := wg d n rem l) (m := fun k => rem.testBit k) hj mj
      obtain ⟨q1, q2, -, -⟩ := fam_at hb
      obtain ⟨x1, x2⟩ := bit_x rem (by omega) b (by omega) q2
      have p := bit_p b (by omega)
      have e : wv d n rem l = wg d n rem l b := by
        rw [wv_s hn (by omega) z, mnk_fam hb (wg_b hn hd hr (by omega) (by omega)).2]
      rw [hb] at bn
      rw [fRounds_goLeastWay_h27, if_pos lt, bn, bd1_some, if_pos (k_in (by omega) (by decide)), if_neg (fbI_ne (by omega)), show fbI (some b) = cI (b : Int) from rfl, if_pos (k_in (by omega) (by decide)), if_pos (k_in (by omega) (by decide)), x1, if_pos (k_in (by omega) (by decide)), if_pos (k_in (by omega) (by decide))]
      unfold fRounds_goLeastWay_b94
      rw [if_pos (k_in (by omega) (by decide)), ltM_eq, k_ix (by omega), k_ix (by omega), k_ix (by omega), k_ix (by omega), k_s (by omega), hD.1 l (by omega) b (by omega), hT (rem - 2 ^ b) (by omega) b (by omega)]
      rw [e] at b1
      exact b1
theorem lw_lp {a : Int32} {n : Nat} {d : Nat → Nat → Int32} (hn : n ≤ 8) (hd : Dn d n) : ∀ (r m rem : Nat) (s : ev_M), rem + r = 2 ^ n → r < m → Dt s n d → (∀ i, i < rem → ∀ q, q < n → s.1 (193 + i) q = wv d n i q) → ∃ s', fRounds_goLeastWay_h17 m s a (cI (n : Int)) (cI (rem : Int)) = fRounds_goLeastWay_h119 1048576 s' a (cI (n : Int)) (cI ((2 ^ n - 1 : Nat) : Int)) (cI (n : Int)) (cI 0) ∧ (∀ i, i < 2 ^ n → ∀ q, q < n → s'.1 (193 + i) q = wv d n i q) ∧ (∀ c, c < 193 → s'.1 c = s.1 c) ∧ fr [(193, 448, 0)] s s'
  | 0, m, rem, s, hr, hm, hD, hT => by
    have h256 := bit_256 n (by omega)
    obtain ⟨m, rfl⟩ : ∃ k, m = k + 1 := ⟨m - 1, by omega⟩
    refine ⟨s, ?_, fun i hi => hT i (by omega), fun _ _ => rfl, fr.rf⟩
    rw [fRounds_goLeastWay_h17, bit_f n (by omega), if_neg (by rw [k_lt (by omega) (by omega)]; omega), ltI_eq]
    rw [← bit_f n (by omega), bit_f1 n (by omega)]
  | r + 1, m, rem, s, hr, hm, hD, hT => by
    have h256 := bit_256 n (by omega)
    obtain ⟨m, rfl⟩ : ∃ k, m = k + 1 := ⟨m - 1, by omega⟩
    obtain ⟨s1, a1, a2, a3, a4⟩ := lw_in (a := a) (k17 := fRounds_goLeastWay_h17 m) hn hd (rem := rem) (by omega) n 1048576 0 s (by omega) (by omega) hD hT (fun q hq => absurd hq (Nat.not_lt_zero _))
    obtain ⟨s', b1, b2, b3, b4⟩ := lw_lp (a := a) hn hd r m (rem + 1) s1 (by omega) (by omega) ⟨fun q hq j hj => by rw [a3 _ (by omega)]; exact hD.1 q hq j hj, fun q hq => by rw [a3 _ (by omega)]; exact hD.2 q hq⟩ (fun i hi q hq => by
      by_cases z : i = rem
      · subst z; exact a2 q hq
      · rw [a3 _ (by omega)]; exact hT i (by omega) q hq)
    refine ⟨s', ?_, b2, fun c hc => by rw [b3 c hc, a3 c (by omega)], a4.tr b4⟩
    rw [fRounds_goLeastWay_h17, bit_f n (by omega), if_pos (by rw [k_lt (by omega) (by omega)]; omega)]
    rw [show cI 0 = cI ((0 : Nat) : Int) from rfl, a1]
    exact b1
