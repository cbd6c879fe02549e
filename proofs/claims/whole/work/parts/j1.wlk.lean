/-! ===== LEVEL 3: the way taken ===== -/
def wk (d : Nat → Nat → Int32) (n : Nat) : Nat → Nat × Nat
  | 0 => (2 ^ n - 1, n)
  | p + 1 => ((wk d n p).1 - 2 ^ ((fam (wg d n (wk d n p).1 (wk d n p).2) (fun k => (wk d n p).1.testBit k) n).getD 0), (fam (wg d n (wk d n p).1 (wk d n p).2) (fun k => (wk d n p).1.testBit k) n).getD 0)
def wo (d : Nat → Nat → Int32) (n p : Nat) : Nat := (wk d n (p + 1)).2
theorem wk_ok {d : Nat → Nat → Int32} {n : Nat} (hn : n ≤ 8) : ∀ p, p ≤ n → (wk d n p).1 < 2 ^ n ∧ (wk d n p).2 ≤ n ∧ cnt8 (wk d n p).1 + p = n ∧ (p < n → fam (wg d n (wk d n p).1 (wk d n p).2) (fun k => (wk d n p).1.testBit k) n = some (wo d n p) ∧ (wk d n (p + 1)).1 = (wk d n p).1 - 2 ^ wo d n p ∧ wo d n p < n ∧ (wk d n p).1.testBit (wo d n p) = true) := by
  intro p
  have h256 := bit_256 n (by omega)
  have step : ∀ p, p ≤ n → (wk d n p).1 < 2 ^ n → (wk d n p).2 ≤ n → cnt8 (wk d n p).1 + p = n → (p < n → fam (wg d n (wk d n p).1 (wk d n p).2) (fun k => (wk d n p).1.testBit k) n = some (wo d n p) ∧ (wk d n (p + 1)).1 = (wk d n p).1 - 2 ^ wo d n p ∧ wo d n p < n ∧ (wk d n p).1.testBit (wo d n p) = true) := by
    intro p hp h1 h2 h3 hlt
    have nz : (wk d n p).1 ≠ 0 := fun z => by rw [z, cnt8_z] at h3; omega
    obtain ⟨j, hj, mj⟩ := bit_e n (by omega) _ h1 nz
    obtain ⟨b, hb⟩ := fam_some (g := wg d n (wk d n p).1 (wk d n p).2) (m := fun k => (wk d n p).1.testBit k) hj mj
    have e : wo d n p = b := by
      show ((fam (wg d n (wk d n p).1 (wk d n p).2) (fun k => (wk d n p).1.testBit k) n).getD 0) = b
      rw [hb]; rfl
    obtain ⟨q1, q2, -, -⟩ := fam_at hb
    rw [e]
    refine ⟨hb, ?_, q1, q2⟩
    show (wk d n p).1 - 2 ^ ((fam (wg d n (wk d n p).1 (wk d n p).2) (fun k => (wk d n p).1.testBit k) n).getD 0) = _
    rw [hb]; rfl
  induction p with
  | zero =>
    intro hp
    have a1 : (wk d n 0).1 < 2 ^ n := by
      show 2 ^ n - 1 < 2 ^ n
      have := Nat.pow_pos (n := n) (show 0 < 2 by decide)
      omega
    have a2 : (wk d n 0).2 ≤ n := Nat.le_refl _
    have a3 : cnt8 (wk d n 0).1 + 0 = n := cnt8_f n (by omega)
    exact ⟨a1, a2, a3, step 0 hp a1 a2 a3⟩
  | succ p ih =>
    intro hp
    obtain ⟨a1, a2, a3, a4⟩ := ih (by omega)
    obtain ⟨b1, b2, b3, b4⟩ := a4 (by omega)
    have c1 : (wk d n (p + 1)).1 < 2 ^ n := by rw [b2]; exact Nat.lt_of_le_of_lt (Nat.sub_le _ _) a1
    have c2 : (wk d n (p + 1)).2 ≤ n := by
      show wo d n p ≤ n
      omega
    have c3 : cnt8 (wk d n (p + 1)).1 + (p + 1) = n := by
      rw [b2]
      have := cnt8_x (wk d n p).1 (by omega) (wo d n p) (by omega) b4
      omega
    exact ⟨c1, c2, c3, step (p + 1) hp c1 c2 c3⟩
theorem wk_bit {d : Nat → Nat → Int32} {n : Nat} (hn : n ≤ 8) : ∀ (r p : Nat), p + r ≤ n → ∀ j, j < n → (wk d n (p + r)).1.testBit j = true → (wk d n p).1.testBit j = true ∧ ∀ q, p ≤ q → q < p + r → j ≠ wo d n q
  | 0, p, _, j, _, h => ⟨h, fun q h1 h2 => by omega⟩
  | r + 1, p, hp, j, hj, h => by
    have h256 := bit_256 n (by omega)
    obtain ⟨a1, a2, a3, a4⟩ := wk_ok (d := d) hn (p + r) (by omega)
    obtain ⟨b1, b2, b3, b4⟩ := a4 (by omega)
    rw [← Nat.add_assoc, b2] at h
    obtain ⟨c1, c2⟩ := bit_n _ (by omega) _ (by omega) j (by omega) b4 h
    obtain ⟨e1, e2⟩ := wk_bit hn r p (by omega) j hj c1
    refine ⟨e1, fun q h1 h2 => ?_⟩
    by_cases z : q = p + r
    · rw [z]; exact c2
    · exact e2 q h1 (by omega)
theorem wo_inj {d : Nat → Nat → Int32} {n p q : Nat} (hn : n ≤ 8) (hp : p < q) (hq : q < n) : wo d n p ≠ wo d n q := by
  obtain ⟨a1, a2, a3, a4⟩ := wk_ok (d := d) hn q (by omega)
  obtain ⟨b1, b2, b3, b4⟩ := a4 hq
  obtain ⟨c1, c2⟩ := wk_bit (d := d) hn (q - p) p (by omega) (wo d n q) b3 (by rw [show p + (q - p) = q by omega]; exact b4)
  exact (c2 p (Nat.le_refl _) (by omega)).symm
theorem inF_row12 {i k : Nat} (h : i < 12) : inF [(175, 175, 0), (146, 157, 0)] (146 + i) k = true := by
  simp only [inF, List.any_cons, List.any_nil, Bool.or_false]
  have a : Nat.ble 146 (146 + i) = true := Nat.ble_eq.mpr (by omega)
  have b : Nat.ble (146 + i) 157 = true := Nat.ble_eq.mpr (by omega)
  simp [a, b]
theorem lk_lp {a : Int32} {n : Nat} {P : Nat → Nat} {d : Nat → Nat → Int32} (hn : n ≤ 8) (ha : inb a 12 = true) (hd : Dn d n) : ∀ (r m p : Nat) (s : ev_M), p + r = n → r < m → Dt s n d → (∀ i, i < 2 ^ n → ∀ q, q < n → s.1 (193 + i) q = wv d n i q) → Rw s (ix a) n P → (∀ q, q < p → s.1 175 q = cI (P (wo d n q) : Int)) → ∃ s', fRounds_goLeastWay_h119 m s a (cI (n : Int)) (cI ((wk d n p).1 : Int)) (cI ((wk d n p).2 : Int)) (cI (p : Int)) = some s' ∧ (∀ q, q < n → s'.1 (146 + ix a) q = cI (P (wo d n q) : Int)) ∧ (∀ q, n ≤ q → s'.1 (146 + ix a) q = s.1 (146 + ix a) q) ∧ (∀ c, c ≠ 175 → c ≠ 146 + ix a → s'.1 c = s.1 c) ∧ fr [(175, 175, 0), (146, 157, 0)] s s'
  | 0, m, p, s, hp, hm, hD, hT, hR, hL => by
    obtain ⟨m, rfl⟩ : ∃ k, m = k + 1 := ⟨m - 1, by omega⟩
    have e : p = n := by omega
    subst e
    have al := inb_lt ha
    have cc : fACP s 300 20 175 (146 + ix a) (cI 0) (cI 0) (cI (p : Int)) = some (cpM s 175 (146 + ix a) 0 0 p) := by
      unfold fACP
      rw [if_pos ⟨⟨by decide, by decide, by rw [le_i, i32_0, k_ti (by omega)]; omega⟩, by rw [ix_0, k_ix (by omega)]; omega, by rw [ix_0, k_ix (by omega)]; omega⟩, ix_0, k_ix (by omega)]
    refine ⟨cpM s 175 (146 + ix a) 0 0 p, ?_, fun q hq => ?_, fun q hq => ?_, fun c h1 h2 => ?_, fr_acp (F := [(175, 175, 0), (146, 157, 0)]) (fun k => inF_row12 al) cc⟩
    · rw [fRounds_goLeastWay_h119, if_neg (by rw [k_lt (by omega) (by omega)]; omega), if_pos ha, cc, bd1_some]
    · show (if 146 + ix a = 146 + ix a ∧ 0 ≤ q ∧ q < 0 + p then s.1 175 (0 + (q - 0)) else _) = _
      rw [if_pos ⟨rfl, by omega, by omega⟩, Nat.zero_add, Nat.sub_zero]
      exact hL q hq
    · show (if 146 + ix a = 146 + ix a ∧ 0 ≤ q ∧ q < 0 + p then s.1 175 (0 + (q - 0)) else s.1 (146 + ix a) q) = _
      rw [if_neg (by omega)]
    · funext q
      show (if c = 146 + ix a ∧ 0 ≤ q ∧ q < 0 + p then s.1 175 (0 + (q - 0)) else s.1 c q) = _
      rw [if_neg (fun z => h2 z.1)]
  | r + 1, m, p, s, hp, hm, hD, hT, hR, hL => by
    obtain ⟨m, rfl⟩ : ∃ k, m = k + 1 := ⟨m - 1, by omega⟩
    have h256 := bit_256 n (by omega)
    have al := inb_lt ha
    have lt : cI (p : Int) < cI (n : Int) := (k_lt (by omega) (by omega)).mpr (by omega)
    obtain ⟨a1, a2, a3, a4⟩ := wk_ok (d := d) hn p (by omega)
    obtain ⟨b1, b2, b3, b4⟩ := a4 (by omega)
    obtain ⟨x1, x2⟩ := bit_x _ (by omega) _ (by omega) b4
    have bn := e_bestNext (s := s) (g := wg d n (wk d n p).1 (wk d n p).2) hn (show (wk d n p).2 ≤ 8 by omega) (show (wk d n p).1 < 256 by omega) (fun k hk mk => by
      have x2 := (bit_x _ (by omega) k (by omega) mk).2
      have q := bit_p k (by omega)
      refine ⟨?_, ?_⟩
      · rw [hT _ (by omega) k hk]
        by_cases z : (wk d n p).2 = n
        · rw [z, hD.2 k hk]; rfl
        · rw [hD.1 _ (by omega) k (by omega)]; rfl
      · have := (wg_b hn hd a1 a2 hk).2
        omega)
    rw [b1] at bn
    obtain ⟨s', c1, c2, c3, c4, c5⟩ := lk_lp (P := P) hn ha hd r m (p + 1) (wI s 175 p (cI (P (wo d n p) : Int))) (by omega) (by omega) ⟨fun q hq j hj => by rw [wI_ne (by omega)]; exact hD.1 q hq j hj, fun q hq => by rw [wI_ne (by omega)]; exact hD.2 q hq⟩ (fun i hi q hq => by rw [wI_ne (by omega)]; exact hT i hi q hq) (fun q hq => by rw [wI_ne (by omega)]; exact hR q hq) (fun q hq => by
      rw [wI_c]
      by_cases z : q = p
      · subst z; rw [up1_eq]
      · rw [up1_ne z]; exact hL q (by omega))
    refine ⟨s', ?_, c2, fun q hq => by rw [c3 q hq, wI_ne (by omega)], fun c h1 h2 => by rw [c4 c h1 h2, wI_ne h1], (fr.rf.wI rfl).tr c5⟩
    rw [fRounds_goLeastWay_h119, if_pos lt, bn, bd1_some, if_neg (fbI_ne (by omega)), show fbI (some (wo d n p)) = cI (wo d n p : Int) from rfl, ltI_eq, x1, if_pos ha, if_pos (k_in (by omega) (by decide)), if_pos (k_in (by omega) (by decide)), ltM_eq, k_ix (by omega), k_ix (by omega), hR _ b3, k_s (by omega)]
    rw [b2] at c1
    exact c1
theorem leastWay {a : Int32} {n : Nat} {P : Nat → Nat} {d : Nat → Nat → Int32} {s : ev_M} (hn : n ≤ 8) (ha : inb a 12 = true) (hd : Dn d n) (hc : ∀ q, q < n → d n q = d q n) (h3 : s.1 143 (ix a) = cI (n : Int)) (hG : Gq s a n P d) (hR : Rw s (ix a) n P) : ∃ s', fRounds_goLeastWay s a = some s' ∧ (∀ q, q < n → s'.1 (146 + ix a) q = cI (P (wo d n q) : Int)) ∧ (∀ q, n ≤ q → s'.1 (146 + ix a) q = s.1 (146 + ix a) q) ∧ (∀ c, c < 175 → c ≠ 146 + ix a → s'.1 c = s.1 c) ∧ fr [(175, 175, 0), (146, 157, 0), (183, 191, 0), (193, 448, 0)] s s' := by
  have h256 := bit_256 n (by omega)
  have al := inb_lt ha
  have pw : 1 ≤ 2 ^ n := Nat.pow_pos (n := n) (show 0 < 2 by decide)
  obtain ⟨s1, a1, a2, a3, a4⟩ := ms_lp (d := d) (P := P) hn ha hc n 1048576 0 s (by omega) (by omega) hG hR (fun q hq => absurd hq (Nat.not_lt_zero _))
  have D1 : Dt s1 n d := ⟨fun q hq j hj => (a2 q hq).1 j hj, fun q hq => (a2 q hq).2⟩
  obtain ⟨s2, b1, b2, b3, b4⟩ := lw_lp (a := a) hn hd (2 ^ n) 1048576 0 s1 (by omega) (by omega) D1 (fun i hi => absurd hi (Nat.not_lt_zero _))
  obtain ⟨s3, c1, c2, c3, c4, c5⟩ := lk_lp (P := P) (s := s2) hn ha hd n 1048576 0 (by omega) (by omega) ⟨fun q hq j hj => by rw [b3 _ (by omega)]; exact D1.1 q hq j hj, fun q hq => by rw [b3 _ (by omega)]; exact D1.2 q hq⟩ b2 (fun q hq => by rw [b3 _ (by omega), a3 _ (by omega)]; exact hR q hq) (fun q hq => absurd hq (Nat.not_lt_zero _))
  refine ⟨s3, ?_, c2, fun q hq => by rw [c3 q hq, b3 _ (by omega), a3 _ (by omega)], fun c h1 h2 => by rw [c4 c (by omega) h2, b3 c (by omega), a3 c (by omega)], ((a4.mono (by decide +kernel)).tr (b4.mono (by decide +kernel))).tr (c5.mono (by decide +kernel))⟩
  unfold fRounds_goLeastWay fRounds_measure
  generalize 1048576 = H at a1 b1 c1 ⊢
  simp only [ix_0, ix_1, ix_2, ix_3, ix_4, ix_5, ix_6, ix_7, ix_8, ix_9, ix_10, ix_11, ix_12, ix_13, ix_14, ix_15, ix_16, ix_17, ix_18, ix_19, ix_20, ix_21, Nat.reduceAdd, wI_c, wI_ne, wL_1, lupd_ne, up1_eq, up1_ne]
  rw [if_pos ha, ltI_eq, h3, show cI 0 = cI ((0 : Nat) : Int) from rfl, a1, bd1_some, b1]
  exact c1
