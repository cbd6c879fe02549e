/-! ===== LEVEL 3: the reference goes the least way ===== -/
theorem add_subL {x y : Int32} : x + y - x = y := by
  rw [Int32.add_comm]; exact Int32.add_sub_cancel y x
theorem ex_fi {n : Nat} {d : Nat → Nat → Int32} {t : ev_M} (hn : n ≤ 8) (h0 : 0 < n) (hd : Dn d n) (hF : Fg t n d) (hT : ∀ i, i < 2 ^ n - 1 → Mt t n d i) : ∀ (r m k : Nat), k + r = n → r < m → fM_arrangeExactly_h147 m t (cI (n : Int)) (mnk (wg d n (2 ^ n - 1) n) (fun k => (2 ^ n - 1).testBit k) k) (cI (k : Int)) = fM_arrangeExactly_h209 1048576 t (cI (n : Int)) (wv d n (2 ^ n - 1) n) (cI 0) (cI (n : Int)) (wv d n (2 ^ n - 1) n) (cI 0)
  | 0, m, k, hk, hm => by
    obtain ⟨m, rfl⟩ : ∃ k, m = k + 1 := ⟨m - 1, by omega⟩
    have h256 := bit_256 n (by omega)
    have e : k = n := by omega
    subst e
    have p := (bit_t k (by omega) 0 h0).1
    rw [fM_arrangeExactly_h147, if_neg (by rw [k_lt (by omega) (by omega)]; omega), ← wv_s hn (by omega) (by omega)]
  | r + 1, m, k, hk, hm => by
    obtain ⟨m, rfl⟩ : ∃ k, m = k + 1 := ⟨m - 1, by omega⟩
    have h256 := bit_256 n (by omega)
    have lt : cI (k : Int) < cI (n : Int) := (k_lt (by omega) (by omega)).mpr (by omega)
    obtain ⟨p1, p2⟩ := bit_t n (by omega) k (by omega)
    have p := bit_p k (by omega)
    have ih := ex_fi hn h0 hd hF hT r m (k + 1) (by omega) (by omega)
    obtain ⟨i1, i2⟩ := k_8i (j := 8 * 2 ^ k + k) (by omega)
    have g : d n k + t.1 667 (8 * 2 ^ k + k) = wg d n (2 ^ n - 1) n k := by
      have := hT (2 ^ n - 1 - 2 ^ k) (by omega) k (by omega)
      rw [show 2 ^ n - 1 - (2 ^ n - 1 - 2 ^ k) = 2 ^ k by omega] at this
      rw [this]; rfl
    have e : mnk (wg d n (2 ^ n - 1) n) (fun k => (2 ^ n - 1).testBit k) (k + 1) = if wg d n (2 ^ n - 1) n k < mnk (wg d n (2 ^ n - 1) n) (fun k => (2 ^ n - 1).testBit k) k then wg d n (2 ^ n - 1) n k else mnk (wg d n (2 ^ n - 1) n) (fun k => (2 ^ n - 1).testBit k) k := by
      show (if (2 ^ n - 1).testBit k = true then _ else _) = _
      rw [if_pos p2]
    rw [e] at ih
    rw [fM_arrangeExactly_h147, if_pos lt, hF n k (Nat.le_refl _) (by omega), bd1_some, bit_1 k (by omega), k_8 _ (by omega) _ (by omega), if_pos i1, ltI_eq, i2, g]
    simp only [fM_arrangeExactly_b190]
    rw [k_s (by omega)]
    by_cases w : wg d n (2 ^ n - 1) n k < mnk (wg d n (2 ^ n - 1) n) (fun k => (2 ^ n - 1).testBit k) k
    · rw [if_pos w] at ih ⊢
      exact ih
    · rw [if_neg w] at ih ⊢
      exact ih
/-- the reference looks from behind for the first of the least -/
theorem ex_se {n rem last b : Nat} {d : Nat → Nat → Int32} {x3 x7 : Int32} {pb : Nat} {k209 : ev_M → Int32 → Int32 → Int32 → Int32 → Int32 → Int32 → Option (ev_M × Int32)} {t : ev_M} (hn : n ≤ 8) (hd : Dn d n) (hr : rem < 2 ^ n) (hl : last ≤ n) (hF : Fg t n d) (hT : ∀ i, i < 2 ^ n - 1 → Mt t n d i) (hb : fam (wg d n rem last) (fun k => rem.testBit k) n = some b) (hP : t.1 664 b = cI (pb : Int) ∧ pb < 120) : ∀ (k m : Nat) (x8 x9 : Int32), k ≤ n → k < m → (k ≤ b → x8 = cI (b : Int)) → x9 = cI (k : Int) + cI (-1) → fM_arrangeExactly_h223 k209 m t (cI (n : Int)) x3 (cI ((2 ^ n - 1 - rem : Nat) : Int)) (cI (last : Int)) (wv d n rem last) x7 x8 x9 = k209 (wI t 572 pb x7) (cI (n : Int)) x3 (cI ((2 ^ n - 1 - (rem - 2 ^ b) : Nat) : Int)) (cI (b : Int)) (wv d n (rem - 2 ^ b) b) (x7 + cI 1)
  | 0, m, x8, x9, hk, hm, h8, h9 => by
    obtain ⟨m, rfl⟩ : ∃ k, m = k + 1 := ⟨m - 1, by omega⟩
    have h256 := bit_256 n (by omega)
    obtain ⟨q1, q2, -, -⟩ := fam_at hb
    have e := h8 (Nat.zero_le _)
    subst e
    subst h9
    obtain ⟨o1, o2⟩ := (vis_q hn hr q1).2 q2
    have nz : rem ≠ 0 := by have := bit_p b (by omega); omega
    have ew : wv d n rem last = d last b + wv d n (rem - 2 ^ b) b := by
      rw [wv_s hn (by omega) nz, mnk_fam hb (wg_b hn hd hr hl q1).2]; rfl
    have lt0 : cI ((0 : Nat) : Int) + cI (-1) < 0 := by decide
    rw [fM_arrangeExactly_h223, if_pos lt0, hF last b hl (by omega), bd1_some, ltI_eq, ltI_eq, if_pos (k_in (by omega) (by decide)), k_ix (by omega), hP.1, if_pos (k_in hP.2 (by decide)), ltM_eq, k_ix (by omega), o1, ew, add_subL]
  | k + 1, m, x8, x9, hk, hm, h8, h9 => by
    obtain ⟨m, rfl⟩ : ∃ k, m = k + 1 := ⟨m - 1, by omega⟩
    have h256 := bit_256 n (by omega)
    obtain ⟨f1, f2, f3, f4⟩ := fam_at hb
    rw [k_p (by omega)] at h9
    subst h9
    have nl : ¬ cI (k : Int) < 0 := by rw [lt_i, i32_0, k_ti (by omega)]; omega
    have nz : rem ≠ 0 := by
      have := bit_le n (by omega) rem hr b f1 f2
      have := bit_p b (by omega)
      omega
    have ew : wv d n rem last = wg d n rem last b := by
      rw [wv_s hn (by omega) nz, mnk_fam hb (wg_b hn hd hr hl f1).2]
    obtain ⟨q1, q2⟩ := vis_q hn hr (show k < n by omega)
    by_cases z : rem.testBit k = true
    · obtain ⟨o1, o2⟩ := q2 z
      have p := bit_p k (by omega)
      obtain ⟨i1, i2⟩ := k_8i (j := 8 * (2 ^ n - 1 - (rem - 2 ^ k)) + k) (by omega)
      have g : d last k + t.1 667 (8 * (2 ^ n - 1 - (rem - 2 ^ k)) + k) = wg d n rem last k := by
        rw [hT (rem - 2 ^ k) (by omega) k (by omega)]; rfl
      rw [fM_arrangeExactly_h223, if_neg nl, if_pos (q1.mpr z)]
      unfold fM_arrangeExactly_b243
      rw [if_neg (show ¬ cI 1 = 0 by decide), hF last k hl (by omega), bd1_some, o1, k_8 _ (by omega) _ (by omega), if_pos i1, i2, g]
      by_cases w : wg d n rem last k = wv d n rem last
      · rw [if_pos w]
        unfold fM_arrangeExactly_b289
        refine ex_se hn hd hr hl hF hT hb hP k m _ _ (by omega) (by omega) (fun hkb => ?_) rfl
        by_cases v : k = b
        · rw [v]
        · have := f4 k (by omega) z
          rw [w, ew] at this
          omega
      · rw [if_neg w]
        unfold fM_arrangeExactly_b287 fM_arrangeExactly_b289
        refine ex_se hn hd hr hl hF hT hb hP k m _ _ (by omega) (by omega) (fun hkb => h8 ?_) rfl
        by_cases v : k = b
        · exact absurd (by rw [v, ew]) w
        · omega
    · rw [fM_arrangeExactly_h223, if_neg nl, if_neg (fun w => z (q1.mp w))]
      unfold fM_arrangeExactly_b243
      rw [if_pos (show cI 0 = 0 by decide)]
      unfold fM_arrangeExactly_b287 fM_arrangeExactly_b289
      refine ex_se hn hd hr hl hF hT hb hP k m _ _ (by omega) (by omega) (fun hkb => h8 ?_) rfl
      by_cases v : k = b
      · subst v; exact absurd f2 z
      · omega
theorem ex_wk {n : Nat} {P : Nat → Nat} {d : Nat → Nat → Int32} {x3 : Int32} (hn : n ≤ 8) (hd : Dn d n) (hJ : ∀ q q', q < n → q' < n → P q = P q' → q = q') : ∀ (r m p : Nat) (t : ev_M), p + r = n → r < m → Fg t n d → (∀ i, i < 2 ^ n - 1 → Mt t n d i) → (∀ q, q < n → t.1 664 q = cI (P q : Int) ∧ P q < 120) → (∀ q, q < p → t.1 572 (P (wo d n q)) = cI (q : Int)) → ∃ t', fM_arrangeExactly_h209 m t (cI (n : Int)) x3 (cI ((2 ^ n - 1 - (wk d n p).1 : Nat) : Int)) (cI ((wk d n p).2 : Int)) (wv d n (wk d n p).1 (wk d n p).2) (cI (p : Int)) = some (t', x3) ∧ (∀ q, q < n → t'.1 572 (P (wo d n q)) = cI (q : Int)) ∧ (∀ i, (∀ q, q < n → i ≠ P (wo d n q)) → t'.1 572 i = t.1 572 i) ∧ fr [(572, 572, 0)] t t'
  | 0, m, p, t, hp, hm, hF, hT, hP, hL => by
    obtain ⟨m, rfl⟩ : ∃ k, m = k + 1 := ⟨m - 1, by omega⟩
    have e : p = n := by omega
    subst e
    refine ⟨t, ?_, hL, fun _ _ => rfl, fr.rf⟩
    rw [fM_arrangeExactly_h209, if_neg (by rw [k_lt (by omega) (by omega)]; omega)]
  | r + 1, m, p, t, hp, hm, hF, hT, hP, hL => by
    obtain ⟨m, rfl⟩ : ∃ k, m = k + 1 := ⟨m - 1, by omega⟩
    have h256 := bit_256 n (by omega)
    have lt : cI (p : Int) < cI (n : Int) := (k_lt (by omega) (by omega)).mpr (by omega)
    obtain ⟨a1, a2, a3, a4⟩ := wk_ok (d := d) hn p (by omega)
    obtain ⟨b1, b2, b3, b4⟩ := a4 (by omega)
    have se := ex_se (x3 := x3) (x7 := cI (p : Int)) (pb := P (wo d n p)) (k209 := fM_arrangeExactly_h209 m) hn hd a1 a2 hF hT b1 (hP _ b3) n 1048576 (cI (n : Int)) (cI (n : Int) + cI (-1)) (Nat.le_refl _) (by omega) (fun h => by omega) rfl
    have w1 : fr [(572, 572, 0)] t (wI t 572 (P (wo d n p)) (cI (p : Int))) := fr.rf.wI rfl
    obtain ⟨t', c1, c2, c3, c4⟩ := ex_wk (P := P) (x3 := x3) hn hd hJ r m (p + 1) (wI t 572 (P (wo d n p)) (cI (p : Int))) (by omega) (by omega) (hF.cg (wI_ne (by decide)) (wI_ne (by decide))) (fun i hi q hq => by rw [wI_ne (by decide)]; exact hT i hi q hq) (fun q hq => by rw [wI_ne (by decide)]; exact hP q hq) (fun q hq => by
      rw [wI_c]
      by_cases z : q = p
      · subst z; rw [up1_eq]
      · have wq := (wk_ok (d := d) hn q (by omega)).2.2.2 (by omega)
        rw [up1_ne (fun v => wo_inj (d := d) (p := q) (q := p) hn (by omega) (by omega) (hJ _ _ wq.2.2.1 b3 v))]
        exact hL q (by omega))
    refine ⟨t', ?_, c2, fun i hi => by rw [c3 i hi, wI_c, up1_ne (hi p (by omega))], w1.tr c4⟩
    have em : cI (n : Int) - cI 1 = cI (n : Int) + cI (-1) := by
      rw [show n = (n - 1) + 1 by omega, k_m (by omega), k_p (by omega)]
    rw [fM_arrangeExactly_h209, if_pos lt, ltI_eq, em, se, k_s (by omega)]
    rw [b2] at c1
    exact c1
theorem exactly {n : Nat} {P : Nat → Nat} {d : Nat → Nat → Int32} {t : ev_M} (hn : n ≤ 8) (h0 : 0 < n) (hd : Dn d n) (hJ : ∀ q q', q < n → q' < n → P q = P q' → q = q') (hF : Fg t n d) (hP : ∀ q, q < n → t.1 664 q = cI (P q : Int) ∧ P q < 120) : ∃ t', fM_arrangeExactly t (cI (n : Int)) = some (t', wv d n (2 ^ n - 1) n) ∧ (∀ q, q < n → t'.1 572 (P (wo d n q)) = cI (q : Int)) ∧ (∀ i, (∀ q, q < n → i ≠ P (wo d n q)) → t'.1 572 i = t.1 572 i) ∧ fr [(667, 667, 0), (572, 572, 0)] t t' := by
  have h256 := bit_256 n (by omega)
  obtain ⟨t1, a1, a2, a3, a4⟩ := ex_vi (d := d) hn (2 ^ n - 1) 1048576 0 t (by omega) (by omega) hF (fun i hi => absurd hi (Nat.not_lt_zero _))
  have F1 : Fg t1 n d := hF.cg (a3 _ (by decide)) (a3 _ (by decide))
  have b1 := ex_fi (t := t1) hn h0 hd F1 a2 n 1048576 0 (by omega) (by omega)
  obtain ⟨t2, c1, c2, c3, c4⟩ := ex_wk (P := P) (x3 := wv d n (2 ^ n - 1) n) hn hd hJ n 1048576 0 t1 (by omega) (by omega) F1 a2 (fun q hq => by rw [a3 _ (by decide)]; exact hP q hq) (fun q hq => absurd hq (Nat.not_lt_zero _))
  refine ⟨t2, ?_, c2, fun i hi => by rw [c3 i hi, a3 _ (by decide)], (a4.mono (by decide +kernel)).tr (c4.mono (by decide +kernel))⟩
  unfold fM_arrangeExactly
  generalize 1048576 = H at a1 b1 c1 ⊢
  rw [ltI_eq, bit_f1 n (by omega)]
  rw [Nat.sub_zero] at a1
  rw [a1]
  have c1' : fM_arrangeExactly_h209 H t1 (cI (n : Int)) (wv d n (2 ^ n - 1) n) (cI ((2 ^ n - 1 - (2 ^ n - 1) : Nat) : Int)) (cI (n : Int)) (wv d n (2 ^ n - 1) n) (cI ((0 : Nat) : Int)) = some (t2, wv d n (2 ^ n - 1) n) := c1
  rw [Nat.sub_self] at c1'
  exact b1.trans c1'
