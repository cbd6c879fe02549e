/-! ===== LEVEL 3: to the nearest, both ===== -/
theorem ne_lp {n p last b : Nat} {P : Nat → Nat} {d : Nat → Nat → Int32} {x2 mask : Int32} {k10 : ev_M → Int32 → Int32 → Int32 → Int32 → Int32 → Option (ev_M × Int32)} {t : ev_M} (hn : n ≤ 20) (hp : p < n) (hl : last ≤ n) (hF : Fg t n d) (hP : ∀ q, q < n → t.1 664 q = cI (P q : Int) ∧ P q < 120) (hb : fam (d last) (unv mask) n = some b) : ∀ (r m k : Nat), k + r = n → r < m → fM_arrangeByNearest_h22 k10 m t (cI (n : Int)) x2 (cI (last : Int)) mask (cI (p : Int)) (fbI (fam (d last) (unv mask) k)) (cI (k : Int)) = k10 (wI t 572 (P b) (cI (p : Int))) (cI (n : Int)) (x2 + d last b) (cI (b : Int)) (mask ||| (cI 1 <<< (cI (b : Int) &&& 31))) (cI ((p + 1 : Nat) : Int))
  | 0, m, k, hk, hm => by
    obtain ⟨m, rfl⟩ : ∃ k, m = k + 1 := ⟨m - 1, by omega⟩
    have e : k = n := by omega
    subst e
    obtain ⟨q1, q2, -, -⟩ := fam_at hb
    rw [hb, fM_arrangeByNearest_h22, if_neg (by rw [k_lt (by omega) (by omega)]; omega), show fbI (some b) = cI (b : Int) from rfl, hF last b hl (by omega), bd1_some, ltI_eq, ltI_eq, if_pos (k_in (by omega) (by decide)), k_ix (by omega), (hP b q1).1, if_pos (k_in (hP b q1).2 (by decide)), ltM_eq, k_ix (by have := (hP b q1).2; omega), k_s (by omega)]
  | r + 1, m, k, hk, hm => by
    obtain ⟨m, rfl⟩ : ∃ k, m = k + 1 := ⟨m - 1, by omega⟩
    have ih := ne_lp (x2 := x2) (k10 := k10) hn hp hl hF hP hb r m (k + 1) (by omega) (by omega)
    have lt : cI (k : Int) < cI (n : Int) := (k_lt (by omega) (by omega)).mpr (by omega)
    rw [← ih]
    by_cases z : unv mask k = true
    · have z2 : ((mask >>> (cI (k : Int) &&& 31)) &&& cI 1) = 0 := of_decide_eq_true z
      rw [fM_arrangeByNearest_h22, if_pos lt, if_pos z2]
      unfold fM_arrangeByNearest_b43
      rw [if_neg (show ¬ cI 1 = 0 by decide)]
      simp only [fM_arrangeByNearest_b73, fM_arrangeByNearest_b78, fM_arrangeByNearest_b80]
      rw [k_s (by omega)]
      cases e : fam (d last) (unv mask) k with
      | none =>
        have e2 : fam (d last) (unv mask) (k + 1) = some k := by
          unfold fam
          rw [if_pos z, e]
        rw [e2, if_pos (show fbI none = cI (-1) from rfl)]
        rfl
      | some b' =>
        obtain ⟨g1, -⟩ := fam_at e
        rw [if_neg (fbI_ne (by omega)), hF last k hl (by omega), show fbI (some b') = cI (b' : Int) from rfl, hF last b' hl (by omega), bd1_some, bd1_some]
        by_cases w : d last k < d last b'
        · have e2 : fam (d last) (unv mask) (k + 1) = some k := by
            unfold fam
            rw [if_pos z, e]
            simp only [if_pos w]
          rw [e2, if_pos w]
          rfl
        · have e2 : fam (d last) (unv mask) (k + 1) = some b' := by
            unfold fam
            rw [if_pos z, e]
            simp only [if_neg w]
          rw [e2, if_neg w]
          rfl
    · have z2 : ¬ ((mask >>> (cI (k : Int) &&& 31)) &&& cI 1) = 0 := fun w => z (decide_eq_true w)
      have e2 : fam (d last) (unv mask) (k + 1) = fam (d last) (unv mask) k := by
        show (if unv mask k = true then _ else _) = _
        rw [if_neg z]
      rw [e2, fM_arrangeByNearest_h22, if_pos lt, if_neg z2]
      unfold fM_arrangeByNearest_b43
      rw [if_pos (show cI 0 = 0 by decide)]
      simp only [fM_arrangeByNearest_b78, fM_arrangeByNearest_b80]
      rw [k_s (by omega)]
def oN (o : Nat → Nat) (p b q : Nat) : Nat := if q = p then o b else if p < q ∧ q ≤ b then o (q - 1) else o q
theorem nr_lp {a : Int32} {n : Nat} {P : Nat → Nat} {d : Nat → Nat → Int32} (hn : n ≤ 20) (ha : inb a 12 = true) (hd : Dn d n) (hc : ∀ q, q < n → d n q = d q n) (hJ : ∀ q q', q < n → q' < n → P q = P q' → q = q') : ∀ (r m m' p : Nat) (s t : ev_M) (o : Nat → Nat) (mask : Int32), p + r = n → r < m → r < m' → s.1 143 (ix a) = cI (n : Int) → Gq s a n P d → (∀ q, q < n → s.1 (146 + ix a) q = cI (P (o q) : Int)) → Fg t n d → (∀ q, q < n → t.1 664 q = cI (P q : Int) ∧ P q < 120) → (∀ q, q < n → o q < n) → (∀ q q', p ≤ q → q < q' → q' < n → o q < o q') → (∀ k, k < n → (unv mask k = true ↔ ∃ q, p ≤ q ∧ q < n ∧ o q = k)) → (∀ q, q < p → unv mask (o q) = false) → (∀ q, q < p → t.1 572 (P (o q)) = cI (q : Int)) → ∃ (o' : Nat → Nat) (s' t' : ev_M), fRounds_goToNearest_h9 m s a (ix a) (cI (p : Int)) = some s' ∧ fM_arrangeByNearest_h10 m' t (cI (n : Int)) (sp d n o p) (cI (lst n o p : Int)) mask (cI (p : Int)) = some (t', sp d n o' n + d (lst n o' n) n) ∧ (∀ q, q < n → s'.1 (146 + ix a) q = cI (P (o' q) : Int)) ∧ (∀ q, n ≤ q → s'.1 (146 + ix a) q = s.1 (146 + ix a) q) ∧ (∀ q, q < n → o' q < n) ∧ (∀ q, q < n → t'.1 572 (P (o' q)) = cI (q : Int)) ∧ (∀ i, (∀ q, q < n → i ≠ P (o' q)) → t'.1 572 i = t.1 572 i) ∧ (∀ q, q < p → o' q = o q) ∧ (∀ c, c ≠ 146 + ix a → s'.1 c = s.1 c) ∧ fr [(146, 157, 0)] s s' ∧ fr [(572, 572, 0)] t t'
  | 0, m, m', p, s, t, o, mask, hp, hm, hm', h3, hG, hR, hF, hP, i1, i2, i3, i5, i4 => by
    obtain ⟨m, rfl⟩ : ∃ k, m = k + 1 := ⟨m - 1, by omega⟩
    obtain ⟨m', rfl⟩ : ∃ k, m' = k + 1 := ⟨m' - 1, by omega⟩
    have e : p = n := by omega
    subst e
    have ll : lst p o p ≤ p := by
      cases p with
      | zero => exact Nat.le_refl _
      | succ p => have := i1 p (by omega); show o p ≤ p + 1; omega
    refine ⟨o, s, t, ?_, ?_, hR, fun _ _ => rfl, i1, i4, fun _ _ => rfl, fun _ _ => rfl, fun _ _ => rfl, fr.rf, fr.rf⟩
    · have e3 : s.1 (140 + ix (cI 3)) (ix a) = cI (p : Int) := by rw [ix_3]; exact h3
      rw [fRounds_goToNearest_h9, if_pos ha, e3, if_neg (by rw [k_lt (by omega) (by omega)]; omega)]
    · rw [fM_arrangeByNearest_h10, if_neg (by rw [k_lt (by omega) (by omega)]; omega), hF _ p ll (Nat.le_refl _), bd1_some]
  | r + 1, m, m', p, s, t, o, mask, hp, hm, hm', h3, hG, hR, hF, hP, i1, i2, i3, i5, i4 => by
    obtain ⟨m, rfl⟩ : ∃ k, m = k + 1 := ⟨m - 1, by omega⟩
    obtain ⟨m', rfl⟩ : ∃ k, m' = k + 1 := ⟨m' - 1, by omega⟩
    have al := inb_lt ha
    have lt : cI (p : Int) < cI (n : Int) := (k_lt (by omega) (by omega)).mpr (by omega)
    have ll : lst n o p ≤ n := by
      cases p with
      | zero => exact Nat.le_refl _
      | succ p => have := i1 p (by omega); show o p ≤ n; omega
    have f0 : fam (fun q => d (lst n o p) (o q)) (fun q => decide (p ≤ q)) p = none := by
      cases e : fam (fun q => d (lst n o p) (o q)) (fun q => decide (p ≤ q)) p with
      | none => rfl
      | some b =>
        obtain ⟨w1, w2, -⟩ := fam_at e
        have w3 : p ≤ b := by simpa using w2
        omega
    obtain ⟨b, b1, b2, b3, b4, b5⟩ := ns_lp (k9 := fRounds_goToNearest_h9 m) hn ha hd hc h3 hG (by omega) i1 hR (n - p) 1048576 p (by omega) (by omega) (Nat.le_refl _)
    rw [f0] at b5
    have ub : unv mask (o b) = true := (i3 _ (i1 b b2)).mpr ⟨b, b1, b2, rfl⟩
    obtain ⟨b', hb'⟩ := fam_some (g := d (lst n o p)) (m := unv mask) (c := n) (i1 b b2) ub
    have eb : b' = o b := by
      obtain ⟨w1, w2, w3, w4⟩ := fam_at hb'
      obtain ⟨q, g1, g2, g3⟩ := (i3 _ w1).mp w2
      by_cases v : q < b
      · have := b4 q g1 v
        have := w3 (o b) (i1 b b2) ub
        rw [g3] at *
        omega
      · by_cases v2 : q = b
        · rw [← g3, v2]
        · have l1 := i2 b q b1 (by omega) g2
          rw [g3] at l1
          have l2 := w4 (o b) l1 ub
          have l3 := b3 q g1 g2
          rw [g3] at l3
          omega
    subst eb
    have a0 := ne_lp (p := p) (P := P) (x2 := sp d n o p) (k10 := fM_arrangeByNearest_h10 m') hn (by omega) ll hF hP hb' n 1048576 0 (by omega) (by omega)
    obtain ⟨s1, c1, c2, c3, c4⟩ := sh_lp (x1 := a) (v := cI (P (o b) : Int)) (k9 := fRounds_goToNearest_h9 m) (p := p) al (b - p) 1048576 s (by omega) (by omega)
    rw [show p + (b - p) = b by omega] at c1 c2
    have n2 : ∀ q, q < n → oN o p b q < n := fun q hq => by
      unfold oN
      split
      · exact i1 b b2
      · split
        · exact i1 _ (by omega)
        · exact i1 q hq
    have nlt : ∀ q, q < p → oN o p b q = o q := fun q hq => by
      unfold oN
      rw [if_neg (by omega), if_neg (by omega)]
    have np : oN o p b p = o b := by
      unfold oN
      rw [if_pos rfl]
    have nup : ∀ q, p < q → oN o p b q = if q ≤ b then o (q - 1) else o q := fun q hq => by
      unfold oN
      rw [if_neg (by omega)]
      by_cases v : q ≤ b
      · rw [if_pos ⟨hq, v⟩, if_pos v]
      · rw [if_neg (fun z => v z.2), if_neg v]
    obtain ⟨o', s', t', e1, e2, e3, e4, e5, e6, e7, e8, e9, e10, e11⟩ := nr_lp hn ha hd hc hJ r m m' (p + 1) s1 (wI t 572 (P (o b)) (cI (p : Int))) (oN o p b) (mask ||| (cI 1 <<< (cI (o b : Int) &&& 31))) (by omega) (by omega) (by omega) (by rw [c3 143 (by omega)]; exact h3) (hG.cg (fun c hc => c3 c (by omega))) (fun q hq => by
      rw [c2 q]
      unfold oN
      by_cases v : q = p
      · rw [if_pos v, if_pos v]
      · rw [if_neg v, if_neg v]
        by_cases v2 : p < q ∧ q ≤ b
        · rw [if_pos v2, if_pos v2]; exact hR _ (by omega)
        · rw [if_neg v2, if_neg v2]; exact hR q hq) (hF.cg (wI_ne (by decide)) (wI_ne (by decide))) (fun q hq => by rw [wI_ne (by decide)]; exact hP q hq) n2 (fun q q' h1 h2 h4 => by
      rw [nup q (by omega), nup q' (by omega)]
      by_cases v : q ≤ b
      · rw [if_pos v]
        by_cases v2 : q' ≤ b
        · rw [if_pos v2]; exact i2 _ _ (by omega) (by omega) (by omega)
        · rw [if_neg v2]; exact i2 _ _ (by omega) (by omega) (by omega)
      · rw [if_neg v, if_neg (by omega)]
        exact i2 _ _ (by omega) (by omega) (by omega)) (fun k hk => by
      have ob := i1 b b2
      rw [unv_or (by omega) (by omega), Bool.and_eq_true, i3 k hk, decide_eq_true_iff]
      constructor
      · rintro ⟨⟨q, g1, g2, g3⟩, g4⟩
        by_cases v : q < b
        · refine ⟨q + 1, by omega, by omega, ?_⟩
          rw [nup (q + 1) (by omega), if_pos (by omega), Nat.add_sub_cancel]; exact g3
        · have : q ≠ b := fun w => g4 (by rw [← g3, w])
          refine ⟨q, by omega, g2, ?_⟩
          rw [nup q (by omega), if_neg (by omega)]; exact g3
      · rintro ⟨q, g1, g2, g3⟩
        rw [nup q (by omega)] at g3
        by_cases v : q ≤ b
        · rw [if_pos v] at g3
          refine ⟨⟨q - 1, by omega, by omega, g3⟩, ?_⟩
          have := i2 (q - 1) b (by omega) (by omega) b2
          omega
        · rw [if_neg v] at g3
          refine ⟨⟨q, by omega, g2, g3⟩, ?_⟩
          have := i2 b q b1 (by omega) g2
          omega) (fun q hq => by
      have ob := i1 b b2
      by_cases v : q = p
      · rw [v, np, unv_or (by omega) (by omega), show decide (o b ≠ o b) = false by simp, Bool.and_false]
      · rw [nlt q (by omega), unv_or (by omega) (by have := i1 q (by omega); omega), i5 q (by omega), Bool.false_and]) (fun q hq => by
      rw [wI_c]
      by_cases v : q = p
      · rw [v, np, up1_eq]
      · rw [nlt q (by omega), up1_ne (fun w => by
          have := hJ _ _ (i1 q (by omega)) (i1 b b2) w
          have u := i5 q (by omega)
          rw [this, ub] at u
          cases u)]
        exact i4 q (by omega))
    refine ⟨o', s', t', ?_, ?_, e3, fun q hq => by rw [e4 q hq, c2 q, if_neg (by omega), if_neg (by omega)], e5, e6, fun i hi => ?_, fun q hq => by rw [e8 q (by omega), nlt q hq], fun c hc => by rw [e9 c hc, c3 c hc], c4.tr e10, (fr.rf.wI rfl).tr e11⟩
    · have e3 : s.1 (140 + ix (cI 3)) (ix a) = cI (n : Int) := by rw [ix_3]; exact h3
      rw [fRounds_goToNearest_h9, if_pos ha, e3, if_pos lt]
      exact (b5.trans c1).trans e1
    · rw [fM_arrangeByNearest_h10, if_pos lt]
      refine a0.trans ?_
      have w1 : sp d n (oN o p b) (p + 1) = sp d n o p + d (lst n o p) (o b) := by
        show sp d n (oN o p b) p + d (lst n (oN o p b) p) (oN o p b p) = _
        rw [sp_cg nlt, lst_cg nlt, np]
      have w2 : lst n (oN o p b) (p + 1) = o b := np
      rw [w1, w2] at e2
      exact e2
    · rw [e7 i hi, wI_c, up1_ne (by have := hi p (by omega); rw [e8 p (by omega), np] at this; exact this)]
