/-! ===== LEVEL 3: the sheet: changes from a word to a name ===== -/
/-- the row of changes, in both: below j for the letter read, from j on for the one before -/
def RwD (len B j : Nat) (s t : ev_M) : Prop := ∀ i, i ≤ len → ∃ d : Nat, s.1 77 i = cI (d : Int) ∧ t.1 659 i = cI (d : Int) ∧ d ≤ B + (if i < j then 1 else 0)
theorem dp_in {len B e q : Nat} {x3 x4 lt : Int32} {k42 : ev_M → Int32 → Int32 → Int32 → Option (ev_M × Int32)} {k99 : ev_M → Int32 → Int32 → Int32 → Int32 → Option (ev_M × Int32)} (hlen : len ≤ 10) (hB : B < 1000) (hq : q < 200) : ∀ (r m m' j dg : Nat) (s t : ev_M), j + r = len + 1 → 1 ≤ j → r < m → r < m' → RwD len B j s t → dg ≤ B → (∀ i, i < len → s.1 76 i = t.1 658 i) → s.1 74 q = lt → ∃ s' t', fSheet_changesTo_h69 k42 m s (cI (e : Int)) (cI (len : Int)) (cI (q : Int)) (cI (dg : Int)) (cI (j : Int)) = k42 s' (cI (e : Int)) (cI (len : Int)) (cI ((q + 1 : Nat) : Int)) ∧ fM_changes_h146 k99 m' t x3 x4 (cI (len : Int)) (cI (q : Int)) lt (cI (dg : Int)) (cI (j : Int)) = k99 t' x3 x4 (cI (len : Int)) (cI ((q + 1 : Nat) : Int)) ∧ RwD len B (len + 1) s' t' ∧ fr [(77, 77, 0)] s s' ∧ fr [(659, 659, 0)] t t' ∧ s'.1 77 0 = s.1 77 0 ∧ t'.1 659 0 = t.1 659 0
  | 0, m, m', j, dg, s, t, hj, hj1, hm, hm', R, hd, hn, hl => by
    obtain ⟨m, rfl⟩ : ∃ k, m = k + 1 := ⟨m - 1, by omega⟩
    obtain ⟨m', rfl⟩ : ∃ k, m' = k + 1 := ⟨m' - 1, by omega⟩
    have nl : ¬ cI (j : Int) ≤ cI (len : Int) := by rw [le_i, q_ti (by omega), q_ti (by omega)]; omega
    refine ⟨s, t, ?_, ?_, ?_, fr.rf, fr.rf, rfl, rfl⟩
    · rw [fSheet_changesTo_h69, if_neg nl, q_s (by omega)]
    · rw [fM_changes_h146, if_neg nl, q_s (by omega)]
    · rw [show j = len + 1 by omega] at R; exact R
  | r + 1, m, m', j, dg, s, t, hj, hj1, hm, hm', R, hd, hn, hl => by
    obtain ⟨m, rfl⟩ : ∃ k, m = k + 1 := ⟨m - 1, by omega⟩
    obtain ⟨m', rfl⟩ : ∃ k, m' = k + 1 := ⟨m' - 1, by omega⟩
    have yl : cI (j : Int) ≤ cI (len : Int) := by rw [le_i, q_ti (by omega), q_ti (by omega)]; omega
    have jb : inb (cI (j : Int)) 11 = true := q_in (by omega) (by decide)
    have jx : ix (cI (j : Int)) = j := q_ix (by omega)
    have e1 : cI (j : Int) - cI 1 = cI ((j - 1 : Nat) : Int) := q_sb (b := 1) (by omega) (by omega)
    have pb : inb (cI ((j - 1 : Nat) : Int)) 11 = true := q_in (by omega) (by decide)
    have pb0 : inb (cI ((j - 1 : Nat) : Int)) 10 = true := q_in (by omega) (by decide)
    have px : ix (cI ((j - 1 : Nat) : Int)) = j - 1 := q_ix (by omega)
    have qb : inb (cI (q : Int)) 200 = true := q_in (by omega) (by decide)
    have qx : ix (cI (q : Int)) = q := q_ix (by omega)
    obtain ⟨o, o1, o2, o3⟩ := R j (by omega)
    obtain ⟨p, p1, p2, p3⟩ := R (j - 1) (by omega)
    rw [if_neg (Nat.lt_irrefl j)] at o3
    rw [if_pos (show j - 1 < j by omega)] at p3
    have step : ∀ c : Nat, c ≤ 1 → ∃ s' t', fSheet_changesTo_b105 k42 (fSheet_changesTo_h69 k42 m) s (cI (e : Int)) (cI (len : Int)) (cI (q : Int)) (cI (j : Int)) (cI (dg : Int)) (cI (c : Int)) = k42 s' (cI (e : Int)) (cI (len : Int)) (cI ((q + 1 : Nat) : Int)) ∧ fM_changes_b174 k99 (fM_changes_h146 k99 m') t x3 x4 (cI (len : Int)) (cI (q : Int)) lt (cI (j : Int)) (cI (dg : Int)) (cI (c : Int)) = k99 t' x3 x4 (cI (len : Int)) (cI ((q + 1 : Nat) : Int)) ∧ RwD len B (len + 1) s' t' ∧ fr [(77, 77, 0)] s s' ∧ fr [(659, 659, 0)] t t' ∧ s'.1 77 0 = s.1 77 0 ∧ t'.1 659 0 = t.1 659 0 := by
      intro c hc
      obtain ⟨V, eV⟩ : ∃ V, V = min (dg + c) (1 + min o p) := ⟨_, rfl⟩
      have f1 : fr [(77, 77, 0)] s (wI s 77 j (cI (V : Int))) := fr.rf.wI rfl
      have f2 : fr [(659, 659, 0)] t (wI t 659 j (cI (V : Int))) := fr.rf.wI rfl
      obtain ⟨s', t', g1, g2, g3, g4, g5, g6, g7⟩ := dp_in (e := e) (x3 := x3) (x4 := x4) (lt := lt) (k42 := k42) (k99 := k99) hlen hB hq r m m' (j + 1) o (wI s 77 j (cI (V : Int))) (wI t 659 j (cI (V : Int))) (by omega) (by omega) (by omega) (by omega) (fun i hi => by
        by_cases z : i = j
        · refine ⟨V, by rw [wI_c, z, up1_eq], by rw [wI_c, z, up1_eq], ?_⟩
          rw [if_pos (show i < j + 1 by omega)]
          omega
        · obtain ⟨d, d1, d2, d3⟩ := R i hi
          refine ⟨d, by rw [wI_c, up1_ne z]; exact d1, by rw [wI_c, up1_ne z]; exact d2, ?_⟩
          by_cases y : i < j
          · rw [if_pos y] at d3
            rw [if_pos (show i < j + 1 by omega)]; exact d3
          · rw [if_neg y] at d3
            rw [if_neg (show ¬ i < j + 1 by omega)]; exact d3) (by omega) (fun i hi => by rw [wI_ne (by decide), wI_ne (by decide)]; exact hn i hi) (by rw [wI_ne (by decide)]; exact hl)
      refine ⟨s', t', ?_, ?_, g3, f1.tr g4, f2.tr g5, g6.trans (by rw [wI_c, up1_ne (by omega)]), g7.trans (by rw [wI_c, up1_ne (by omega)])⟩
      · rw [← g1]
        unfold fSheet_changesTo_b105
        simp only [ltI_eq, if_pos jb, e1, if_pos pb, jx, px, o1, p1]
        rw [q_mn (by omega) (by omega), bd1_some, show cI 1 + cI ((min o p : Nat) : Int) = cI ((1 + min o p : Nat) : Int) from q_ad (a := 1) (by omega), q_ad (by omega), q_mn (by omega) (by omega), bd1_some, ltM_eq, ← eV, q_s (by omega)]
      · rw [← g2]
        unfold fM_changes_b174 fM_changes_b205 fM_changes_b239
        simp only [ltI_eq, if_pos jb, e1, if_pos pb, jx, px, o2, p2, ltM_eq]
        rw [q_ad (show dg + c < 100000 by omega), q_s (show o < 99999 by omega), q_s (show p < 99999 by omega), q_s (show j < 99999 by omega)]
        by_cases z1 : o + 1 < dg + c
        · rw [if_pos ((q_lt (by omega) (by omega)).mpr z1)]
          by_cases z2 : p + 1 < o + 1
          · rw [if_pos ((q_lt (by omega) (by omega)).mpr z2), show V = p + 1 by omega]
          · rw [if_neg (fun u => z2 ((q_lt (by omega) (by omega)).mp u)), show V = o + 1 by omega]
        · rw [if_neg (fun u => z1 ((q_lt (by omega) (by omega)).mp u))]
          by_cases z2 : p + 1 < dg + c
          · rw [if_pos ((q_lt (by omega) (by omega)).mpr z2), show V = p + 1 by omega]
          · rw [if_neg (fun u => z2 ((q_lt (by omega) (by omega)).mp u)), show V = dg + c by omega]
    rw [fSheet_changesTo_h69, if_pos yl, if_pos qb, e1, if_pos pb0, qx, px, show 68 + ix (cI 6) = 74 from rfl, hl, fM_changes_h146, if_pos yl, e1, if_pos pb0, px, ← hn (j - 1) (by omega)]
    by_cases z : lt = s.1 76 (j - 1)
    · rw [if_pos z, if_pos z.symm]
      exact step 0 (by decide)
    · rw [if_neg z, if_neg (fun u => z u.symm)]
      exact step 1 (by decide)
