/-! ===== LEVEL 3: the items that are to be sorted, class and reference ===== -/
/-- of the first j items those that are to be sorted lie in the row -/
def RGa (L : List Nat) (j : Nat) (s t : ev_M) : Prop := L.Nodup ∧ (∀ x, x ∈ L → x < j) ∧ (s.1 138 12).toInt = (L.length : Int) ∧ t.1 549 166 = s.1 138 12 ∧ (∀ q (h : q < L.length), s.1 174 q = cI ((L[q] : Nat) : Int) ∧ t.1 668 q = cI ((L[q] : Nat) : Int)) ∧ (∀ x, x ∈ L → s.1 102 x = cI 1 ∧ ¬ s.1 109 x = cI (-1) ∧ s.1 179 x = cI 0 ∧ Has (t.1 670 x) (s.1 30 9) ∧ s.1 177 x = t.1 572 (ix (t.1 670 x)) ∧ 0 ≤ (s.1 177 x).toInt ∧ (s.1 177 x).toInt < 20) ∧ (∀ x, x < 300 → t.1 610 x = 0)
theorem RGa.keep {L : List Nat} {j : Nat} {s t s' t' : ev_M} {A B : List (Nat × (Nat × Nat))} (h : RGa L j s t) (hs : fr A s s') (ht : fr B t t') (d1 : nof A [(138, 13), (174, 0), (102, 0), (109, 0), (179, 0), (30, 10), (177, 0)] = true) (d2 : nof B [(549, 167), (668, 0), (670, 0), (572, 0), (610, 0)] = true) : RGa L j s' t' := by
  have e1 : s'.1 138 12 = s.1 138 12 := (nof_s hs d1 (c := 138) (k := 12) rfl).1
  have e2 : t'.1 549 166 = t.1 549 166 := (nof_s ht d2 (c := 549) (k := 166) rfl).1
  have e3 : s'.1 174 = s.1 174 := (nof_c hs d1 (c := 174) rfl).1
  have e4 : s'.1 102 = s.1 102 := (nof_c hs d1 (c := 102) rfl).1
  have e5 : s'.1 109 = s.1 109 := (nof_c hs d1 (c := 109) rfl).1
  have e6 : s'.1 179 = s.1 179 := (nof_c hs d1 (c := 179) rfl).1
  have e7 : s'.1 30 9 = s.1 30 9 := (nof_s hs d1 (c := 30) (k := 9) rfl).1
  have e8 : s'.1 177 = s.1 177 := (nof_c hs d1 (c := 177) rfl).1
  have e9 : t'.1 668 = t.1 668 := (nof_c ht d2 (c := 668) rfl).1
  have e10 : t'.1 670 = t.1 670 := (nof_c ht d2 (c := 670) rfl).1
  have e11 : t'.1 572 = t.1 572 := (nof_c ht d2 (c := 572) rfl).1
  have e12 : t'.1 610 = t.1 610 := (nof_c ht d2 (c := 610) rfl).1
  unfold RGa at h ⊢
  rw [e1, e2, e3, e4, e5, e6, e7, e8, e9, e10, e11, e12]
  exact h
/-- an item that is not to be sorted -/
theorem RGa.skip {L : List Nat} {j : Nat} {s t s' t' : ev_M} {v : Int32} {A : List (Nat × (Nat × Nat))} (h : RGa L j s t) (hs : fr A s s') (d1 : nof A [(138, 13), (174, 0), (102, 0), (109, 0), (179, 0), (30, 10), (177, 0)] = true) (e1 : t'.1 549 166 = t.1 549 166) (e2 : t'.1 668 = t.1 668) (e3 : t'.1 670 = up1 (t.1 670) j v) (e4 : t'.1 572 = t.1 572) (e5 : t'.1 610 = up1 (t.1 610) j (cI 0)) : RGa L (j + 1) s' t' := by
  obtain ⟨a1, a2, a3, a4, a5, a6, a7⟩ := h.keep hs rf_fr d1 rfl
  unfold RGa
  rw [e1, e2, e3, e4, e5]
  refine ⟨a1, fun x hx => by have := a2 x hx; omega, a3, a4, a5, fun x hx => ?_, fun x hx => ?_⟩
  · have := a2 x hx
    rw [up1_ne (by omega)]
    exact a6 x hx
  · by_cases z : x = j
    · rw [z, up1_eq]; rfl
    · rw [up1_ne z]; exact a7 x hx
def FgaC : List (Nat × (Nat × Nat)) := FgC ++ [(138, 138, 13), (174, 174, 0), (177, 177, 0), (179, 179, 0)]
def FgaM : List (Nat × (Nat × Nat)) := FgM ++ [(549, 549, 167), (668, 668, 0), (670, 670, 0), (610, 610, 0)]
theorem gr_hC {n x : Nat} {s s1 : ev_M} {a j v : Int32} (jn : j < s.1 100 5) (hb : inb j 300 = true) (ej : ix j = x) (c1 : s.1 102 x = cI 1) (hc : inb a 12 = true) (c2 : s.1 110 x = s.1 140 (ix a)) (d1 : fItems_goalOf s j = some (s1, v)) (p2 : 0 ≤ (s1.1 30 9).toInt) : fRounds_gather_h7 (n + 1) s a j = (if Has v (s1.1 30 9) then (if inb v 120 = true then (if s1.1 158 (ix v) = a then (bd1 (fRounds_placeAmong s1 a v) fun v8 => fRounds_gather_h125 (fRounds_gather_h7 n) 1048576 (wI (wI (wI s1 177 x v8) 179 x (cI 0)) 138 12 (s1.1 138 12 + cI 1)) a j (s1.1 138 12)) else fRounds_gather_h7 n s1 a (j + cI 1)) else none) else fRounds_gather_h7 n s1 a (j + cI 1)) := by
  rw [fRounds_gather_h7]
  generalize fRounds_gather_h125 (fRounds_gather_h7 n) 1048576 = H
  generalize fRounds_placeAmong = P
  rw [if_pos jn, fItems_is, if_pos hb, ix_0, ej, if_pos c1, bd1_some, if_neg (show ¬ cI 1 = 0 by decide), if_pos hb, if_pos hc, ix_8, if_pos c2, d1, bd2_some, e_hasPoint p2, bd1_some, ite_bI, fRounds_gather_b177]
  have e : (fun v8 => if inb j 300 = true then ltM (wI s1 (177 + ix (cI 0)) (ix j) v8) fun s9 => if inb j 300 = true then ltM (wI s9 (177 + ix (cI 2)) (ix j) (cI 0)) fun s10 => ltM (wI s10 138 12 (s10.1 138 12 + cI 1)) fun s11 => ltI (s10.1 138 12) fun v12 => H s11 a j v12 else none else none) = fun v8 => H (wI (wI (wI s1 177 x v8) 179 x (cI 0)) 138 12 (s1.1 138 12 + cI 1)) a j (s1.1 138 12) := by
    funext v8
    rw [if_pos hb, ltM_eq, if_pos hb, ltM_eq, ltM_eq, ltI_eq, ix_0, ix_2, ej]
    rw [wI_ne (show 138 ≠ 179 by decide), wI_ne (show 138 ≠ 177 by decide)]
  rw [ix_0, ej] at e
  dsimp only
  rw [e]
theorem gr_hM {n x : Nat} {s s1 : ev_M} {a j v : Int32} (jn : j < s.1 549 58) (hb : inb j 300 = true) (ej : ix j = x) (w1 : (wI s 610 x (cI 0)).1 583 x = cI 1) (hc : inb a 12 = true) (c2 : (wI s 610 x (cI 0)).1 591 x = (wI s 610 x (cI 0)).1 607 (ix a)) (d2 : fM_goalOf (wI s 610 x (cI 0)) j = some (s1, v)) : fM_findFed_h7 (n + 1) s a j = (if v < 0 then fM_findFed_h7 n (wI s1 670 x v) a (j + cI 1) else if inb v 120 = true then (if (wI s1 670 x v).1 571 (ix v) = a then fM_findFed_h91 (fM_findFed_h7 n) 1048576 (wI s1 670 x v) a j ((wI s1 670 x v).1 549 166) else fM_findFed_h7 n (wI s1 670 x v) a (j + cI 1)) else none) := by
  rw [fM_findFed_h7]
  unfold fM_findFed_b61
  generalize fM_findFed_h91 (fM_findFed_h7 n) 1048576 = H
  rw [if_pos jn, if_pos hb, ltM_eq, show cI 0 &&& 1 = cI 0 by decide, ej, if_pos hb, if_pos w1, if_pos hb, if_pos hc, if_pos c2, d2, bd2_some, if_pos hb, ltM_eq, if_pos hb, wI_c, up1_eq, if_pos hb, ltI_eq, fM_findFed_b154]
theorem gr_lp {a : Int32} {N : Nat} : ∀ (r n n' x g : Nat) (L : List Nat) (s t : ev_M) (j : Int32), j.toInt = (x : Int) → x + r = ix (s.1 100 5) → r < n → r < n' → g + r < 2147483647 → RGa L x s t → RIt s t → RIr s t → RCo N s t → RSx s t → RCu s t → ROr s t → RTim s t → RPo s t → RSp s t → RRo s t → RAk g s t → Has a (s.1 138 3) → ∃ L' s' t', fRounds_gather_h7 n s a j = some s' ∧ fM_findFed_h7 n' t a j = fM_findFed_h162 1048576 t' (cI 0) ∧ RGa L' (ix (s.1 100 5)) s' t' ∧ RAk (g + r) s' t' ∧ fr FgaC s s' ∧ fr FgaM t t'
  | 0, n, n', x, g, L, s, t, j, hj, hx, hn, hn', hg, hA, hI, hR, hC, hS, hU, ho, ht, hP, hp, hr, hk, ha => by
    obtain ⟨n, rfl⟩ : ∃ k, n = k + 1 := ⟨n - 1, by omega⟩
    obtain ⟨n', rfl⟩ : ∃ k, n' = k + 1 := ⟨n' - 1, by omega⟩
    obtain ⟨⟨n1, n2, n3⟩, -⟩ := id hI
    have e5 := ix_toNat (s.1 100 5)
    have jn : ¬ j < s.1 100 5 := by rw [lt_i]; omega
    have ex : x = ix (s.1 100 5) := by omega
    refine ⟨L, s, t, ?_, ?_, by rw [← ex]; exact hA, hk, fr.rf, fr.rf⟩
    · rw [fRounds_gather_h7, if_neg jn]
    · rw [fM_findFed_h7, n1, if_neg jn]
  | r + 1, n, n', x, g, L, s, t, j, hj, hx, hn, hn', hg, hA, hI, hR, hC, hS, hU, ho, ht, hP, hp, hr, hk, ha => by
    obtain ⟨n, rfl⟩ : ∃ k, n = k + 1 := ⟨n - 1, by omega⟩
    obtain ⟨n', rfl⟩ : ∃ k, n' = k + 1 := ⟨n' - 1, by omega⟩
    obtain ⟨⟨n1, n2, n3⟩, g1, -⟩ := id hI
    obtain ⟨⟨m1, m2, m3⟩, o1, -⟩ := id hr
    obtain ⟨⟨p1, p2, p3⟩, -⟩ := id hP
    have e5 := ix_toNat (s.1 100 5)
    have jn : j < s.1 100 5 := by rw [lt_i]; omega
    have hb : inb j 300 = true := inb_iff.mpr ⟨by omega, by omega⟩
    have ej : ix j = x := by rw [ix_toNat]; omega
    have et : (j + cI 1).toInt = ((x + 1 : Nat) : Int) := by rw [inc_i (by omega)]; omega
    have jc : j = cI (x : Int) := by rw [eq_i, cI_toInt (by omega) (by omega)]; exact hj
    have hI2 : Has j (s.1 100 5) := ⟨by omega, by omega⟩
    have xl : x < ix (s.1 100 5) := by omega
    have q1 := g1 x xl
    have q10 := hR.1 x xl
    have hc : inb a 12 = true := ha.inb m3
    have q7 := o1 _ ha.ix
    -- what comes after an item
    have next : ∀ (L1 : List Nat) (s1 t1 : ev_M), fr FgaC s s1 → fr FgaM t t1 → RGa L1 (x + 1) s1 t1 → RAk (g + 1) s1 t1 → ∃ L' s' t', fRounds_gather_h7 n s1 a (j + cI 1) = some s' ∧ fM_findFed_h7 n' t1 a (j + cI 1) = fM_findFed_h162 1048576 t' (cI 0) ∧ RGa L' (ix (s.1 100 5)) s' t' ∧ RAk (g + (r + 1)) s' t' ∧ fr FgaC s s' ∧ fr FgaM t t' := fun L1 s1 t1 f1 f2 a1 k1 => by
      have x5 : s1.1 100 5 = s.1 100 5 := (f1.1 100 5 (by decide +kernel)).1
      have x3 : s1.1 138 3 = s.1 138 3 := (f1.1 138 3 (by decide +kernel)).1
      obtain ⟨L', s', t', y1, y2, y3, y4, y5, y6⟩ := gr_lp (a := a) (N := N) r n n' (x + 1) (g + 1) L1 s1 t1 (j + cI 1) et (by rw [x5]; omega) (by omega) (by omega) (by omega) a1 (hI.keep f1 f2 (by decide +kernel) (by decide +kernel)) (hR.keep f1 f2 (by decide +kernel) (by decide +kernel)) (hC.keep f1 f2 (by decide +kernel) (by decide +kernel)) (hS.keep f1 f2 (by decide +kernel) (by decide +kernel)) (hU.keep f1 f2 (by decide +kernel) (by decide +kernel)) (ho.keep f1 f2 (by decide +kernel) (by decide +kernel)) (ht.keep f1 f2 (by decide +kernel) (by decide +kernel)) (hP.keep f1 f2 (by decide +kernel) (by decide +kernel)) (hp.keep f1 f2 (by decide +kernel) (by decide +kernel)) (hr.keep f1 f2 (by decide +kernel) (by decide +kernel)) k1 (by rw [x3]; exact ha)
      rw [x5] at y3
      have en : g + 1 + r = g + (r + 1) := by omega
      rw [en] at y4
      exact ⟨L', s', t', y1, y2, y3, y4, f1.tr y5, f2.tr y6⟩
    have f0w : fr [(610, 610, 0), (670, 670, 0)] t (wI (wI t 610 x (cI 0)) 670 x (cI (-1))) := (fr.rf.wI rfl).wI rfl
    have a0w : RGa L (x + 1) s (wI (wI t 610 x (cI 0)) 670 x (cI (-1))) := hA.skip (v := cI (-1)) rf_fr rfl (by simp (disch := decide) only [ix_0, ix_1, ix_2, ix_3, ix_4, ix_5, ix_6, ix_7, ix_8, ix_9, ix_10, ix_11, ix_12, ix_13, ix_14, ix_15, ix_16, ix_17, ix_18, ix_19, ix_20, ix_21, Nat.reduceAdd, wI_c, wI_ne, wL_1, lupd_ne, up1_eq, up1_ne]) (by simp (disch := decide) only [ix_0, ix_1, ix_2, ix_3, ix_4, ix_5, ix_6, ix_7, ix_8, ix_9, ix_10, ix_11, ix_12, ix_13, ix_14, ix_15, ix_16, ix_17, ix_18, ix_19, ix_20, ix_21, Nat.reduceAdd, wI_c, wI_ne, wL_1, lupd_ne, up1_eq, up1_ne]) (by simp (disch := decide) only [ix_0, ix_1, ix_2, ix_3, ix_4, ix_5, ix_6, ix_7, ix_8, ix_9, ix_10, ix_11, ix_12, ix_13, ix_14, ix_15, ix_16, ix_17, ix_18, ix_19, ix_20, ix_21, Nat.reduceAdd, wI_c, wI_ne, wL_1, lupd_ne, up1_eq, up1_ne]) (by simp (disch := decide) only [ix_0, ix_1, ix_2, ix_3, ix_4, ix_5, ix_6, ix_7, ix_8, ix_9, ix_10, ix_11, ix_12, ix_13, ix_14, ix_15, ix_16, ix_17, ix_18, ix_19, ix_20, ix_21, Nat.reduceAdd, wI_c, wI_ne, wL_1, lupd_ne, up1_eq, up1_ne]) (by simp (disch := decide) only [ix_0, ix_1, ix_2, ix_3, ix_4, ix_5, ix_6, ix_7, ix_8, ix_9, ix_10, ix_11, ix_12, ix_13, ix_14, ix_15, ix_16, ix_17, ix_18, ix_19, ix_20, ix_21, Nat.reduceAdd, wI_c, wI_ne, wL_1, lupd_ne, up1_eq, up1_ne])
    have z01 : cI 0 &&& 1 = cI 0 := by decide
    have m0 : cI (-1) < (0 : Int32) := by decide
    by_cases c1 : s.1 102 x = cI 1
    rotate_left
    · obtain ⟨L', s', t', y1, y2, y3⟩ := next L s (wI (wI t 610 x (cI 0)) 670 x (cI (-1))) fr.rf (f0w.mono (by decide +kernel)) a0w (hk.up.keep rf_fr f0w rfl rfl)
      refine ⟨L', s', t', ?_, ?_, y3⟩
      · rw [fRounds_gather_h7, if_pos jn, fItems_is, if_pos hb, ix_0, ej, if_neg c1, bd1_some, if_pos (show cI 0 = 0 from rfl), fRounds_gather_b177]
        exact y1
      · have w1 : ¬ (wI t 610 x (cI 0)).1 583 x = cI 1 := by rw [wI_ne (by decide), q1]; exact c1
        rw [fM_findFed_h7, n1, if_pos jn, if_pos hb, ltM_eq, z01, ej, if_pos hb, if_neg w1, fM_findFed_b60, fM_findFed_b61, if_pos hb, ltM_eq, ej, if_pos hb, wI_c, up1_eq, if_pos m0, fM_findFed_b154]
        exact y2
    have w1 : (wI t 610 x (cI 0)).1 583 x = cI 1 := by rw [wI_ne (by decide), q1]; exact c1
    have w2 : (wI t 610 x (cI 0)).1 591 x = s.1 110 x := by rw [wI_ne (by decide)]; exact q10
    have w3 : (wI t 610 x (cI 0)).1 607 (ix a) = s.1 140 (ix a) := by rw [wI_ne (by decide)]; exact q7
    by_cases c2 : s.1 110 x = s.1 140 (ix a)
    rotate_left
    · obtain ⟨L', s', t', y1, y2, y3⟩ := next L s (wI (wI t 610 x (cI 0)) 670 x (cI (-1))) fr.rf (f0w.mono (by decide +kernel)) a0w (hk.up.keep rf_fr f0w rfl rfl)
      refine ⟨L', s', t', ?_, ?_, y3⟩
      · rw [fRounds_gather_h7, if_pos jn, fItems_is, if_pos hb, ix_0, ej, if_pos c1, bd1_some, if_neg (show ¬ cI 1 = 0 by decide), if_pos hb, if_pos hc, ix_8, if_neg c2, fRounds_gather_b177]
        exact y1
      · rw [fM_findFed_h7, n1, if_pos jn, if_pos hb, ltM_eq, z01, ej, if_pos hb, if_pos w1, if_pos hb, if_pos hc, w2, w3, if_neg c2, fM_findFed_b60, fM_findFed_b61, if_pos hb, ltM_eq, ej, if_pos hb, wI_c, up1_eq, if_pos m0, fM_findFed_b154]
        exact y2
    -- its goal
    have fw : fr [(610, 610, 0)] t (wI t 610 x (cI 0)) := fr.rf.wI rfl
    obtain ⟨s1, t1, v, d1, d2, d3, d4, d5, d6⟩ := (hk.keep rf_fr fw rfl rfl).itm (t := wI t 610 x (cI 0)) (i := j) (by omega) hI2 (hI.keep rf_fr fw rfl rfl) (hR.keep rf_fr fw rfl rfl) (hU.keep rf_fr fw rfl rfl) (ho.keep rf_fr fw rfl rfl) (ht.keep rf_fr fw rfl rfl) (hP.keep rf_fr fw rfl rfl)
    have fT : fr ((610, 610, 0) :: FgM) t t1 := (fw.mono (by decide +kernel)).tr (d6.mono (by decide +kernel))
    have f2w : fr [(670, 670, 0)] t1 (wI t1 670 x v) := fr.rf.wI rfl
    have fT2 : fr FgaM t (wI t1 670 x v) := (fT.mono (by decide +kernel)).tr (f2w.mono (by decide +kernel))
    have fC1 : fr FgaC s s1 := d5.mono (by decide +kernel)
    have b610 : (wI t1 670 x v).1 610 = up1 (t.1 610) x (cI 0) := by rw [wI_ne (by decide), (nof_c d6 (L := [(610, 0)]) rfl (c := 610) rfl).1, wI_c]
    have b670 : (wI t1 670 x v).1 670 = up1 (t.1 670) x v := by rw [wI_c, (nof_c fT (L := [(670, 0)]) rfl (c := 670) rfl).1]
    have b668 : (wI t1 670 x v).1 668 = t.1 668 := by rw [wI_ne (by decide), (nof_c fT (L := [(668, 0)]) rfl (c := 668) rfl).1]
    have b572 : (wI t1 670 x v).1 572 = t.1 572 := by rw [wI_ne (by decide), (nof_c fT (L := [(572, 0)]) rfl (c := 572) rfl).1]
    have b571 : (wI t1 670 x v).1 571 = t.1 571 := by rw [wI_ne (by decide), (nof_c fT (L := [(571, 0)]) rfl (c := 571) rfl).1]
    have b166 : (wI t1 670 x v).1 549 166 = t.1 549 166 := by rw [wI_ne (by decide), (fT.1 549 166 rfl).1]
    have hA1 : RGa L (x + 1) s1 (wI t1 670 x v) := hA.skip (v := v) d5 rfl b166 b668 b670 b572 b610
    have hk1 : RAk (g + 1) s1 (wI t1 670 x v) := d3.keep rf_fr f2w rfl rfl
    have y9 : s1.1 30 9 = s.1 30 9 := (d5.1 30 9 rfl).1
    have y158 : s1.1 158 = s.1 158 := (nof_c d5 (L := [(158, 0)]) rfl (c := 158) rfl).1
    have headC := gr_hC (n := n) jn hb ej c1 hc c2 d1 (by rw [y9]; exact p2)
    rw [y9, y158] at headC
    have headM := gr_hM (n := n') (s := t) (by rw [n1]; exact jn) hb ej w1 hc (w2.trans (c2.trans w3.symm)) d2
    rw [b571, b166] at headM
    by_cases hv : Has v (s.1 30 9)
    rotate_left
    · have vn : v < 0 := by
        rcases d4 with ⟨z, -⟩ | ⟨z, z1, -, z3⟩
        · rw [z]; decide
        · rcases z3 with q | ⟨q, -⟩
          · rw [q] at hv; exact absurd z1 hv
          · rcases q with q | q <;> rw [q] <;> decide
      rw [headC, headM, if_neg hv, if_pos vn]
      exact next L s1 _ fC1 fT2 hA1 hk1
    have v0 := hv.1
    have vn : ¬ v < 0 := by rw [lt_i, i32_0]; omega
    have vb : inb v 120 = true := hv.inb p3
    have k2 := hp.2.2.1 _ hv.ix
    rw [headC, headM, if_pos hv, if_neg vn, if_pos vb, if_pos vb, k2]
    by_cases c3 : s.1 158 (ix v) = a
    rotate_left
    · rw [if_neg c3, if_neg c3]
      exact next L s1 _ fC1 fT2 hA1 hk1
    rw [if_pos c3, if_pos c3]
    have c9 : ¬ s.1 109 x = cI (-1) := fun z => by
      have nb : ¬ s.1 112 x = cI 1 := fun q => (hS x xl).2.2.2.1 (Or.inr (Or.inr (Or.inr q))) z
      have gx : fItems_goalOf s j = some (s, cI (-1)) := by
        simp only [fItems_goalOf, if_pos hb, ix_10, ix_7, Nat.reduceAdd, ej, if_neg nb, ltI_eq, if_pos z]
      rw [d1] at gx
      have := (Prod.mk.inj (Option.some.inj gx)).2
      rw [this] at v0
      exact absurd v0 (by decide)
    obtain ⟨a1, a2, a3, a4, a5, a6, a7⟩ := id hA1
    obtain ⟨z1, z2, z3⟩ := (hp.keep d5 fT (by decide +kernel) (by decide +kernel)).among (v := v) (a := a) (by rw [(d5.1 138 3 rfl).1]; exact m3) (by rw [y9]; exact hv) (by rw [(d5.1 138 3 rfl).1]; exact ha) (by rw [y158]; exact c3)
    have t572 : t1.1 572 = t.1 572 := (nof_c fT (L := [(572, 0)]) rfl (c := 572) rfl).1
    rw [t572] at z1 z2 z3
    have xL : x ∉ L := fun q => by have := hA.2.1 x q; omega
    have x300 : x < 300 := by omega
    have Ll : L.length < 300 := by
      have := nodup_le (n := 300) (List.nodup_cons.mpr ⟨xL, hA.1⟩) (fun y hy => by
        rcases List.mem_cons.mp hy with q | q
        · rw [q]; exact x300
        · have := hA.2.1 y q; omega)
      simp at this
      omega
    have fi : fr [(177, 177, 0), (179, 179, 0), (138, 138, 13)] s1 (wI (wI (wI s1 177 x (t.1 572 (ix v))) 179 x (cI 0)) 138 12 (s1.1 138 12 + cI 1)) := ((fr.rf.wI rfl).wI rfl).wI rfl
    have xi : (s1.1 138 12 + cI 1).toInt = (s1.1 138 12).toInt + 1 := inc_i (by omega)
    obtain ⟨p', s3, t3, u1, u2, u3, u4, u5, u6⟩ := gin_lp (a := a) (x := x) (L := L) (kC := fRounds_gather_h7 n) (kM := fM_findFed_h7 n') Ll x300 (fun y hy => by have := hA.2.1 y hy; omega) L.length 1048576 1048576 (wI (wI (wI s1 177 x (t.1 572 (ix v))) 179 x (cI 0)) 138 12 (s1.1 138 12 + cI 1)) (wI t1 670 x v) (s1.1 138 12) a3 (Nat.le_refl _) (by omega) (by omega) (by
      rw [(nof_c fi (L := [(174, 0)]) rfl (c := 174) rfl).1]
      exact Shf.top (fun q h => (a5 q h).1)) (Shf.top (fun q h => (a5 q h).2)) (fun y hy => by
      have yl : y < ix (s.1 100 5) := by have := hA.2.1 y hy; omega
      have o := hC.2.2.2.2.1 x y xl yl
      rw [(nof_c fi (L := [(119, 0)]) rfl (c := 119) rfl).1, (nof_c d5 (L := [(119, 0)]) rfl (c := 119) rfl).1, wI_ne (by decide), (nof_c fT (L := [(592, 0)]) rfl (c := 592) rfl).1]
      omega)
    rw [← jc] at u2 u3
    have f3w : fr [(549, 549, 167)] t3 (wI t3 549 166 (t3.1 549 166 + cI 1)) := fr.rf.wI rfl
    have e166 : t3.1 549 166 = s1.1 138 12 := by rw [(u6.1 549 166 rfl).1]; exact a4
    have gC : fr FgaC s s3 := fC1.tr ((fi.mono (by decide +kernel)).tr (u5.mono (by decide +kernel)))
    have gM : fr FgaM t (wI t3 549 166 (t3.1 549 166 + cI 1)) := fT2.tr ((u6.mono (by decide +kernel)).tr (f3w.mono (by decide +kernel)))
    rw [z1, bd1_some, u2]
    have e166' : t.1 549 166 = s1.1 138 12 := by rw [← b166]; exact a4
    rw [e166', u3]
    refine next (insP L p' x) s3 _ gC gM ?_ ?_
    · have s12 : s3.1 138 12 = s1.1 138 12 + cI 1 := by rw [(u5.1 138 12 rfl).1, wI_c, up1_eq]
      have s102 : s3.1 102 = s1.1 102 := ((nof_c u5 (L := [(102, 0)]) rfl (c := 102) rfl).1).trans (nof_c fi (L := [(102, 0)]) rfl (c := 102) rfl).1
      have s109 : s3.1 109 = s1.1 109 := ((nof_c u5 (L := [(109, 0)]) rfl (c := 109) rfl).1).trans (nof_c fi (L := [(109, 0)]) rfl (c := 109) rfl).1
      have s179 : s3.1 179 = up1 (s1.1 179) x (cI 0) := by rw [(nof_c u5 (L := [(179, 0)]) rfl (c := 179) rfl).1]; simp (disch := decide) only [ix_0, ix_1, ix_2, ix_3, ix_4, ix_5, ix_6, ix_7, ix_8, ix_9, ix_10, ix_11, ix_12, ix_13, ix_14, ix_15, ix_16, ix_17, ix_18, ix_19, ix_20, ix_21, Nat.reduceAdd, wI_c, wI_ne, wL_1, lupd_ne, up1_eq, up1_ne]
      have s177 : s3.1 177 = up1 (s1.1 177) x (t.1 572 (ix v)) := by rw [(nof_c u5 (L := [(177, 0)]) rfl (c := 177) rfl).1]; simp (disch := decide) only [ix_0, ix_1, ix_2, ix_3, ix_4, ix_5, ix_6, ix_7, ix_8, ix_9, ix_10, ix_11, ix_12, ix_13, ix_14, ix_15, ix_16, ix_17, ix_18, ix_19, ix_20, ix_21, Nat.reduceAdd, wI_c, wI_ne, wL_1, lupd_ne, up1_eq, up1_ne]
      have s9 : s3.1 30 9 = s1.1 30 9 := by rw [(u5.1 30 9 rfl).1, (fi.1 30 9 rfl).1]
      have t668 : (wI t3 549 166 (t3.1 549 166 + cI 1)).1 668 = t3.1 668 := wI_ne (by decide)
      have t670 : (wI t3 549 166 (t3.1 549 166 + cI 1)).1 670 = (wI t1 670 x v).1 670 := by rw [wI_ne (by decide), (nof_c u6 (L := [(670, 0)]) rfl (c := 670) rfl).1]
      have t572' : (wI t3 549 166 (t3.1 549 166 + cI 1)).1 572 = (wI t1 670 x v).1 572 := by rw [wI_ne (by decide), (nof_c u6 (L := [(572, 0)]) rfl (c := 572) rfl).1]
      have t610' : (wI t3 549 166 (t3.1 549 166 + cI 1)).1 610 = (wI t1 670 x v).1 610 := by rw [wI_ne (by decide), (nof_c u6 (L := [(610, 0)]) rfl (c := 610) rfl).1]
      unfold RGa
      rw [s12, s102, s109, s179, s177, s9, t668, t670, t572', t610']
      refine ⟨insP_nodup a1 xL, fun y hy => ?_, by rw [xi, insP_len, a3]; omega, by rw [wI_c, up1_eq, e166], u4, fun y hy => ?_, a7⟩
      · rcases insP_mem.mp hy with q | q
        · omega
        · exact a2 y q
      · by_cases z : y = x
        · subst z
          rw [up1_eq, up1_eq, b670, up1_eq, b572, (nof_c d5 (L := [(102, 0)]) rfl (c := 102) rfl).1, (nof_c d5 (L := [(109, 0)]) rfl (c := 109) rfl).1, y9]
          exact ⟨c1, c9, rfl, hv, rfl, z2, z3⟩
        · have hy2 := (insP_mem.mp hy).resolve_left z
          rw [up1_ne z, up1_ne z]
          exact a6 y hy2
    · exact (hk1.keep fi (rf_fr (s := wI t1 670 x v)) rfl rfl |>.keep u5 u6 rfl rfl).keep rf_fr f3w rfl rfl
