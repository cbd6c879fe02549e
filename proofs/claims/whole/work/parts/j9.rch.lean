/-! ===== LEVEL 3: ways by lines: one line more ===== -/
/-- from_eq with another bound -/
theorem from_eq2 {a d : Int32} (h : Rg 0 a 1600000000) (hd : Rg 0 d 1439) : ∃ y, (∀ u, fM_from u a d = some y) ∧ y = a + irem ((d + cI 1440) - irem a (cI 1440)) (cI 1440) ∧ a.toInt ≤ y.toInt ∧ y.toInt ≤ a.toInt + 1439 := by
  obtain ⟨a1, a2⟩ := h
  obtain ⟨d1, d2⟩ := hd
  have c : (cI 1440).toInt = 1440 := rfl
  have r := irem_toInt (x := a) (y := cI 1440) (by omega) (by decide)
  rw [c] at r
  have e1 : (d + cI 1440).toInt = d.toInt + 1440 := by rw [add_toInt (by rw [c]; omega) (by rw [c]; omega), c]
  have e2 : ((d + cI 1440) - irem a (cI 1440)).toInt = d.toInt + 1440 - a.toInt % 1440 := by rw [sub_toInt (by rw [e1, r]; omega) (by rw [e1, r]; omega), e1, r]
  have e3 : (irem ((d + cI 1440) - irem a (cI 1440)) (cI 1440)).toInt = (d.toInt + 1440 - a.toInt % 1440) % 1440 := by rw [irem_toInt (by rw [e2]; omega) (by decide), e2, c]
  have e4 : (a + irem ((d + cI 1440) - irem a (cI 1440)) (cI 1440)).toInt = a.toInt + (d.toInt + 1440 - a.toInt % 1440) % 1440 := by rw [add_toInt (by rw [e3]; omega) (by rw [e3]; omega), e3]
  have f1 : (a - irem a (cI 1440)).toInt = a.toInt - a.toInt % 1440 := by rw [sub_toInt (by rw [r]; omega) (by rw [r]; omega), r]
  have f2 : ((a - irem a (cI 1440)) + d).toInt = a.toInt - a.toInt % 1440 + d.toInt := by rw [add_toInt (by rw [f1]; omega) (by rw [f1]; omega), f1]
  by_cases q : irem a (cI 1440) ≤ d
  · refine ⟨a - irem a (cI 1440) + d + cI 0, fun u => by unfold fM_from fM_from_b23; rw [if_neg (by decide), ltI_eq, if_pos q], ?_, ?_⟩ <;> rw [le_i, r] at q
    · rw [eq_i, e4, add_toInt (by rw [f2, show (cI 0).toInt = 0 from rfl]; omega) (by rw [f2, show (cI 0).toInt = 0 from rfl]; omega), f2, show (cI 0).toInt = 0 from rfl]
      omega
    · rw [add_toInt (by rw [f2, show (cI 0).toInt = 0 from rfl]; omega) (by rw [f2, show (cI 0).toInt = 0 from rfl]; omega), f2, show (cI 0).toInt = 0 from rfl]
      omega
  · refine ⟨a - irem a (cI 1440) + d + cI 1440, fun u => by unfold fM_from fM_from_b23; rw [if_neg (by decide), ltI_eq, if_neg q], ?_, ?_⟩ <;> rw [le_i, r] at q
    · rw [eq_i, e4, add_toInt (by rw [f2, c]; omega) (by rw [f2, c]; omega), f2, c]
      omega
    · rw [add_toInt (by rw [f2, c]; omega) (by rw [f2, c]; omega), f2, c]
      omega
/-- what is reached, by which line, and looked at: class and reference -/
def Sw (N : Nat) (s t : ev_M) : Prop := Ag N (s.1 546) (t.1 675) ∧ Ag N (s.1 547) (t.1 676) ∧ Ag N (s.1 548) (t.1 677)
/-- from the place st at the minute T, none later than U -/
def Wi (N st : Nat) (T : Int32) (U : Int) (s : ev_M) : Prop := (∀ p, p < N → s.1 546 p = cI (-1) ∨ (T.toInt ≤ (s.1 546 p).toInt ∧ (s.1 546 p).toInt ≤ U)) ∧ s.1 546 st = T ∧ s.1 547 st = cI (-1) ∧ ∀ p, p < N → p ≠ st → ¬ s.1 546 p = cI (-1) → ¬ s.1 547 p = cI (-1)
def FswC : List (Nat × (Nat × Nat)) := [(546, 546, 0), (547, 547, 0), (548, 548, 0)]
def FswM : List (Nat × (Nat × Nat)) := [(675, 675, 0), (676, 676, 0), (677, 677, 0)]
theorem Ag.up {n k : Nat} {f g : Nat → Int32} {x : Int32} (h : Ag n f g) : Ag n (up1 f k x) (up1 g k x) := fun i hi => by
  by_cases z : i = k
  · rw [z, up1_eq, up1_eq]
  · rw [up1_ne z, up1_ne z]; exact h i hi
theorem rx_ok {k N st x l : Nat} {T : Int32} {V : Int} {s t : ev_M} (hL : RLw k s t) (hN : N = ix (s.1 30 2)) (h30 : (s.1 30 2).toInt ≤ 12) (hT : s.1 15 1 = T) (hT0 : 0 ≤ T.toInt) (hl : l < ix (s.1 449 4)) (h1 : s.1 451 l = cI (x : Int)) (hx : x < N) (hst : st < N) (hS : Sw N s t) (hW : Wi N st T V s) (hr : ¬ s.1 546 x = cI (-1)) (hx2 : (s.1 546 x).toInt + 4439 ≤ V) (hV : T.toInt + 600 * (k : Int) + 4440 ≤ V) (hV2 : V ≤ 1600000000) : ∃ s' t', fLines_reachBy s (cI (l : Int)) = some s' ∧ (∀ k49 m, fM_findWays_h63 k49 (m + 1) t (cI (st : Int)) (cI (x : Int)) (cI (l : Int)) = fM_findWays_h63 k49 m t' (cI (st : Int)) (cI (x : Int)) (cI ((l + 1 : Nat) : Int))) ∧ Sw N s' t' ∧ Wi N st T V s' ∧ s'.1 546 x = s.1 546 x ∧ s'.1 548 = s.1 548 ∧ fr FswC s s' ∧ fr FswM t t' := by
  obtain ⟨⟨n1, n2, n3⟩, g1, g2, g3, g4, g5, g6, g7, b1, b2, b3, b4, b5, b6, b7⟩ := id hL
  obtain ⟨a1, a2, a3⟩ := id hS
  obtain ⟨w1, w2, w3, w4⟩ := id hW
  have N12 : N ≤ 12 := by rw [hN, ix_toNat]; omega
  have l20 : l < 20 := by rw [ix_toNat] at hl; omega
  have ll := ix_toNat (s.1 449 4)
  have nn := ix_toNat (s.1 30 2)
  have lt9 : cI (l : Int) < t.1 549 93 := by rw [n1, lt_i, k_ti (by omega)]; omega
  have lb : inb (cI (l : Int)) 20 = true := k_in l20 (by decide)
  have xb : inb (cI (x : Int)) 12 = true := k_in (by omega) (by decide)
  have lx : ix (cI (l : Int)) = l := k_ix (by omega)
  have xx : ix (cI (x : Int)) = x := k_ix (by omega)
  obtain ⟨to1, to2⟩ := b2 l hl
  have tob : inb (s.1 452 l) 12 = true := inb_iff.mpr ⟨to1, by omega⟩
  obtain ⟨to, eto⟩ : ∃ j, j = ix (s.1 452 l) := ⟨_, rfl⟩
  have toN : to < N := by rw [eto, ix_toNat]; omega
  obtain ⟨d1, d2⟩ := b3 l hl
  obtain ⟨k1, k2⟩ := b4 l hl
  obtain ⟨e1, e2⟩ := b6 l hl
  rw [hT] at e1 e2
  obtain ⟨r1, r2⟩ : T.toInt ≤ (s.1 546 x).toInt ∧ (s.1 546 x).toInt ≤ V := by
    rcases w1 x hx with w | w
    · exact absurd w hr
    · exact w
  obtain ⟨y, y1, y2, y3, y4⟩ := from_eq2 (a := s.1 546 x) (d := s.1 453 l) ⟨by omega, by omega⟩ ⟨d1, d2⟩
  -- when it leaves
  obtain ⟨z, ez⟩ : ∃ z, z = if s.1 456 l < s.1 546 x then y else s.1 456 l := ⟨_, rfl⟩
  have zb : T.toInt ≤ z.toInt ∧ (s.1 546 x).toInt ≤ z.toInt ∧ z.toInt + 3000 ≤ V := by
    rw [ez]
    by_cases q : s.1 456 l < s.1 546 x
    · rw [if_pos q]; omega
    · rw [if_neg q]
      rw [lt_i] at q
      omega
  have vb : (z + s.1 454 l).toInt = z.toInt + (s.1 454 l).toInt := add_b (by omega) (by omega)
  have c675 : t.1 675 x = s.1 546 x := a1 x hx
  have kC : fLines_reachBy s (cI (l : Int)) = fLines_reachBy_b57 s (cI (l : Int)) (cI (x : Int)) (s.1 452 l) z := by
    unfold fLines_reachBy fLines_firstFrom
    simp only [ix_0, ix_1, ix_2, ix_3, ix_4, ix_5, ix_6, ix_7, ix_8, ix_9, ix_10, ix_11, ix_12, ix_13, ix_14, ix_15, ix_16, ix_17, ix_18, ix_19, ix_20, ix_21, Nat.reduceAdd, wI_c, wI_ne, wL_1, lupd_ne, up1_eq, up1_ne]
    simp only [if_pos lb, ltI_eq, lx, h1, if_pos xb, xx, if_neg (show ¬ cI 1440 = 0 by decide), bd1_some]
    rw [ez]
    by_cases q : s.1 456 l < s.1 546 x
    · rw [if_pos q, if_pos q, y2]
    · rw [if_neg q, if_neg q]
  have kM : ∀ k49 m, fM_findWays_h63 k49 (m + 1) t (cI (st : Int)) (cI (x : Int)) (cI (l : Int)) = fM_findWays_b120 k49 (fM_findWays_h63 k49 m) t (cI (st : Int)) (cI (x : Int)) (cI (l : Int)) z := fun k49 m => by
    rw [fM_findWays_h63]
    simp only [if_pos lt9, if_pos lb, lx, g1 l hl, h1, if_true, if_pos xb, xx, g6 l hl, g3 l hl, c675, y1, bd1_some]
    rw [ez]
    by_cases q : s.1 456 l < s.1 546 x
    · rw [if_pos q, if_pos q]
    · rw [if_neg q, if_neg q]
  by_cases q1 : s.1 546 to = cI (-1) ∨ z + s.1 454 l < s.1 546 to
  · -- it is reached, or sooner
    have tst : to ≠ st := fun w => by
      rw [w, w2] at q1
      rcases q1 with v | v
      · rw [v] at hT0; exact absurd hT0 (by decide)
      · rw [lt_i, vb] at v; omega
    have tox : to ≠ x := fun w => by
      rw [w] at q1
      rcases q1 with v | v
      · exact hr v
      · rw [lt_i, vb] at v; omega
    obtain ⟨f, ef⟩ : ∃ f, f = if x = st then cI (l : Int) else s.1 547 x := ⟨_, rfl⟩
    have fn : ¬ f = cI (-1) := by
      rw [ef]
      by_cases v : x = st
      · rw [if_pos v]; exact fun u => neg1_ne (n := l) (by omega) u.symm
      · rw [if_neg v]; exact w4 x hx v hr
    have fC : fr FswC s (wI (wI s 546 to (z + s.1 454 l)) 547 to f) := (fr.rf.wI rfl).wI rfl
    have fM : fr FswM t (wI (wI t 675 to (z + s.1 454 l)) 676 to f) := (fr.rf.wI rfl).wI rfl
    have c547 : (wI s 546 to (z + s.1 454 l)).1 547 x = s.1 547 x := by rw [wI_ne (by decide)]
    have c676 : (wI t 675 to (z + s.1 454 l)).1 676 x = s.1 547 x := by rw [wI_ne (by decide), a2 x hx]
    refine ⟨_, _, ?_, fun k49 m => ?_, ?_, ?_, ?_, ?_, fC, fM⟩
    · have kk : fLines_reachBy_b94 s (cI (l : Int)) (cI (x : Int)) (s.1 452 l) (z + s.1 454 l) = some (wI (wI s 546 to (z + s.1 454 l)) 547 to f) := by
        unfold fLines_reachBy_b94 fLines_reachBy_b127
        simp only [if_pos tob, if_pos xb, ltM_eq, xx, ← eto, c547]
        rw [ef]
        by_cases v : x = st
        · rw [if_pos v, v, if_pos w3]
        · rw [if_neg v, if_neg (w4 x hx v hr)]
      rw [kC]
      unfold fLines_reachBy_b57
      simp only [ix_0, ix_1, ix_2, ix_3, ix_4, ix_5, ix_6, ix_7, ix_8, ix_9, ix_10, ix_11, ix_12, ix_13, ix_14, ix_15, ix_16, ix_17, ix_18, ix_19, ix_20, ix_21, Nat.reduceAdd, wI_c, wI_ne, wL_1, lupd_ne, up1_eq, up1_ne]
      simp only [if_pos lb, ltI_eq, lx, if_pos tob, ← eto, kk]
      by_cases v : s.1 546 to = cI (-1)
      · rw [if_pos v]
      · rw [if_neg v, if_neg (fun u => ?_)]
        rcases q1 with q1 | q1
        · exact v q1
        · rw [lt_i] at q1; rw [le_i] at u; omega
    · have kk : fM_findWays_b160 k49 (fM_findWays_h63 k49 m) t (cI (st : Int)) (cI (x : Int)) (cI (l : Int)) (z + s.1 454 l) (s.1 452 l) = fM_findWays_h63 k49 m (wI (wI t 675 to (z + s.1 454 l)) 676 to f) (cI (st : Int)) (cI (x : Int)) (cI ((l + 1 : Nat) : Int)) := by
        unfold fM_findWays_b160 fM_findWays_b190 fM_findWays_b191
        simp only [if_pos tob, if_pos xb, ltM_eq, xx, ← eto, c676]
        rw [k_s (by omega), ef]
        by_cases v : x = st
        · rw [if_pos v, v, if_pos rfl]
        · rw [if_neg v, if_neg (fun u => v (by
            rw [eq_i, k_ti (by omega), k_ti (by omega)] at u; omega))]
      rw [kM]
      unfold fM_findWays_b120
      simp only [if_pos lb, ltI_eq, lx, g4 l hl, g2 l hl, if_pos tob, ← eto, a1 to toN, kk]
      by_cases v : s.1 546 to = cI (-1)
      · rw [if_pos v]
      · rw [if_neg v, if_pos ?_]
        rcases q1 with q1 | q1
        · exact absurd q1 v
        · exact q1
    · unfold Sw
      simp (disch := decide) only [ix_0, ix_1, ix_2, ix_3, ix_4, ix_5, ix_6, ix_7, ix_8, ix_9, ix_10, ix_11, ix_12, ix_13, ix_14, ix_15, ix_16, ix_17, ix_18, ix_19, ix_20, ix_21, Nat.reduceAdd, wI_c, wI_ne, wL_1, lupd_ne, up1_eq, up1_ne]
      exact ⟨a1.up, a2.up, a3⟩
    · unfold Wi
      simp (disch := decide) only [ix_0, ix_1, ix_2, ix_3, ix_4, ix_5, ix_6, ix_7, ix_8, ix_9, ix_10, ix_11, ix_12, ix_13, ix_14, ix_15, ix_16, ix_17, ix_18, ix_19, ix_20, ix_21, Nat.reduceAdd, wI_c, wI_ne, wL_1, lupd_ne, up1_eq, up1_ne]
      refine ⟨fun p hp => ?_, by rw [up1_ne tst.symm]; exact w2, by rw [up1_ne tst.symm]; exact w3, fun p hp hps => ?_⟩
      · by_cases v : p = to
        · rw [v, up1_eq, vb]
          exact Or.inr ⟨by omega, by omega⟩
        · rw [up1_ne v]; exact w1 p hp
      · by_cases v : p = to
        · rw [v, up1_eq, up1_eq]
          exact fun _ => fn
        · rw [up1_ne v, up1_ne v]; exact w4 p hp hps
    · simp (disch := decide) only [ix_0, ix_1, ix_2, ix_3, ix_4, ix_5, ix_6, ix_7, ix_8, ix_9, ix_10, ix_11, ix_12, ix_13, ix_14, ix_15, ix_16, ix_17, ix_18, ix_19, ix_20, ix_21, Nat.reduceAdd, wI_c, wI_ne, wL_1, lupd_ne, up1_eq, up1_ne]
      rw [up1_ne tox.symm]
    · simp (disch := decide) only [ix_0, ix_1, ix_2, ix_3, ix_4, ix_5, ix_6, ix_7, ix_8, ix_9, ix_10, ix_11, ix_12, ix_13, ix_14, ix_15, ix_16, ix_17, ix_18, ix_19, ix_20, ix_21, Nat.reduceAdd, wI_c, wI_ne, wL_1, lupd_ne, up1_eq, up1_ne]
  · obtain ⟨q2, q3⟩ := not_or.mp q1
    refine ⟨s, t, ?_, fun k49 m => ?_, hS, hW, rfl, rfl, fr.rf, fr.rf⟩
    · rw [kC]
      unfold fLines_reachBy_b57
      simp only [ix_0, ix_1, ix_2, ix_3, ix_4, ix_5, ix_6, ix_7, ix_8, ix_9, ix_10, ix_11, ix_12, ix_13, ix_14, ix_15, ix_16, ix_17, ix_18, ix_19, ix_20, ix_21, Nat.reduceAdd, wI_c, wI_ne, wL_1, lupd_ne, up1_eq, up1_ne]
      simp only [if_pos lb, ltI_eq, lx, if_pos tob, ← eto, if_neg q2]
      rw [if_pos (by rw [le_i]; rw [lt_i] at q3; omega)]
    · rw [kM]
      unfold fM_findWays_b120 fM_findWays_b191
      simp only [if_pos lb, ltI_eq, lx, g4 l hl, g2 l hl, if_pos tob, ← eto, a1 to toN, if_neg q2, if_neg q3]
      rw [k_s (by omega)]
