/-! ===== LEVEL 3: the act late; the points of a round ===== -/
theorem a_delay {k : Nat} {s t : ev_M} {a b : Int32} {F : Bool} {A : Nat → Nat → Int32} (hA : AdmC s F A) (hM : FulM t F) (h0 : t.1 549 15 = 0) (hk : k ≤ 20000) (h : RLn k s t) (ht : RTim s t) : Ok (fLines_delay s a b) fun x => Ok (fM_doLate t a b) fun y => AP (RLn k) (RLn (k + 1)) F A s x y := by
  obtain ⟨⟨n1, n2⟩, g1, g2, g3, g4, g5, g6, g7, b1, b2, b3, b4, b5, b6, b7⟩ := id h
  obtain ⟨⟨-, c2⟩, -⟩ := id ht
  have hn : RLn k s (wI t 549 15 (cI 1)) := h.keep rf_fr no_fr rfl rfl
  by_cases h1 : Has a (s.1 449 4)
  rotate_left
  · exact sim_no (c := cI (-101)) (by simp only [fLines_delay, fM_doLate, e_linesHas n2.1, n1, bI_congr (inr_has n2.1), ltM_eq, ltI_eq, ltL_eq, bd1_some, bd2_some, ite_bI, if_true, if_false, ite_true, ite_false, eq_self, not_true_eq_false, not_false_eq_true, i10, outside_eq, in_eq, no_eq, eq_false h1]) (by simp only [fLines_delay, fM_doLate, e_linesHas n2.1, n1, bI_congr (inr_has n2.1), ltM_eq, ltI_eq, ltL_eq, bd1_some, bd2_some, ite_bI, if_true, if_false, ite_true, ite_false, eq_self, not_true_eq_false, not_false_eq_true, i10, outside_eq, in_eq, no_eq, eq_false h1]) hn
  by_cases h2 : InR b (cI 1) (cI 600)
  rotate_left
  · exact sim_no (c := cI (-102)) (by simp only [fLines_delay, fM_doLate, e_linesHas n2.1, n1, bI_congr (inr_has n2.1), ltM_eq, ltI_eq, ltL_eq, bd1_some, bd2_some, ite_bI, if_true, if_false, ite_true, ite_false, eq_self, not_true_eq_false, not_false_eq_true, i10, outside_eq, in_eq, no_eq, eq_true h1, eq_false h2]) (by simp only [fLines_delay, fM_doLate, e_linesHas n2.1, n1, bI_congr (inr_has n2.1), ltM_eq, ltI_eq, ltL_eq, bd1_some, bd2_some, ite_bI, if_true, if_false, ite_true, ite_false, eq_self, not_true_eq_false, not_false_eq_true, i10, outside_eq, in_eq, no_eq, eq_true h1, eq_false h2]) hn
  by_cases hF : F = true
  · subst hF
    exact sim_no (c := cI (-104)) (by simp only [fLines_delay, fM_doLate, e_linesHas n2.1, n1, bI_congr (inr_has n2.1), ltM_eq, ltI_eq, ltL_eq, bd1_some, bd2_some, ite_bI, if_true, if_false, ite_true, ite_false, eq_self, not_true_eq_false, not_false_eq_true, i10, outside_eq, in_eq, no_eq, eq_true h1, eq_true h2, hA.no, hM.no]) (by simp only [fLines_delay, fM_doLate, e_linesHas n2.1, n1, bI_congr (inr_has n2.1), ltM_eq, ltI_eq, ltL_eq, bd1_some, bd2_some, ite_bI, if_true, if_false, ite_true, ite_false, eq_self, not_true_eq_false, not_false_eq_true, i10, outside_eq, in_eq, no_eq, eq_true h1, eq_true h2, hA.no, hM.no]) hn
  obtain rfl : F = false := by simpa using hF
  have hb : inb a 20 = true := h1.inb n2.2
  have hi : ix a < ix (s.1 449 4) := h1.ix
  simp only [fLines_delay, fM_doLate, e_linesHas n2.1, n1, bI_congr (inr_has n2.1), ltM_eq, ltI_eq, ltL_eq, bd1_some, bd2_some, ite_bI, if_true, if_false, ite_true, ite_false, eq_self, not_true_eq_false, not_false_eq_true, i10, outside_eq, in_eq, no_eq, eq_true h1, eq_true h2, hA.yes, hM.yes, hb]
  rw [ok_some, ok_some]
  have e6 := b6 _ hi
  have e7 := b7 _ hi
  have e2 : 1 ≤ b.toInt ∧ b.toInt ≤ 600 := h2
  have e3 : 0 ≤ (s.1 15 1).toInt ∧ (s.1 15 1).toInt ≤ 1000000000 := c2
  refine ⟨?_, Or.inr ⟨?_, rfl, ?_, ?_⟩⟩
  · simp (disch := decide) only [ix_0, ix_1, ix_2, ix_3, ix_4, ix_5, ix_6, ix_7, ix_8, Nat.reduceAdd, wI_c, wI_ne, wL_1, lupd_ne, up1_eq, up1_ne, g6 _ hi, g7 _ hi]
  · simp (disch := decide) only [ix_0, ix_1, ix_2, ix_3, ix_4, ix_5, ix_6, ix_7, ix_8, Nat.reduceAdd, wI_c, wI_ne, wL_1, lupd_ne, up1_eq, up1_ne]; exact h0
  · exact (lgS.rf.wI (by decide) (by decide)).wI (by decide) (by decide)
  · unfold RLn
    simp (disch := decide) only [ix_0, ix_1, ix_2, ix_3, ix_4, ix_5, ix_6, ix_7, ix_8, Nat.reduceAdd, wI_c, wI_ne, wL_1, lupd_ne, up1_eq, up1_ne]
    refine ⟨⟨n1, n2⟩, g1, g2, g3, g4, g5, g6.set ?_, g7.set ?_, b1, b2, b3, b4, b5, b6.set ?_, b7.set ?_⟩
    · rw [g6 _ hi]
    · rw [g7 _ hi]
    · rw [add_toInt (by omega) (by omega)]; omega
    · rw [add_toInt (by omega) (by omega)]; omega
theorem cntE_le {f : Nat → Int32} {x : Int32} : ∀ n, cntE f x n ≤ n
  | 0 => Nat.le_refl _
  | n + 1 => by
    have := cntE_le (f := f) (x := x) n
    simp only [cntE]
    split <;> omega
theorem cntE_congr {f f' : Nat → Int32} {x : Int32} : ∀ n, (∀ j, j < n → f' j = f j) → cntE f' x n = cntE f x n
  | 0, _ => rfl
  | n + 1, e => by simp only [cntE, cntE_congr n (fun j hj => e j (by omega)), e n (by omega)]
theorem cntE_set {f : Nat → Int32} {k : Nat} {x y : Int32} (h : ¬ f k = x) : ∀ n, k < n → cntE (up1 f k y) x n = cntE f x n + (if y = x then 1 else 0)
  | 0, hk => by omega
  | n + 1, hk => by
    simp only [cntE]
    by_cases e : n = k
    · subst e
      rw [up1_eq, if_neg h, cntE_congr (f := f) n (fun j hj => up1_ne (by omega))]
      omega
    · rw [up1_ne e]
      have := cntE_set (y := y) h n (by omega)
      omega
theorem pts_lp {s : ev_M} {a : Int32} : ∀ (r n : Nat) (x j : Int32), 0 ≤ j.toInt → j.toInt + r = (s.1 549 38).toInt → (s.1 549 38).toInt ≤ 120 → x.toInt = cntE (s.1 571) a (ix j) → r < n → ∃ y, fM_pointsOf_h4 s n a x j = some y ∧ y.toInt = cntE (s.1 571) a (ix (s.1 549 38))
  | 0, n, x, j, h0, h1, h2, hx, hn => by
    obtain ⟨n, rfl⟩ : ∃ k, n = k + 1 := ⟨n - 1, by omega⟩
    have e : ix j = ix (s.1 549 38) := by rw [ix_toNat, ix_toNat]; omega
    refine ⟨x, ?_, by rw [hx, e]⟩
    unfold fM_pointsOf_h4
    rw [if_neg (show ¬ j < s.1 549 38 by rw [lt_i]; omega)]
  | r + 1, n, x, j, h0, h1, h2, hx, hn => by
    obtain ⟨n, rfl⟩ : ∃ k, n = k + 1 := ⟨n - 1, by omega⟩
    have hi : inb j 120 = true := inb_iff.mpr ⟨h0, by omega⟩
    have ei : ix (j + cI 1) = ix j + 1 := ix_inc h0 (by omega)
    have et : (j + cI 1).toInt = j.toInt + 1 := inc_i (by omega)
    have hl := cntE_le (f := s.1 571) (x := a) (ix j)
    have hj : ix j ≤ 120 := by rw [ix_toNat]; omega
    unfold fM_pointsOf_h4 fM_pointsOf_b29
    rw [if_pos (show j < s.1 549 38 by rw [lt_i]; omega), if_pos hi]
    by_cases g : s.1 571 (ix j) = a
    · rw [if_pos g]
      refine pts_lp r n _ _ (by omega) (by omega) h2 ?_ (by omega)
      rw [ei, inc_i (by omega), hx]
      simp only [cntE, if_pos g]
      omega
    · rw [if_neg g]
      refine pts_lp r n _ _ (by omega) (by omega) h2 ?_ (by omega)
      rw [ei, hx]
      simp only [cntE, if_neg g]
      omega
/-- the points of a round, class and reference -/
theorem RSp.pts {s t : ev_M} {r : Int32} (h : RSp s t) (hp : RPo s t) (hr : Has r (s.1 138 3)) (h12 : (s.1 138 3).toInt ≤ 12) : fM_pointsOf t r = some (s.1 143 (ix r)) := by
  obtain ⟨q0, -, q2, -⟩ := h
  obtain ⟨⟨p1, p2, p3⟩, -⟩ := hp
  have e : cI ((ix r : Nat) : Int) = r := cI_ix hr.1
  obtain ⟨y, ey, hy⟩ := pts_lp (s := t) (a := r) (ix (t.1 549 38)) 1048576 (cI 0) (cI 0) (by decide) (by rw [ix_toNat, show (cI 0).toInt = 0 from rfl, p1]; omega) (by rw [p1]; exact p3) rfl (by rw [ix_toNat, p1]; omega)
  have k := q0 (ix r) hr.ix
  rw [e] at k
  have e2 : y = s.1 143 (ix r) := by
    rw [eq_i, hy, k, p1]
    rw [cntE_congr _ (fun j hj => q2 j hj)]
  show fM_pointsOf_h4 t 1048576 r (cI 0) (cI 0) = _
  rw [ey, e2]
