/-! ===== LEVEL 3: two acts of lines once more, for more acts than one start has ===== -/
section
variable {s t : ev_M} {F : Bool} {A : Nat → Nat → Int32}
theorem a_leg2 {k : Nat} {a b c d e : Int32} (hA : AdmC s F A) (hM : FulM t F) (h0 : t.1 549 15 = 0) (hk : k ≤ 832200) (h : RLn k s t) (ht : RTim s t) (hp : RPl s t) : Ok (fLines_make s a b c d e) fun x => Ok (fM_doLeg t a b c d e) fun y => AP (fun s' t' => RLn k s' t' ∧ s' = s) (fun s' t' => RLn (k + 1) s' t' ∧ s'.1 449 4 = s.1 449 4 + cI 1 ∧ s'.1 455 = up1 (s.1 455) (ix (s.1 449 4)) e ∧ (s.1 449 4).toInt < 20 ∧ 1 ≤ e.toInt) F A s x y := by
  obtain ⟨⟨n1, n2⟩, g1, g2, g3, g4, g5, g6, g7, b1, b2, b3, b4, b5, b6, b7⟩ := id h
  obtain ⟨⟨c1, c2⟩, -⟩ := id ht
  obtain ⟨⟨p1, p2⟩, -⟩ := id hp
  have hn : (fun s' t' => RLn k s' t' ∧ s' = s) s (wI t 549 15 (cI 1)) := ⟨h.keep rf_fr no_fr rfl rfl, rfl⟩
  by_cases h1 : Has a (s.1 30 2)
  rotate_left
  · exact sim_no (c := cI (-101)) (by simp only [fLines_make, fLines_setNext, fLines_firstFrom, fM_doLeg_b16, fM_doLeg_b62, fM_doLeg_b85, fM_doLeg, e_hasPlace p2.1, e_isPlace (by rw [p1]; exact p2.1), p1, n1, ite_self, ltM_eq, ltI_eq, ltL_eq, bd1_some, bd2_some, ite_bI, if_true, if_false, ite_true, ite_false, eq_self, not_true_eq_false, not_false_eq_true, i10, outside_eq, in_eq, no_eq, eq_false h1]) (by simp only [fLines_make, fLines_setNext, fLines_firstFrom, fM_doLeg_b16, fM_doLeg_b62, fM_doLeg_b85, fM_doLeg, e_hasPlace p2.1, e_isPlace (by rw [p1]; exact p2.1), p1, n1, ite_self, ltM_eq, ltI_eq, ltL_eq, bd1_some, bd2_some, ite_bI, if_true, if_false, ite_true, ite_false, eq_self, not_true_eq_false, not_false_eq_true, i10, outside_eq, in_eq, no_eq, eq_false h1]) hn
  by_cases h2 : Has b (s.1 30 2)
  rotate_left
  · exact sim_no (c := cI (-101)) (by simp only [fLines_make, fLines_setNext, fLines_firstFrom, fM_doLeg_b16, fM_doLeg_b62, fM_doLeg_b85, fM_doLeg, e_hasPlace p2.1, e_isPlace (by rw [p1]; exact p2.1), p1, n1, ite_self, ltM_eq, ltI_eq, ltL_eq, bd1_some, bd2_some, ite_bI, if_true, if_false, ite_true, ite_false, eq_self, not_true_eq_false, not_false_eq_true, i10, outside_eq, in_eq, no_eq, eq_true h1, eq_false h2]) (by simp only [fLines_make, fLines_setNext, fLines_firstFrom, fM_doLeg_b16, fM_doLeg_b62, fM_doLeg_b85, fM_doLeg, e_hasPlace p2.1, e_isPlace (by rw [p1]; exact p2.1), p1, n1, ite_self, ltM_eq, ltI_eq, ltL_eq, bd1_some, bd2_some, ite_bI, if_true, if_false, ite_true, ite_false, eq_self, not_true_eq_false, not_false_eq_true, i10, outside_eq, in_eq, no_eq, eq_true h1, eq_false h2]) hn
  by_cases h3 : a = b
  · exact sim_no (c := cI (-102)) (by simp only [fLines_make, fLines_setNext, fLines_firstFrom, fM_doLeg_b16, fM_doLeg_b62, fM_doLeg_b85, fM_doLeg, e_hasPlace p2.1, e_isPlace (by rw [p1]; exact p2.1), p1, n1, ite_self, ltM_eq, ltI_eq, ltL_eq, bd1_some, bd2_some, ite_bI, if_true, if_false, ite_true, ite_false, eq_self, not_true_eq_false, not_false_eq_true, i10, outside_eq, in_eq, no_eq, eq_true h1, eq_true h2, eq_true h3]) (by simp only [fLines_make, fLines_setNext, fLines_firstFrom, fM_doLeg_b16, fM_doLeg_b62, fM_doLeg_b85, fM_doLeg, e_hasPlace p2.1, e_isPlace (by rw [p1]; exact p2.1), p1, n1, ite_self, ltM_eq, ltI_eq, ltL_eq, bd1_some, bd2_some, ite_bI, if_true, if_false, ite_true, ite_false, eq_self, not_true_eq_false, not_false_eq_true, i10, outside_eq, in_eq, no_eq, eq_true h1, eq_true h2, eq_true h3]) hn
  by_cases h4 : InR c (cI 0) (cI 1439)
  rotate_left
  · exact sim_no (c := cI (-102)) (by simp only [fLines_make, fLines_setNext, fLines_firstFrom, fM_doLeg_b16, fM_doLeg_b62, fM_doLeg_b85, fM_doLeg, e_hasPlace p2.1, e_isPlace (by rw [p1]; exact p2.1), p1, n1, ite_self, ltM_eq, ltI_eq, ltL_eq, bd1_some, bd2_some, ite_bI, if_true, if_false, ite_true, ite_false, eq_self, not_true_eq_false, not_false_eq_true, i10, outside_eq, in_eq, no_eq, eq_true h1, eq_true h2, eq_false h3, eq_false h4]) (by simp only [fLines_make, fLines_setNext, fLines_firstFrom, fM_doLeg_b16, fM_doLeg_b62, fM_doLeg_b85, fM_doLeg, e_hasPlace p2.1, e_isPlace (by rw [p1]; exact p2.1), p1, n1, ite_self, ltM_eq, ltI_eq, ltL_eq, bd1_some, bd2_some, ite_bI, if_true, if_false, ite_true, ite_false, eq_self, not_true_eq_false, not_false_eq_true, i10, outside_eq, in_eq, no_eq, eq_true h1, eq_true h2, eq_false h3, eq_false h4]) hn
  by_cases h5 : InR d (cI 1) (cI 3000)
  rotate_left
  · exact sim_no (c := cI (-102)) (by simp only [fLines_make, fLines_setNext, fLines_firstFrom, fM_doLeg_b16, fM_doLeg_b62, fM_doLeg_b85, fM_doLeg, e_hasPlace p2.1, e_isPlace (by rw [p1]; exact p2.1), p1, n1, ite_self, ltM_eq, ltI_eq, ltL_eq, bd1_some, bd2_some, ite_bI, if_true, if_false, ite_true, ite_false, eq_self, not_true_eq_false, not_false_eq_true, i10, outside_eq, in_eq, no_eq, eq_true h1, eq_true h2, eq_false h3, eq_true h4, eq_false h5]) (by simp only [fLines_make, fLines_setNext, fLines_firstFrom, fM_doLeg_b16, fM_doLeg_b62, fM_doLeg_b85, fM_doLeg, e_hasPlace p2.1, e_isPlace (by rw [p1]; exact p2.1), p1, n1, ite_self, ltM_eq, ltI_eq, ltL_eq, bd1_some, bd2_some, ite_bI, if_true, if_false, ite_true, ite_false, eq_self, not_true_eq_false, not_false_eq_true, i10, outside_eq, in_eq, no_eq, eq_true h1, eq_true h2, eq_false h3, eq_true h4, eq_false h5]) hn
  by_cases h6 : InR e (cI 1) (cI 20)
  rotate_left
  · exact sim_no (c := cI (-102)) (by simp only [fLines_make, fLines_setNext, fLines_firstFrom, fM_doLeg_b16, fM_doLeg_b62, fM_doLeg_b85, fM_doLeg, e_hasPlace p2.1, e_isPlace (by rw [p1]; exact p2.1), p1, n1, ite_self, ltM_eq, ltI_eq, ltL_eq, bd1_some, bd2_some, ite_bI, if_true, if_false, ite_true, ite_false, eq_self, not_true_eq_false, not_false_eq_true, i10, outside_eq, in_eq, no_eq, eq_true h1, eq_true h2, eq_false h3, eq_true h4, eq_true h5, eq_false h6]) (by simp only [fLines_make, fLines_setNext, fLines_firstFrom, fM_doLeg_b16, fM_doLeg_b62, fM_doLeg_b85, fM_doLeg, e_hasPlace p2.1, e_isPlace (by rw [p1]; exact p2.1), p1, n1, ite_self, ltM_eq, ltI_eq, ltL_eq, bd1_some, bd2_some, ite_bI, if_true, if_false, ite_true, ite_false, eq_self, not_true_eq_false, not_false_eq_true, i10, outside_eq, in_eq, no_eq, eq_true h1, eq_true h2, eq_false h3, eq_true h4, eq_true h5, eq_false h6]) hn
  by_cases h7 : (s.1 449 4) < cI 20
  rotate_left
  · have h79 : (s.1 449 4) = cI 20 := cap_eq h7 (n2.2)
    exact sim_no (c := cI (-104)) (by simp only [fLines_make, fLines_setNext, fLines_firstFrom, fM_doLeg_b16, fM_doLeg_b62, fM_doLeg_b85, fM_doLeg, e_hasPlace p2.1, e_isPlace (by rw [p1]; exact p2.1), p1, n1, ite_self, ltM_eq, ltI_eq, ltL_eq, bd1_some, bd2_some, ite_bI, if_true, if_false, ite_true, ite_false, eq_self, not_true_eq_false, not_false_eq_true, i10, outside_eq, in_eq, no_eq, eq_true h1, eq_true h2, eq_false h3, eq_true h4, eq_true h5, eq_true h6, eq_false h7, eq_true h79]) (by simp only [fLines_make, fLines_setNext, fLines_firstFrom, fM_doLeg_b16, fM_doLeg_b62, fM_doLeg_b85, fM_doLeg, e_hasPlace p2.1, e_isPlace (by rw [p1]; exact p2.1), p1, n1, ite_self, ltM_eq, ltI_eq, ltL_eq, bd1_some, bd2_some, ite_bI, if_true, if_false, ite_true, ite_false, eq_self, not_true_eq_false, not_false_eq_true, i10, outside_eq, in_eq, no_eq, eq_true h1, eq_true h2, eq_false h3, eq_true h4, eq_true h5, eq_true h6, eq_false h7, eq_true h79]) hn
  have h79 : ¬ (s.1 449 4) = cI 20 := cap_ne h7
  by_cases hF : F = true
  · subst hF
    exact sim_no (c := cI (-104)) (by simp only [fLines_make, fLines_setNext, fLines_firstFrom, fM_doLeg_b16, fM_doLeg_b62, fM_doLeg_b85, fM_doLeg, e_hasPlace p2.1, e_isPlace (by rw [p1]; exact p2.1), p1, n1, ite_self, ltM_eq, ltI_eq, ltL_eq, bd1_some, bd2_some, ite_bI, if_true, if_false, ite_true, ite_false, eq_self, not_true_eq_false, not_false_eq_true, i10, outside_eq, in_eq, no_eq, eq_true h1, eq_true h2, eq_false h3, eq_true h4, eq_true h5, eq_true h6, eq_true h7, eq_false h79, hA.no]) (by simp only [fLines_make, fLines_setNext, fLines_firstFrom, fM_doLeg_b16, fM_doLeg_b62, fM_doLeg_b85, fM_doLeg, e_hasPlace p2.1, e_isPlace (by rw [p1]; exact p2.1), p1, n1, ite_self, ltM_eq, ltI_eq, ltL_eq, bd1_some, bd2_some, ite_bI, if_true, if_false, ite_true, ite_false, eq_self, not_true_eq_false, not_false_eq_true, i10, outside_eq, in_eq, no_eq, eq_true h1, eq_true h2, eq_false h3, eq_true h4, eq_true h5, eq_true h6, eq_true h7, eq_false h79, hM.no]) hn
  have hF2 : F = false := by cases F <;> simp_all
  subst hF2
  have hb : inb (s.1 449 4) 20 = true := inb_iff.mpr ⟨n2.1, lt_n h7⟩
  have e15 : (s.1 15 1 + cI 1).toInt = (s.1 15 1).toInt + 1 := inc_i (by have := c2.2; omega)
  have c21 := c2.1
  have c22 := c2.2
  have z := eq_false (show ¬ cI 1440 = 0 by decide)
  have hk7 : (s.1 449 4).toInt < 20 := lt_n h7
  have n21 := n2.1
  have n22 := n2.2
  have ei : ix (s.1 449 4 + cI 1) = ix (s.1 449 4) + 1 := ix_inc n2.1 (by omega)
  have e4 : (s.1 449 4 + cI 1).toInt = (s.1 449 4).toInt + 1 := inc_i (by omega)
  obtain ⟨y, ey, hy, l1, l2⟩ := from_eq (a := s.1 15 1 + cI 1) (d := c) ⟨by omega, by omega⟩ ⟨h4.1, h4.2⟩
  simp (maxSteps := 2000000) (disch := decide) only [fLines_make, fLines_setNext, fLines_firstFrom, fM_doLeg_b16, fM_doLeg_b62, fM_doLeg_b85, fM_doLeg, e_hasPlace p2.1, e_isPlace (by rw [p1]; exact p2.1), p1, n1, ite_self, ltM_eq, ltI_eq, ltL_eq, bd1_some, bd2_some, ite_bI, if_true, if_false, ite_true, ite_false, eq_self, not_true_eq_false, not_false_eq_true, i10, outside_eq, in_eq, no_eq, eq_true h1, eq_true h2, eq_false h3, eq_true h4, eq_true h5, eq_true h6, eq_true h7, eq_false h79, z, hb, hA.yes, hM.yes, ix_0, ix_1, ix_2, ix_3, ix_4, ix_5, ix_6, ix_7, ix_8, ix_9, ix_10, ix_11, ix_12, ix_13, ix_14, ix_15, ix_16, ix_17, ix_18, ix_19, ix_20, ix_21, Nat.reduceAdd, wI_c, wI_ne, wL_1, lupd_ne, up1_eq, up1_ne, c1, ey, ← hy, ok_some]
  have a1 := h1.1
  have a2 := h1.2
  have a3 := h2.1
  have a4 := h2.2
  refine ⟨?_, Or.inr ⟨?_, rfl, ?_, ?_, ?_, ?_, hk7, h6.1⟩⟩
  · rw [Int32.add_sub_cancel]
  · simp (disch := decide) only [ix_0, ix_1, ix_2, ix_3, ix_4, ix_5, ix_6, ix_7, ix_8, ix_9, ix_10, ix_11, ix_12, ix_13, ix_14, ix_15, ix_16, ix_17, ix_18, ix_19, ix_20, ix_21, Nat.reduceAdd, wI_c, wI_ne, wL_1, lupd_ne, up1_eq, up1_ne]; exact h0
  · exact (((((((lgS.rf.wI (by decide) (by decide)).wI (by decide) (by decide)).wI (by decide) (by decide)).wI (by decide) (by decide)).wI (by decide) (by decide)).wI (by decide) (by decide)).wI (by decide) (by decide)).wI (by decide) (by decide)
  · unfold RLn
    simp (disch := decide) only [ix_0, ix_1, ix_2, ix_3, ix_4, ix_5, ix_6, ix_7, ix_8, ix_9, ix_10, ix_11, ix_12, ix_13, ix_14, ix_15, ix_16, ix_17, ix_18, ix_19, ix_20, ix_21, Nat.reduceAdd, wI_c, wI_ne, wL_1, lupd_ne, up1_eq, up1_ne]
    exact ⟨⟨trivial, by omega, by omega⟩, g1.ext rfl ei, g2.ext rfl ei, g3.ext rfl ei, g4.ext rfl ei, g5.ext rfl ei, g6.ext rfl ei, g7.ext rfl ei, b1.ext ⟨a1, by omega⟩ ei, b2.ext ⟨a3, by omega⟩ ei, b3.ext h4 ei, b4.ext h5 ei, b5.ext h6 ei, b6.ext ⟨by omega, by omega⟩ ei, b7.ext ⟨by decide, by show (0 : Int) ≤ _; omega⟩ ei⟩
  · simp (disch := decide) only [ix_0, ix_1, ix_2, ix_3, ix_4, ix_5, ix_6, ix_7, ix_8, ix_9, ix_10, ix_11, ix_12, ix_13, ix_14, ix_15, ix_16, ix_17, ix_18, ix_19, ix_20, ix_21, Nat.reduceAdd, wI_c, wI_ne, wL_1, lupd_ne, up1_eq, up1_ne]
  · simp (disch := decide) only [ix_0, ix_1, ix_2, ix_3, ix_4, ix_5, ix_6, ix_7, ix_8, ix_9, ix_10, ix_11, ix_12, ix_13, ix_14, ix_15, ix_16, ix_17, ix_18, ix_19, ix_20, ix_21, Nat.reduceAdd, wI_c, wI_ne, wL_1, lupd_ne, up1_eq, up1_ne]
theorem a_delay2 {k : Nat} {s t : ev_M} {a b : Int32} {F : Bool} {A : Nat → Nat → Int32} (hA : AdmC s F A) (hM : FulM t F) (h0 : t.1 549 15 = 0) (hk : k ≤ 832200) (h : RLn k s t) (ht : RTim s t) : Ok (fLines_delay s a b) fun x => Ok (fM_doLate t a b) fun y => AP (RLn k) (RLn (k + 1)) F A s x y := by
  obtain ⟨⟨n1, n2⟩, g1, g2, g3, g4, g5, g6, g7, b1, b2, b3, b4, b5, b6, b7⟩ := id h
  obtain ⟨⟨-, c2⟩, -⟩ := id ht
  have hn : RLn k s (wI t 549 15 (cI 1)) := h.keep rf_fr no_fr rfl rfl
  by_cases h1 : Has a (s.1 449 4)
  rotate_left
  · exact sim_no (c := cI (-101)) (by simp only [fLines_delay, fM_doLate, e_linesHas n2.1, n1, bI_congr (inr_has n2.1), ltM_eq, ltI_eq, ltL_eq, bd1_some, bd2_some, ite_bI, if_true, if_false, ite_true, ite_false, eq_self, not_true_eq_false, not_false_eq_true, i10, outside_eq, in_eq, no_eq, eq_false h1]) (by simp only [fLines_delay, fM_doLate, e_linesHas n2.1, n1, bI_congr (inr_has n2.1), ltM_eq, ltI_eq, ltL_eq, bd1_some, bd2_some, ite_bI, if_true, if_false, ite_true, ite_false, eq_self, not_true_eq_false, not_false_eq_true, i10, outside_eq, in_eq, no_eq, eq_false h1]) hn
  by_cases h2 : InR b (cI 1) (cI 600)
  rotate_left
  · exact sim_no (c := cI (-102)) (by simp only [fLines_delay, fM_doLate, e_linesHas n2.1, n1, bI_congr (inr_has n2.1), ltM_eq, ltI_eq, ltL_eq, bd1_some, bd2_some, ite_bI, if_true, if_false, ite_true, ite_false, eq_self, not_true_eq_false, not_false_eq_true, i10, outside_eq, in_eq, no_eq, eq_true h1, eq_false h2]) (by simp only [fLines_delay, fM_doLate, e_linesHas n2.1, n1, bI_congr (inr_has n2.1), ltM_eq, ltI_eq, ltL_eq, bd1_some, bd2_some, ite_bI, if_true, if_false, ite_true, ite_false, eq_self, not_true_eq_false, not_false_eq_true, i10, outside_eq, in_eq, no_eq, eq_true h1, eq_false h2]) hn
  by_cases hF : F = true
  · subst hF
    exact sim_no (c := cI (-104)) (by simp only [fLines_delay, fM_doLate, e_linesHas n2.1, n1, bI_congr (inr_has n2.1), ltM_eq, ltI_eq, ltL_eq, bd1_some, bd2_some, ite_bI, if_true, if_false, ite_true, ite_false, eq_self, not_true_eq_false, not_false_eq_true, i10, outside_eq, in_eq, no_eq, eq_true h1, eq_true h2, hA.no, hM.no]) (by simp only [fLines_delay, fM_doLate, e_linesHas n2.1, n1, bI_congr (inr_has n2.1), ltM_eq, ltI_eq, ltL_eq, bd1_some, bd2_some, ite_bI, if_true, if_false, ite_true, ite_false, eq_self, not_true_eq_false, not_false_eq_true, i10, outside_eq, in_eq, no_eq, eq_true h1, eq_true h2, hA.no, hM.no]) hn
  obtain rfl : F = false := by simpa using hF
  have hb : inb a 20 = true := h1.inb n2.2
  have hi : ix a < ix (s.1 449 4) := h1.ix
  simp only [fLines_delay, fM_doLate, e_linesHas n2.1, n1, bI_congr (inr_has n2.1), ltM_eq, ltI_eq, ltL_eq, bd1_some, bd2_some, ite_bI, if_true, if_false, ite_true, ite_false, eq_self, not_true_eq_false, not_false_eq_true, i10, outside_eq, in_eq, no_eq, eq_true h1, eq_true h2, hA.yes, hM.yes, hb]
  rw [ok_some, ok_some]
  have e6 := b6 _ hi
  have e7 := b7 _ hi
  have e2 : 1 ≤ b.toInt ∧ b.toInt ≤ 600 := h2
  have e3 : 0 ≤ (s.1 15 1).toInt ∧ (s.1 15 1).toInt ≤ 1000000000 := c2
  refine ⟨?_, Or.inr ⟨?_, rfl, ?_, ?_⟩⟩
  · simp (disch := decide) only [ix_0, ix_1, ix_2, ix_3, ix_4, ix_5, ix_6, ix_7, ix_8, Nat.reduceAdd, wI_c, wI_ne, wL_1, lupd_ne, up1_eq, up1_ne, g6 _ hi, g7 _ hi]
  · simp (disch := decide) only [ix_0, ix_1, ix_2, ix_3, ix_4, ix_5, ix_6, ix_7, ix_8, Nat.reduceAdd, wI_c, wI_ne, wL_1, lupd_ne, up1_eq, up1_ne]; exact h0
  · exact (lgS.rf.wI (by decide) (by decide)).wI (by decide) (by decide)
  · unfold RLn
    simp (disch := decide) only [ix_0, ix_1, ix_2, ix_3, ix_4, ix_5, ix_6, ix_7, ix_8, Nat.reduceAdd, wI_c, wI_ne, wL_1, lupd_ne, up1_eq, up1_ne]
    refine ⟨⟨n1, n2⟩, g1, g2, g3, g4, g5, g6.set ?_, g7.set ?_, b1, b2, b3, b4, b5, b6.set ?_, b7.set ?_⟩
    · rw [g6 _ hi]
    · rw [g7 _ hi]
    · rw [add_toInt (by omega) (by omega)]; omega
    · rw [add_toInt (by omega) (by omega)]; omega
end
