/-! ===== LEVEL 3: questions to a fresh house ===== -/
theorem out0 {s : ev_M} {a n : Int32} (h : n = 0) : fPH_outside s a (cI 0) (n - cI 1) = some 1 := by
  rw [outside_eq, bI_t]
  intro z
  have h1 := (inr_has (z0 h)).mp z
  rw [h] at h1
  have := h1.1
  have := h1.2
  rw [i32_0] at this
  omega
theorem in0 {s : ev_M} {a n : Int32} (h : n = 0) : fM_in s a (cI 0) (n - cI 1) = some 0 := by
  rw [in_eq, bI_congr (inr_has (z0 h)), has0 h]
section
variable {s : ev_M} {a : Int32}
theorem q_placeOf (h : s.1 30 2 = 0) : fBook_placeOf s a = some (cI (-1)) := by
  show fBook_placeOf_h2 s (1048575 + 1) a (cI 0) = _
  generalize 1048575 = n
  simp only [fBook_placeOf_h2, if_neg (show ¬ cI 0 < s.1 30 2 by rw [h]; decide)]
theorem q_placeWith (h : s.1 549 24 = 0) : fM_placeWith s a = some (cI (-1)) := by
  show fM_placeWith_h4 s (1048575 + 1) a (cI (-1)) (cI 0) = _
  generalize 1048575 = n
  simp only [fM_placeWith_h4, if_neg (show ¬ cI 0 < s.1 549 24 by rw [h]; decide)]
theorem q_wrong0 (h : s.1 549 58 = 0) : fM_wrong_h19 1048576 s a (cI 0) (cI 0) = some (s, cI (-1)) := by
  show fM_wrong_h19 (1048575 + 1) s a (cI 0) (cI 0) = _
  generalize 1048575 = n
  simp only [fM_wrong_h19, if_neg (show ¬ cI 0 < s.1 549 58 by rw [h]; decide)]
theorem q_bal (h : s.1 549 114 = 0) : fM_balanceOf s a = some (cL 0) := by
  show fM_balanceOf_h5 s (1048575 + 1) a (cL 0) (cI 0) = _
  generalize 1048575 = n
  simp only [fM_balanceOf_h5, if_neg (show ¬ cI 0 < s.1 549 114 by rw [h]; decide)]
theorem q_overladen (h : s.1 449 4 = 0) : fLines_overladen s = some (cI 0) := by
  show fLines_overladen_h4 s (1048575 + 1) (cI 0) (cI 0) = _
  generalize 1048575 = n
  simp only [fLines_overladen_h4, if_neg (show ¬ cI 0 < s.1 449 4 by rw [h]; decide)]
theorem q_imis (h : s.1 100 5 = 0) : fItems_misplaced s a = some (cI 0) := by
  show fItems_misplaced_h4 s (1048575 + 1) a (cI 0) (cI 0) = _
  generalize 1048575 = n
  simp only [fItems_misplaced_h4, if_neg (show ¬ cI 0 < s.1 100 5 by rw [h]; decide)]
theorem q_lmis (h : s.1 449 6 = 0) (h2 : s.1 100 5 = 0) : fLines_misplaced s = some (wR s 124 0 300 (fun _ => cI 0), cI 0) := by
  unfold fLines_misplaced
  rw [e_fArr_fillI_124, bd1_some]
  show fLines_misplaced_h15 (1048575 + 1) _ (cI 0) = _
  generalize 1048575 = n
  have e : ¬ cI 0 < (wR s 124 0 300 (fun _ => cI 0)).1 449 6 := by rw [wR_ne (by decide), h]; decide
  simp only [fLines_misplaced_h15, if_neg e, q_imis (s := wR s 124 0 300 (fun _ => cI 0)) (by rw [wR_ne (by decide), h2]), bd1_some]
theorem q_rmis (h : s.1 138 3 = 0) (h2 : s.1 100 5 = 0) : fRounds_misplaced s = some (wR s 124 0 300 (fun _ => cI 0), cI 0) := by
  unfold fRounds_misplaced
  rw [e_fArr_fillI_124, bd1_some]
  show fRounds_misplaced_h15 (1048575 + 1) _ (cI 0) = _
  generalize 1048575 = n
  have e : ¬ cI 0 < (wR s 124 0 300 (fun _ => cI 0)).1 138 3 := by rw [wR_ne (by decide), h]; decide
  simp only [fRounds_misplaced_h15, if_neg e, q_imis (s := wR s 124 0 300 (fun _ => cI 0)) (by rw [wR_ne (by decide), h2]), bd1_some]
theorem q_kmis (h : s.1 125 3 = 0) (h2 : s.1 100 5 = 0) : fLock_misplaced s = some (wR s 124 0 300 (fun _ => cI 0), cI 0) := by
  unfold fLock_misplaced
  rw [e_fArr_fillI_124, bd1_some]
  show fLock_misplaced_h15 (1048575 + 1) _ (cI 0) = _
  generalize 1048575 = n
  have e : ¬ cI 0 < (wR s 124 0 300 (fun _ => cI 0)).1 125 3 := by rw [wR_ne (by decide), h]; decide
  simp only [fLock_misplaced_h15, if_neg e]
  show fLock_misplaced_h83 (1048575 + 1) _ (cI 0) (cI 0) = _
  generalize 1048575 = n
  have e2 : ¬ cI 0 < (wR s 124 0 300 (fun _ => cI 0)).1 100 5 := by rw [wR_ne (by decide), h2]; decide
  simp only [fLock_misplaced_h83, if_neg e2]
theorem q_faults (h : s.1 78 3 = 0) (h2 : ∀ k, s.2.1 80 k = 0) : fMoney_faults s = some (cI 0) := by
  have st : ∀ (n : Nat) (j : Int32), inb j 34 = true → j < cI 4 → fMoney_faults_h7 s (n + 1) (cL 0) (cI 0) j = fMoney_faults_h7 s n (cL 0) (cI 0) (j + cI 1) := fun n j hb hj => by
    have e : j < cI 4 + s.1 78 3 := by rw [h]; exact hj
    simp only [fMoney_faults_h7, if_pos e, if_pos hb, ltL_eq, if_pos hj, fMoney_faults_b49, h2]
    rfl
  show fMoney_faults_h7 s (1048571 + 5) (cL 0) (cI 0) (cI 0) = _
  rw [show 1048571 + 5 = 1048575 + 1 from rfl, st _ _ (by decide) (by decide), show 1048575 = 1048574 + 1 from rfl, st _ _ (by decide) (by decide), show 1048574 = 1048573 + 1 from rfl, st _ _ (by decide) (by decide), show 1048573 = 1048572 + 1 from rfl, st _ _ (by decide) (by decide), show 1048572 = 1048571 + 1 from rfl]
  have e : ¬ cI 0 + cI 1 + cI 1 + cI 1 + cI 1 < cI 4 + s.1 78 3 := by rw [h]; decide
  generalize 1048571 = n
  simp only [fMoney_faults_h7, if_neg e]
  rfl
end
section
variable {xs : Nat → Int32} {L : Nat} {m : ev_M}
theorem I0_u (h : I0 xs L m) {k : Nat} (hk : k ≠ 0) : (wI m 549 0 (cI 0)).1 549 k = m.1 549 k := by rw [wI_c, up1_ne hk]
theorem I0_Mu (h : I0 xs L m) : Mz (wI m 549 0 (cI 0)) := by
  have h1 := I0_M h
  unfold Mz at h1 ⊢
  rw [I0_u h (k := 24) (by decide), I0_u h (k := 27) (by decide), I0_u h (k := 33) (by decide), I0_u h (k := 38) (by decide), I0_u h (k := 43) (by decide), I0_u h (k := 58) (by decide), I0_u h (k := 87) (by decide), I0_u h (k := 93) (by decide), I0_u h (k := 101) (by decide), I0_u h (k := 107) (by decide), I0_u h (k := 111) (by decide), I0_u h (k := 119) (by decide)]
  exact h1
theorem I0_d9 (h : I0 xs L m) : m.1 9 9 = 0 := I0_z h (by decide) rfl rfl
theorem I0_d5 (h : I0 xs L m) : (wI m 549 0 (cI 0)).1 549 5 = 0 := by rw [I0_u h (by decide)]; exact I0_z h (by decide) rfl rfl
theorem I0_uz (h : I0 xs L m) {k : Nat} (hk : [22, 23, 24, 27, 33, 38, 43, 48, 49, 51, 58, 87, 91, 93, 101, 107, 111, 114, 119, 125, 129, 134].contains k = true) (h0 : k ≠ 0 := by decide) : (wI m 549 0 (cI 0)).1 549 k = 0 := by rw [I0_u h h0]; exact I0_m h hk
theorem p1_12 (h : I0 xs L m) : LC_12 (P1 m) m := by
  unfold LC_12
  intro a b
  have hc := I0_C h
  have hm := I0_Mu h
  have d9 := I0_d9 h
  have d5 := I0_d5 h
  refine p1_call (fun q h => fr_fPH_effective h) (fun z q h => fr_fM_effective h) (by decide +kernel) (by decide +kernel) ?_
  simp only [fPH_effective, fBook_askedGoal, fM_effective, fM_ask, d9, d5, cz_place hc, cz_point hc, cz_cus hc, cz_order hc, cz_item hc, cz_lock hc, cz_round hc, cz_line hc, cz_bag hc, mz_place hm, mz_point hm, mz_item hm, mz_round hm, mz_leg hm, mz_bag hm, mz_lock hm, mz_cus hm, mz_order hm, ltM_eq, ltI_eq, ltL_eq, bd1_some, bd2_some, ite_bI, if_true, if_false, ite_true, ite_false, eq_self, not_true_eq_false, not_false_eq_true, i10, outside_eq, in_eq, ok_some]

theorem p1_13 (h : I0 xs L m) : LC_13 (P1 m) m := by
  unfold LC_13
  intro a b
  have hc := I0_C h
  have hm := I0_Mu h
  have d9 := I0_d9 h
  have d5 := I0_d5 h
  refine p1_call (fun q h => fr_fPH_lastPoint h) (fun z q h => fr_fM_lastPoint h) (by decide +kernel) (by decide +kernel) ?_
  simp only [fPH_lastPoint_b35, fPH_lastPoint, fBook_askedGoal, fM_lastPoint, fM_ask, d9, d5, cz_place hc, cz_point hc, cz_cus hc, cz_order hc, cz_item hc, cz_lock hc, cz_round hc, cz_line hc, cz_bag hc, mz_place hm, mz_point hm, mz_item hm, mz_round hm, mz_leg hm, mz_bag hm, mz_lock hm, mz_cus hm, mz_order hm, ltM_eq, ltI_eq, ltL_eq, bd1_some, bd2_some, ite_bI, if_true, if_false, ite_true, ite_false, eq_self, not_true_eq_false, not_false_eq_true, i10, outside_eq, in_eq, ok_some]

theorem p1_14 (h : I0 xs L m) : LC_14 (P1 m) m := by
  unfold LC_14
  intro a
  have hc := I0_C h
  have hm := I0_Mu h
  have d9 := I0_d9 h
  have d5 := I0_d5 h
  refine p1_ask (fun q h => fr_fM_find h) (by decide +kernel) ?_
  simp only [fPH_find, fM_find, d9, d5, cz_place hc, cz_point hc, cz_cus hc, cz_order hc, cz_item hc, cz_lock hc, cz_round hc, cz_line hc, cz_bag hc, mz_place hm, mz_point hm, mz_item hm, mz_round hm, mz_leg hm, mz_bag hm, mz_lock hm, mz_cus hm, mz_order hm, ltM_eq, ltI_eq, ltL_eq, bd1_some, bd2_some, ite_bI, if_true, if_false, ite_true, ite_false, eq_self, not_true_eq_false, not_false_eq_true, i10, outside_eq, in_eq, ok_some, q_placeOf hc.1, q_placeWith hm.1]

theorem p1_15 (h : I0 xs L m) : LC_15 (P1 m) m := by
  unfold LC_15
  intro a b
  have hc := I0_C h
  have hm := I0_Mu h
  have d9 := I0_d9 h
  have d5 := I0_d5 h
  refine p1_ask (fun q h => fr_fM_pointAt h) (by decide +kernel) ?_
  simp only [fPH_pointAt, fM_pointAt, d9, d5, cz_place hc, cz_point hc, cz_cus hc, cz_order hc, cz_item hc, cz_lock hc, cz_round hc, cz_line hc, cz_bag hc, mz_place hm, mz_point hm, mz_item hm, mz_round hm, mz_leg hm, mz_bag hm, mz_lock hm, mz_cus hm, mz_order hm, ltM_eq, ltI_eq, ltL_eq, bd1_some, bd2_some, ite_bI, if_true, if_false, ite_true, ite_false, eq_self, not_true_eq_false, not_false_eq_true, i10, outside_eq, in_eq, ok_some]

theorem p1_17 (h : I0 xs L m) : LC_17 (P1 m) m := by
  unfold LC_17
  have hc := I0_C h
  have hm := I0_Mu h
  have d9 := I0_d9 h
  have d5 := I0_d5 h
  have v3 : m.1 52 3 = cI (-1) := h.2.2.2.2.1.2.2.2.2.2.2.2.2.1
  refine p1_ask (fun q h => fr_fM_read h) (by decide +kernel) ?_
  simp only [fPH_read, fM_read, d9, d5, cz_place hc, cz_point hc, cz_cus hc, cz_order hc, cz_item hc, cz_lock hc, cz_round hc, cz_line hc, cz_bag hc, mz_place hm, mz_point hm, mz_item hm, mz_round hm, mz_leg hm, mz_bag hm, mz_lock hm, mz_cus hm, mz_order hm, ltM_eq, ltI_eq, ltL_eq, bd1_some, bd2_some, ite_bI, if_true, if_false, ite_true, ite_false, eq_self, not_true_eq_false, not_false_eq_true, i10, outside_eq, in_eq, ok_some, v3, I0_uz h (k := 48) rfl]

theorem p1_18 (h : I0 xs L m) : LC_18 (P1 m) m := by
  unfold LC_18
  intro a b
  have hc := I0_C h
  have hm := I0_Mu h
  have d9 := I0_d9 h
  have d5 := I0_d5 h
  have i13 := eq_false (fun z : InR a (cI 0) (m.1 52 13 - cI 1) => absurd (out0 (s := m) (a := a) (n := m.1 52 13) h.2.2.2.2.1.2.2.2.2.1) (by rw [outside_eq, bI_f (fun q => q z)]; decide))
  have i51 := eq_false (fun z : InR a (cI 0) ((wI m 549 0 (cI 0)).1 549 51 - cI 1) => absurd (in0 (s := m) (a := a) (n := (wI m 549 0 (cI 0)).1 549 51) (I0_uz h rfl)) (by rw [in_eq, bI_t z]; decide))
  refine p1_ask (fun q h => fr_fM_textLine h) (by decide +kernel) ?_
  by_cases g : InR b (cI 0) (cI 2)
  · simp only [fPH_textLine, fSheet_tellLine, fM_textLine_b120, fM_textLine_b95, fM_textLine, d9, d5, cz_place hc, cz_point hc, cz_cus hc, cz_order hc, cz_item hc, cz_lock hc, cz_round hc, cz_line hc, cz_bag hc, mz_place hm, mz_point hm, mz_item hm, mz_round hm, mz_leg hm, mz_bag hm, mz_lock hm, mz_cus hm, mz_order hm, ltM_eq, ltI_eq, ltL_eq, bd1_some, bd2_some, ite_bI, if_true, if_false, ite_true, ite_false, eq_self, not_true_eq_false, not_false_eq_true, i10, outside_eq, in_eq, ok_some, i13, i51, eq_true g]
  · simp only [fPH_textLine, fSheet_tellLine, fM_textLine_b120, fM_textLine_b95, fM_textLine, d9, d5, cz_place hc, cz_point hc, cz_cus hc, cz_order hc, cz_item hc, cz_lock hc, cz_round hc, cz_line hc, cz_bag hc, mz_place hm, mz_point hm, mz_item hm, mz_round hm, mz_leg hm, mz_bag hm, mz_lock hm, mz_cus hm, mz_order hm, ltM_eq, ltI_eq, ltL_eq, bd1_some, bd2_some, ite_bI, if_true, if_false, ite_true, ite_false, eq_self, not_true_eq_false, not_false_eq_true, i10, outside_eq, in_eq, ok_some, i13, i51, eq_false g]

theorem p1_19 (h : I0 xs L m) : LC_19 (P1 m) m := by
  unfold LC_19
  intro a b c
  have hc := I0_C h
  have hm := I0_Mu h
  have d9 := I0_d9 h
  have d5 := I0_d5 h
  have i13 := eq_false (fun z : InR a (cI 0) (m.1 52 13 - cI 1) => absurd (out0 (s := m) (a := a) (n := m.1 52 13) h.2.2.2.2.1.2.2.2.2.1) (by rw [outside_eq, bI_f (fun q => q z)]; decide))
  have i51 := eq_false (fun z : InR a (cI 0) ((wI m 549 0 (cI 0)).1 549 51 - cI 1) => absurd (in0 (s := m) (a := a) (n := (wI m 549 0 (cI 0)).1 549 51) (I0_uz h rfl)) (by rw [in_eq, bI_t z]; decide))
  refine p1_ask (fun q h => fr_fM_sign h) (by decide +kernel) ?_
  by_cases g : InR c (cI 0) (cI 7)
  · simp only [fPH_sign, fSheet_tellSign, fM_sign, d9, d5, cz_place hc, cz_point hc, cz_cus hc, cz_order hc, cz_item hc, cz_lock hc, cz_round hc, cz_line hc, cz_bag hc, mz_place hm, mz_point hm, mz_item hm, mz_round hm, mz_leg hm, mz_bag hm, mz_lock hm, mz_cus hm, mz_order hm, ltM_eq, ltI_eq, ltL_eq, bd1_some, bd2_some, ite_bI, if_true, if_false, ite_true, ite_false, eq_self, not_true_eq_false, not_false_eq_true, i10, outside_eq, in_eq, ok_some, i13, i51, eq_true g]
  · simp only [fPH_sign, fSheet_tellSign, fM_sign, d9, d5, cz_place hc, cz_point hc, cz_cus hc, cz_order hc, cz_item hc, cz_lock hc, cz_round hc, cz_line hc, cz_bag hc, mz_place hm, mz_point hm, mz_item hm, mz_round hm, mz_leg hm, mz_bag hm, mz_lock hm, mz_cus hm, mz_order hm, ltM_eq, ltI_eq, ltL_eq, bd1_some, bd2_some, ite_bI, if_true, if_false, ite_true, ite_false, eq_self, not_true_eq_false, not_false_eq_true, i10, outside_eq, in_eq, ok_some, i13, i51, eq_false g]

theorem p1_25 (h : I0 xs L m) : LC_25 (P1 m) m := by
  unfold LC_25
  intro a b
  have hc := I0_C h
  have hm := I0_Mu h
  have d9 := I0_d9 h
  have d5 := I0_d5 h
  refine p1_call (fun q h => fr_fPH_about h) (fun z q h => fr_fM_about h) (by decide +kernel) (by decide +kernel) ?_
  simp only [fPH_about, fM_about, d9, d5, cz_place hc, cz_point hc, cz_cus hc, cz_order hc, cz_item hc, cz_lock hc, cz_round hc, cz_line hc, cz_bag hc, mz_place hm, mz_point hm, mz_item hm, mz_round hm, mz_leg hm, mz_bag hm, mz_lock hm, mz_cus hm, mz_order hm, ltM_eq, ltI_eq, ltL_eq, bd1_some, bd2_some, ite_bI, if_true, if_false, ite_true, ite_false, eq_self, not_true_eq_false, not_false_eq_true, i10, outside_eq, in_eq, ok_some]

theorem p1_26 (h : I0 xs L m) : LC_26 (P1 m) m := by
  unfold LC_26
  intro a b
  have hc := I0_C h
  have hm := I0_Mu h
  have d9 := I0_d9 h
  have d5 := I0_d5 h
  refine p1_call (fun q h => fr_fPH_bar h) (fun z q h => fr_fM_bar h) (by decide +kernel) (by decide +kernel) ?_
  simp only [fPH_bar, fM_bar, d9, d5, cz_place hc, cz_point hc, cz_cus hc, cz_order hc, cz_item hc, cz_lock hc, cz_round hc, cz_line hc, cz_bag hc, mz_place hm, mz_point hm, mz_item hm, mz_round hm, mz_leg hm, mz_bag hm, mz_lock hm, mz_cus hm, mz_order hm, ltM_eq, ltI_eq, ltL_eq, bd1_some, bd2_some, ite_bI, if_true, if_false, ite_true, ite_false, eq_self, not_true_eq_false, not_false_eq_true, i10, outside_eq, in_eq, ok_some]

theorem p1_27 (h : I0 xs L m) : LC_27 (P1 m) m := by
  unfold LC_27
  have d9 := I0_d9 h
  have d5 : m.1 549 5 = 0 := I0_z h (by decide) rfl rfl
  have t11 := (I0_t h).1
  have t2 := (I0_t h).2
  refine p1_call (fun q h => fr_fPH_scan h) (fun z q h => fr_fM_scan h) (by decide +kernel) (by decide +kernel) ?_
  simp only [fPH_scan_b46, fPH_scan_b30, fPH_scan, d9, ltM_eq, ltI_eq, ltL_eq, bd1_some, bd2_some, ite_bI, if_true, if_false, ite_true, ite_false, eq_self, not_true_eq_false, not_false_eq_true, i10, ok_some, t11, cI_0, eq_false (show ¬ (0 : Int32) = cI 15 by decide)]
  simp (disch := decide) only [fM_scan_b101, fM_scan_b100, fM_scan_b146, fM_scan_b141, fM_scan_b118, fM_scan, ltM_eq, ltI_eq, ltL_eq, bd1_some, bd2_some, ite_bI, if_true, if_false, ite_true, ite_false, eq_self, not_true_eq_false, not_false_eq_true, i10, ix_0, ix_1, ix_2, ix_3, ix_4, ix_5, ix_6, ix_7, ix_8, Nat.reduceAdd, wI_c, wI_ne, wL_1, lupd_ne, up1_eq, up1_ne, ok_some, d5, t2, eq_false (show ¬ (0 : Int32) = cI 15 by decide)]

theorem p1_28 (h : I0 xs L m) : LC_28 (P1 m) m := by
  unfold LC_28
  have hc := I0_C h
  have hm := I0_Mu h
  have d9 := I0_d9 h
  have d5 := I0_d5 h
  have v1 : m.1 7 1 = cI (-1) := h.2.2.2.2.1.2.2.2.2.2.2.2.2.2.1
  have v161 : (wI m 549 0 (cI 0)).1 549 161 = cI (-1) := (I0_u h (by decide)).trans h.2.2.2.2.2.2.2.2.2.1
  refine p1_ask (fun q h => fr_fM_mended h) (by decide +kernel) ?_
  simp only [fPH_mended, fM_mended, d9, d5, cz_place hc, cz_point hc, cz_cus hc, cz_order hc, cz_item hc, cz_lock hc, cz_round hc, cz_line hc, cz_bag hc, mz_place hm, mz_point hm, mz_item hm, mz_round hm, mz_leg hm, mz_bag hm, mz_lock hm, mz_cus hm, mz_order hm, ltM_eq, ltI_eq, ltL_eq, bd1_some, bd2_some, ite_bI, if_true, if_false, ite_true, ite_false, eq_self, not_true_eq_false, not_false_eq_true, i10, outside_eq, in_eq, ok_some, v1, v161]

theorem p1_33 (h : I0 xs L m) : LC_33 (P1 m) m := by
  unfold LC_33
  intro a b
  have hc := I0_C h
  have hm := I0_Mu h
  have d9 := I0_d9 h
  have d5 := I0_d5 h
  refine p1_ask (fun q h => fr_fM_stop h) (by decide +kernel) ?_
  simp only [fPH_stop, fM_stop_b68, fM_stop_b67, fM_stop, d9, d5, cz_place hc, cz_point hc, cz_cus hc, cz_order hc, cz_item hc, cz_lock hc, cz_round hc, cz_line hc, cz_bag hc, mz_place hm, mz_point hm, mz_item hm, mz_round hm, mz_leg hm, mz_bag hm, mz_lock hm, mz_cus hm, mz_order hm, ltM_eq, ltI_eq, ltL_eq, bd1_some, bd2_some, ite_bI, if_true, if_false, ite_true, ite_false, eq_self, not_true_eq_false, not_false_eq_true, i10, outside_eq, in_eq, ok_some]

theorem p1_35 (h : I0 xs L m) : LC_35 (P1 m) m := by
  unfold LC_35
  have hc := I0_C h
  have hm := I0_Mu h
  have d9 := I0_d9 h
  have d5 := I0_d5 h
  have v : m.1 138 9 = 0 := h.2.2.2.2.1.2.2.2.2.2.2.1
  refine p1_ask (fun q h => fr_fM_passes h) (by decide +kernel) ?_
  simp only [fPH_passes, fM_passes, d9, d5, cz_place hc, cz_point hc, cz_cus hc, cz_order hc, cz_item hc, cz_lock hc, cz_round hc, cz_line hc, cz_bag hc, mz_place hm, mz_point hm, mz_item hm, mz_round hm, mz_leg hm, mz_bag hm, mz_lock hm, mz_cus hm, mz_order hm, ltM_eq, ltI_eq, ltL_eq, bd1_some, bd2_some, ite_bI, if_true, if_false, ite_true, ite_false, eq_self, not_true_eq_false, not_false_eq_true, i10, outside_eq, in_eq, ok_some, v, I0_uz h (k := 91) rfl]

theorem p1_36 (h : I0 xs L m) : LC_36 (P1 m) m := by
  unfold LC_36
  intro a
  have hc := I0_C h
  have hm := I0_Mu h
  have d9 := I0_d9 h
  have d5 := I0_d5 h
  have v := eq_false (fun z : InR a (cI 0) (m.1 138 10 - cI 1) => absurd (out0 (s := m) (a := a) (n := m.1 138 10) h.2.2.2.2.1.2.2.2.2.2.2.2.1) (by rw [outside_eq, bI_f (fun q => q z)]; decide))
  refine p1_ask (fun q h => fr_fM_wrong h) (by decide +kernel) ?_
  simp only [fPH_wrong, fM_wrong_b46, fM_wrong, d9, d5, cz_place hc, cz_point hc, cz_cus hc, cz_order hc, cz_item hc, cz_lock hc, cz_round hc, cz_line hc, cz_bag hc, mz_place hm, mz_point hm, mz_item hm, mz_round hm, mz_leg hm, mz_bag hm, mz_lock hm, mz_cus hm, mz_order hm, ltM_eq, ltI_eq, ltL_eq, bd1_some, bd2_some, ite_bI, if_true, if_false, ite_true, ite_false, eq_self, not_true_eq_false, not_false_eq_true, i10, outside_eq, in_eq, ok_some, v, q_wrong0 hm.2.2.2.2.2.1]

theorem p1_37 (h : I0 xs L m) : LC_37 (P1 m) m := by
  unfold LC_37
  intro a b
  have hc := I0_C h
  have hm := I0_Mu h
  have d9 := I0_d9 h
  have d5 := I0_d5 h
  refine p1_ask (fun q h => fr_fM_row h) (by decide +kernel) ?_
  simp only [fPH_row, fM_row, d9, d5, cz_place hc, cz_point hc, cz_cus hc, cz_order hc, cz_item hc, cz_lock hc, cz_round hc, cz_line hc, cz_bag hc, mz_place hm, mz_point hm, mz_item hm, mz_round hm, mz_leg hm, mz_bag hm, mz_lock hm, mz_cus hm, mz_order hm, ltM_eq, ltI_eq, ltL_eq, bd1_some, bd2_some, ite_bI, if_true, if_false, ite_true, ite_false, eq_self, not_true_eq_false, not_false_eq_true, i10, outside_eq, in_eq, ok_some]

theorem p1_45 (h : I0 xs L m) : LC_45 (P1 m) m := by
  unfold LC_45
  intro a b
  have hc := I0_C h
  have hm := I0_Mu h
  have d9 := I0_d9 h
  have d5 := I0_d5 h
  refine p1_ask (fun q h => fr_fM_bagAt h) (by decide +kernel) ?_
  simp only [fPH_bagAt, fM_bagAt, d9, d5, cz_place hc, cz_point hc, cz_cus hc, cz_order hc, cz_item hc, cz_lock hc, cz_round hc, cz_line hc, cz_bag hc, mz_place hm, mz_point hm, mz_item hm, mz_round hm, mz_leg hm, mz_bag hm, mz_lock hm, mz_cus hm, mz_order hm, ltM_eq, ltI_eq, ltL_eq, bd1_some, bd2_some, ite_bI, if_true, if_false, ite_true, ite_false, eq_self, not_true_eq_false, not_false_eq_true, i10, outside_eq, in_eq, ok_some]

theorem p1_46 (h : I0 xs L m) : LC_46 (P1 m) m := by
  unfold LC_46
  intro a b c
  have hc := I0_C h
  have hm := I0_Mu h
  have d9 := I0_d9 h
  have d5 := I0_d5 h
  refine p1_call (fun q h => fr_fPH_way h) (fun z q h => fr_fM_way h) (by decide +kernel) (by decide +kernel) ?_
  simp only [fPH_way, fLines_tellWay, fM_way, d9, d5, cz_place hc, cz_point hc, cz_cus hc, cz_order hc, cz_item hc, cz_lock hc, cz_round hc, cz_line hc, cz_bag hc, mz_place hm, mz_point hm, mz_item hm, mz_round hm, mz_leg hm, mz_bag hm, mz_lock hm, mz_cus hm, mz_order hm, ltM_eq, ltI_eq, ltL_eq, bd1_some, bd2_some, ite_bI, if_true, if_false, ite_true, ite_false, eq_self, not_true_eq_false, not_false_eq_true, i10, outside_eq, in_eq, ok_some]

theorem p1_57 (h : I0 xs L m) : LC_57 (P1 m) m := by
  unfold LC_57
  intro a b
  have hc := I0_C h
  have hm := I0_Mu h
  have d9 := I0_d9 h
  have d5 := I0_d5 h
  have i6 := eq_false (fun z : InR a (cI 0) (m.1 78 6 - cI 1) => absurd (out0 (s := m) (a := a) (n := m.1 78 6) (I0_z h (by decide) rfl rfl)) (by rw [outside_eq, bI_f (fun q => q z)]; decide))
  have i114 := eq_false (fun z : InR a (cI 0) ((wI m 549 0 (cI 0)).1 549 114 - cI 1) => absurd (in0 (s := m) (a := a) (n := (wI m 549 0 (cI 0)).1 549 114) (I0_uz h rfl)) (by rw [in_eq, bI_t z]; decide))
  refine p1_ask (fun q h => fr_fM_entry h) (by decide +kernel) ?_
  by_cases g : InR b (cI 0) (cI 3)
  · simp only [fPH_entry, fMoney_tellBooking, fM_entry, d9, d5, cz_place hc, cz_point hc, cz_cus hc, cz_order hc, cz_item hc, cz_lock hc, cz_round hc, cz_line hc, cz_bag hc, mz_place hm, mz_point hm, mz_item hm, mz_round hm, mz_leg hm, mz_bag hm, mz_lock hm, mz_cus hm, mz_order hm, ltM_eq, ltI_eq, ltL_eq, bd1_some, bd2_some, ite_bI, if_true, if_false, ite_true, ite_false, eq_self, not_true_eq_false, not_false_eq_true, i10, outside_eq, in_eq, ok_some, i6, i114, eq_true g]
  · simp only [fPH_entry, fMoney_tellBooking, fM_entry, d9, d5, cz_place hc, cz_point hc, cz_cus hc, cz_order hc, cz_item hc, cz_lock hc, cz_round hc, cz_line hc, cz_bag hc, mz_place hm, mz_point hm, mz_item hm, mz_round hm, mz_leg hm, mz_bag hm, mz_lock hm, mz_cus hm, mz_order hm, ltM_eq, ltI_eq, ltL_eq, bd1_some, bd2_some, ite_bI, if_true, if_false, ite_true, ite_false, eq_self, not_true_eq_false, not_false_eq_true, i10, outside_eq, in_eq, ok_some, i6, i114, eq_false g]

theorem p1_59 (h : I0 xs L m) : LC_59 (P1 m) m := by
  unfold LC_59
  intro a
  have hc := I0_C h
  have hm := I0_Mu h
  have d9 := I0_d9 h
  have d5 := I0_d5 h
  refine p1_ask (fun q h => fr_fM_price h) (by decide +kernel) ?_
  simp only [fPH_price, fM_price, d9, d5, cz_place hc, cz_point hc, cz_cus hc, cz_order hc, cz_item hc, cz_lock hc, cz_round hc, cz_line hc, cz_bag hc, mz_place hm, mz_point hm, mz_item hm, mz_round hm, mz_leg hm, mz_bag hm, mz_lock hm, mz_cus hm, mz_order hm, ltM_eq, ltI_eq, ltL_eq, bd1_some, bd2_some, ite_bI, if_true, if_false, ite_true, ite_false, eq_self, not_true_eq_false, not_false_eq_true, i10, outside_eq, in_eq, ok_some]

theorem p1_63 (h : I0 xs L m) : LC_63 (P1 m) m := by
  unfold LC_63
  intro a b
  have hc := I0_C h
  have hm := I0_Mu h
  have d9 := I0_d9 h
  have d5 := I0_d5 h
  have i119 := eq_false (fun z : InR a (cI 0) ((wI m 549 0 (cI 0)).1 549 119 - cI 1) => absurd (in0 (s := m) (a := a) (n := (wI m 549 0 (cI 0)).1 549 119) (I0_uz h rfl)) (by rw [in_eq, bI_t z]; decide))
  refine p1_ask (fun q h => fr_fM_orderAt h) (by decide +kernel) ?_
  simp only [fPH_orderAt, fM_orderAt, d9, d5, cz_place hc, cz_point hc, cz_cus hc, cz_order hc, cz_item hc, cz_lock hc, cz_round hc, cz_line hc, cz_bag hc, mz_place hm, mz_point hm, mz_item hm, mz_round hm, mz_leg hm, mz_bag hm, mz_lock hm, mz_cus hm, mz_order hm, ltM_eq, ltI_eq, ltL_eq, bd1_some, bd2_some, ite_bI, if_true, if_false, ite_true, ite_false, eq_self, not_true_eq_false, not_false_eq_true, i10, outside_eq, in_eq, ok_some, i119]

theorem p1_66 (h : I0 xs L m) : LC_66 (P1 m) m := by
  unfold LC_66
  intro a b
  have hc := I0_C h
  have hm := I0_Mu h
  have d9 := I0_d9 h
  have d5 := I0_d5 h
  refine p1_ask (fun q h => fr_fM_lockerAt h) (by decide +kernel) ?_
  simp only [fPH_lockerAt, fM_lockerAt_b60, fM_lockerAt, d9, d5, cz_place hc, cz_point hc, cz_cus hc, cz_order hc, cz_item hc, cz_lock hc, cz_round hc, cz_line hc, cz_bag hc, mz_place hm, mz_point hm, mz_item hm, mz_round hm, mz_leg hm, mz_bag hm, mz_lock hm, mz_cus hm, mz_order hm, ltM_eq, ltI_eq, ltL_eq, bd1_some, bd2_some, ite_bI, if_true, if_false, ite_true, ite_false, eq_self, not_true_eq_false, not_false_eq_true, i10, outside_eq, in_eq, ok_some]

theorem p1_69 (h : I0 xs L m) : LC_69 (P1 m) m := by
  unfold LC_69
  intro a b c
  have hc := I0_C h
  have hm := I0_Mu h
  have d9 := I0_d9 h
  have d5 := I0_d5 h
  refine p1_ask (fun q h => fr_fM_trace h) (by decide +kernel) ?_
  simp only [fPH_trace, fM_trace_b192, fM_trace_b185, fM_trace_b190, fM_trace_b155, fM_trace_b150, fM_trace_b154, fM_trace_b218, fM_trace_b58, fM_trace, d9, d5, cz_place hc, cz_point hc, cz_cus hc, cz_order hc, cz_item hc, cz_lock hc, cz_round hc, cz_line hc, cz_bag hc, mz_place hm, mz_point hm, mz_item hm, mz_round hm, mz_leg hm, mz_bag hm, mz_lock hm, mz_cus hm, mz_order hm, ltM_eq, ltI_eq, ltL_eq, bd1_some, bd2_some, ite_bI, if_true, if_false, ite_true, ite_false, eq_self, not_true_eq_false, not_false_eq_true, i10, outside_eq, in_eq, ok_some]

theorem p1_73 (h : I0 xs L m) : LC_73 (P1 m) m := by
  unfold LC_73
  have hc := I0_C h
  have hm := I0_Mu h
  have d9 := I0_d9 h
  have d5 := I0_d5 h
  have v : m.1 15 1 = 0 := h.2.2.2.2.1.1
  refine p1_ask (fun q h => fr_fM_now h) (by decide +kernel) ?_
  simp only [fPH_now, fM_now, d9, d5, cz_place hc, cz_point hc, cz_cus hc, cz_order hc, cz_item hc, cz_lock hc, cz_round hc, cz_line hc, cz_bag hc, mz_place hm, mz_point hm, mz_item hm, mz_round hm, mz_leg hm, mz_bag hm, mz_lock hm, mz_cus hm, mz_order hm, ltM_eq, ltI_eq, ltL_eq, bd1_some, bd2_some, ite_bI, if_true, if_false, ite_true, ite_false, eq_self, not_true_eq_false, not_false_eq_true, i10, outside_eq, in_eq, ok_some, v, I0_uz h (k := 22) rfl]

end
