/-! ===== LEVEL 3: the act take ===== -/
section
variable {s t : ev_M} {F : Bool} {A : Nat → Nat → Int32}
theorem RIt.adr {i x y : Int32} (h : RIt s t) (hx : -1 ≤ x.toInt ∧ x.toInt ≤ (s.1 30 9).toInt - 1) (hy : 0 ≤ y.toInt ∧ y.toInt ≤ 2) : RIt (wI (wI s 109 (ix i) x) 115 (ix i) y) (wI (wI t 590 (ix i) x) 601 (ix i) y) := by
  obtain ⟨n1, g1, g2, g3, g4, g5, g6, g7, g8, g9, b1, b2, b3, b4, b5, b6, b7, b8, b9⟩ := h
  unfold RIt
  simp (disch := decide) only [ix_0, ix_1, ix_2, ix_3, ix_4, ix_5, ix_6, ix_7, ix_8, ix_9, ix_10, ix_11, ix_12, ix_13, ix_14, ix_15, ix_16, ix_17, ix_18, ix_19, ix_20, ix_21, Nat.reduceAdd, wI_c, wI_ne, wL_1, lupd_ne, up1_eq, up1_ne]
  exact ⟨n1, g1, g2, g3, g4, g5, g6, g7, g8.set rfl, g9.set rfl, b1, b2, b3, b4, b5, b6, b7, b8.set hx, b9.set hy⟩
theorem RIt.dbt {i y : Int32} (h : RIt s t) (hy : 0 ≤ y.toInt ∧ y.toInt ≤ 2) : RIt (wI s 115 (ix i) y) (wI t 601 (ix i) y) := by
  obtain ⟨n1, g1, g2, g3, g4, g5, g6, g7, g8, g9, b1, b2, b3, b4, b5, b6, b7, b8, b9⟩ := h
  unfold RIt
  simp (disch := decide) only [ix_0, ix_1, ix_2, ix_3, ix_4, ix_5, ix_6, ix_7, ix_8, ix_9, ix_10, ix_11, ix_12, ix_13, ix_14, ix_15, ix_16, ix_17, ix_18, ix_19, ix_20, ix_21, Nat.reduceAdd, wI_c, wI_ne, wL_1, lupd_ne, up1_eq, up1_ne]
  exact ⟨n1, g1, g2, g3, g4, g5, g6, g7, g8, g9.set rfl, b1, b2, b3, b4, b5, b6, b7, b8, b9.set hy⟩
theorem RCk.adr {i x y : Int32} (h : RCk s t) (hx : 0 ≤ x.toInt) (hy : y = 0) : RCk (wI (wI s 109 (ix i) x) 115 (ix i) y) (wI (wI t 590 (ix i) x) 601 (ix i) y) := by
  unfold RCk at h ⊢
  simp (disch := decide) only [ix_0, ix_1, ix_2, ix_3, ix_4, ix_5, ix_6, ix_7, ix_8, ix_9, ix_10, ix_11, ix_12, ix_13, ix_14, ix_15, ix_16, ix_17, ix_18, ix_19, ix_20, ix_21, Nat.reduceAdd, wI_c, wI_ne, wL_1, lupd_ne, up1_eq, up1_ne]
  intro j hj
  obtain ⟨q1, q2, q3, q4⟩ := h j hj
  by_cases z : j = ix i
  · rw [z, up1_eq, up1_eq]
    rw [z] at q4 q1
    refine ⟨q1, fun w => ?_, fun _ w => ?_, q4.1, q4.2.1, q4.2.2.1, q4.2.2.2.1, fun w => ?_⟩
    · rw [hy] at w; exact absurd w (by decide)
    · rw [w] at hx; exact absurd hx (by decide)
    · rw [hy] at w; exact absurd w (by decide)
  · rw [up1_ne z, up1_ne z]
    exact ⟨q1, q2, q3, q4⟩
theorem RCk.dbt {i y : Int32} (h : RCk s t) (hi : Has i (s.1 100 5)) (h1 : s.1 115 (ix i) = 0) (h2 : s.1 109 (ix i) = cI (-1)) (hy : y = cI 1) : RCk (wI s 115 (ix i) y) (wI t 601 (ix i) y) := by
  have k := (h _ hi.ix).2.2.1 h1 h2
  unfold RCk at h ⊢
  simp (disch := decide) only [ix_0, ix_1, ix_2, ix_3, ix_4, ix_5, ix_6, ix_7, ix_8, ix_9, ix_10, ix_11, ix_12, ix_13, ix_14, ix_15, ix_16, ix_17, ix_18, ix_19, ix_20, ix_21, Nat.reduceAdd, wI_c, wI_ne, wL_1, lupd_ne, up1_eq, up1_ne]
  intro j hj
  obtain ⟨q1, q2, q3, q4⟩ := h j hj
  by_cases z : j = ix i
  · rw [z, up1_eq]
    rw [z] at q4 q1
    refine ⟨q1, fun w => ?_, fun w _ => ?_, q4.1, q4.2.1, q4.2.2.1, q4.2.2.2.1, fun w => ⟨fun u => ?_, fun u => ?_⟩⟩
    · rw [k]; decide
    · rw [hy] at w; exact absurd w (by decide)
    · rw [k] at u; exact absurd u (by decide)
    · rw [k] at u; exact absurd u (by decide)
  · rw [up1_ne z]
    exact ⟨q1, q2, q3, q4⟩
theorem RSx.adr {i x y : Int32} (h : RSx s t) (hx : 0 ≤ x.toInt) : RSx (wI (wI s 109 (ix i) x) 115 (ix i) y) (wI (wI t 590 (ix i) x) 601 (ix i) y) := by
  unfold RSx at h ⊢
  simp (disch := decide) only [ix_0, ix_1, ix_2, ix_3, ix_4, ix_5, ix_6, ix_7, ix_8, ix_9, ix_10, ix_11, ix_12, ix_13, ix_14, ix_15, ix_16, ix_17, ix_18, ix_19, ix_20, ix_21, Nat.reduceAdd, wI_c, wI_ne, wL_1, lupd_ne, up1_eq, up1_ne]
  intro j hj
  obtain ⟨h1, h2, h3, h4, h5⟩ := h j hj
  refine ⟨h1, h2, h3, fun q => ?_, h5⟩
  by_cases z : j = ix i
  · rw [z, up1_eq]
    intro w
    rw [w] at hx
    exact absurd hx (by decide)
  · rw [up1_ne z]
    exact h4 q
theorem a_take {a : Int32} (hA : AdmC s F A) (hM : FulM t F) (h0 : t.1 549 15 = 0) (h : RIt s t) (hk : RCk s t) (hx : RSx s t) (hs : RSg s t) : Ok (fItems_takeReading s a) fun x => Ok (fM_doTake t a) fun y => AP (fun s t => RIt s t ∧ RCk s t ∧ RSx s t) (fun s t => RIt s t ∧ RCk s t ∧ RSx s t) F A s x y := by
  obtain ⟨⟨n1, n2, n3⟩, g1, g2, g3, g4, g5, g6, g7, g8, g9, b1, b2, b3, b4, b5, b6, b7, b8, b9⟩ := id h
  obtain ⟨m1, m2⟩ := hs
  have hn : (fun s t => RIt s t ∧ RCk s t ∧ RSx s t) s (wI t 549 15 (cI 1)) := ⟨h.keep rf_fr no_fr rfl rfl, hk.keep rf_fr no_fr rfl rfl, hx.keep rf_fr no_fr rfl rfl⟩
  by_cases h1 : Has a (s.1 100 5)
  rotate_left
  · exact sim_no (c := cI (-101)) (by simp only [fItems_takeReading, fM_doTake_b49, fM_doTake, fItems_fixAddress, fM_settle, e_itemsHas n2, e_isItem (by rw [n1]; exact n2), n1, m1, ite_self, ltM_eq, ltI_eq, ltL_eq, bd1_some, bd2_some, ite_bI, if_true, if_false, ite_true, ite_false, eq_self, not_true_eq_false, not_false_eq_true, i10, outside_eq, in_eq, no_eq, eq_false h1]) (by simp only [fItems_takeReading, fM_doTake_b49, fM_doTake, fItems_fixAddress, fM_settle, e_itemsHas n2, e_isItem (by rw [n1]; exact n2), n1, m1, ite_self, ltM_eq, ltI_eq, ltL_eq, bd1_some, bd2_some, ite_bI, if_true, if_false, ite_true, ite_false, eq_self, not_true_eq_false, not_false_eq_true, i10, outside_eq, in_eq, no_eq, eq_false h1]) hn
  by_cases h2 : (s.1 52 2) = 0
  · exact sim_no (c := cI (-103)) (by simp only [fItems_takeReading, fM_doTake_b49, fM_doTake, fItems_fixAddress, fM_settle, e_itemsHas n2, e_isItem (by rw [n1]; exact n2), n1, m1, ite_self, ltM_eq, ltI_eq, ltL_eq, bd1_some, bd2_some, ite_bI, if_true, if_false, ite_true, ite_false, eq_self, not_true_eq_false, not_false_eq_true, i10, outside_eq, in_eq, no_eq, eq_true h1, eq_true h2]) (by simp only [fItems_takeReading, fM_doTake_b49, fM_doTake, fItems_fixAddress, fM_settle, e_itemsHas n2, e_isItem (by rw [n1]; exact n2), n1, m1, ite_self, ltM_eq, ltI_eq, ltL_eq, bd1_some, bd2_some, ite_bI, if_true, if_false, ite_true, ite_false, eq_self, not_true_eq_false, not_false_eq_true, i10, outside_eq, in_eq, no_eq, eq_true h1, eq_true h2]) hn
  have hb : inb a 300 = true := h1.inb n3
  have hi := h1.ix
  have e8 := g8 _ hi
  have e9 := g9 _ hi
  have b9' := b9 _ hi
  obtain ⟨q1, q2⟩ := e_early h h1
  obtain ⟨m3, m4, m5⟩ := m2.resolve_left h2
  by_cases h3 : s.1 109 (ix a) = cI (-1)
  rotate_left
  · exact sim_no (c := cI (-103)) (by simp only [fItems_takeReading, fM_doTake_b49, fM_doTake, fItems_fixAddress, fM_settle, e_itemsHas n2, e_isItem (by rw [n1]; exact n2), n1, m1, ite_self, ltM_eq, ltI_eq, ltL_eq, bd1_some, bd2_some, ite_bI, if_true, if_false, ite_true, ite_false, eq_self, not_true_eq_false, not_false_eq_true, i10, outside_eq, in_eq, no_eq, eq_true h1, eq_false h2, hb, ix_0, ix_1, ix_2, ix_3, ix_4, ix_5, ix_6, ix_7, ix_8, ix_9, ix_10, ix_11, ix_12, ix_13, ix_14, ix_15, ix_16, ix_17, ix_18, ix_19, ix_20, ix_21, Nat.reduceAdd, wI_c, wI_ne, wL_1, lupd_ne, up1_eq, up1_ne, eq_false h3]) (by simp only [fItems_takeReading, fM_doTake_b49, fM_doTake, fItems_fixAddress, fM_settle, e_itemsHas n2, e_isItem (by rw [n1]; exact n2), n1, m1, ite_self, ltM_eq, ltI_eq, ltL_eq, bd1_some, bd2_some, ite_bI, if_true, if_false, ite_true, ite_false, eq_self, not_true_eq_false, not_false_eq_true, i10, outside_eq, in_eq, no_eq, eq_true h1, eq_false h2, hb, e8, eq_false h3]) hn
  by_cases h5 : s.1 115 (ix a) = 0
  rotate_left
  · have h59 : ¬ s.1 115 (ix a) ≤ 0 := fun z => h5 (by rw [eq_i, i32_0]; rw [le_i, i32_0] at z; omega)
    exact sim_no (c := cI (-103)) (by simp only [fItems_takeReading, fM_doTake_b49, fM_doTake, fItems_fixAddress, fM_settle, e_itemsHas n2, e_isItem (by rw [n1]; exact n2), n1, m1, ite_self, ltM_eq, ltI_eq, ltL_eq, bd1_some, bd2_some, ite_bI, if_true, if_false, ite_true, ite_false, eq_self, not_true_eq_false, not_false_eq_true, i10, outside_eq, in_eq, no_eq, eq_true h1, eq_false h2, hb, ix_0, ix_1, ix_2, ix_3, ix_4, ix_5, ix_6, ix_7, ix_8, ix_9, ix_10, ix_11, ix_12, ix_13, ix_14, ix_15, ix_16, ix_17, ix_18, ix_19, ix_20, ix_21, Nat.reduceAdd, wI_c, wI_ne, wL_1, lupd_ne, up1_eq, up1_ne, eq_true h3, eq_false h5]) (by simp only [fItems_takeReading, fM_doTake_b49, fM_doTake, fItems_fixAddress, fM_settle, e_itemsHas n2, e_isItem (by rw [n1]; exact n2), n1, m1, ite_self, ltM_eq, ltI_eq, ltL_eq, bd1_some, bd2_some, ite_bI, if_true, if_false, ite_true, ite_false, eq_self, not_true_eq_false, not_false_eq_true, i10, outside_eq, in_eq, no_eq, eq_true h1, eq_false h2, hb, e8, e9, eq_true h3, eq_false h59]) hn
  have h59 : s.1 115 (ix a) ≤ 0 := by rw [h5, le_i]; exact Int.le_refl _
  by_cases h4 : s.1 102 (ix a) = 0 ∨ s.1 102 (ix a) = cI 1
  rotate_left
  · exact sim_no (c := cI (-103)) (by simp only [fItems_takeReading, fM_doTake_b49, fM_doTake, fItems_fixAddress, fM_settle, e_itemsHas n2, e_isItem (by rw [n1]; exact n2), n1, m1, ite_self, ltM_eq, ltI_eq, ltL_eq, bd1_some, bd2_some, ite_bI, if_true, if_false, ite_true, ite_false, eq_self, not_true_eq_false, not_false_eq_true, i10, outside_eq, in_eq, no_eq, eq_true h1, eq_false h2, hb, ix_0, ix_1, ix_2, ix_3, ix_4, ix_5, ix_6, ix_7, ix_8, ix_9, ix_10, ix_11, ix_12, ix_13, ix_14, ix_15, ix_16, ix_17, ix_18, ix_19, ix_20, ix_21, Nat.reduceAdd, wI_c, wI_ne, wL_1, lupd_ne, up1_eq, up1_ne, eq_true h3, eq_true h5, q1, eq_false h4]) (by simp only [fItems_takeReading, fM_doTake_b49, fM_doTake, fItems_fixAddress, fM_settle, e_itemsHas n2, e_isItem (by rw [n1]; exact n2), n1, m1, ite_self, ltM_eq, ltI_eq, ltL_eq, bd1_some, bd2_some, ite_bI, if_true, if_false, ite_true, ite_false, eq_self, not_true_eq_false, not_false_eq_true, i10, outside_eq, in_eq, no_eq, eq_true h1, eq_false h2, hb, e8, e9, eq_true h3, eq_true h59, q2, eq_false h4]) hn
  by_cases hF : F = true
  · subst hF
    exact sim_no (c := cI (-104)) (by simp only [fItems_takeReading, fM_doTake_b49, fM_doTake, fItems_fixAddress, fM_settle, e_itemsHas n2, e_isItem (by rw [n1]; exact n2), n1, m1, ite_self, ltM_eq, ltI_eq, ltL_eq, bd1_some, bd2_some, ite_bI, if_true, if_false, ite_true, ite_false, eq_self, not_true_eq_false, not_false_eq_true, i10, outside_eq, in_eq, no_eq, eq_true h1, eq_false h2, hb, ix_0, ix_1, ix_2, ix_3, ix_4, ix_5, ix_6, ix_7, ix_8, ix_9, ix_10, ix_11, ix_12, ix_13, ix_14, ix_15, ix_16, ix_17, ix_18, ix_19, ix_20, ix_21, Nat.reduceAdd, wI_c, wI_ne, wL_1, lupd_ne, up1_eq, up1_ne, eq_true h3, eq_true h5, q1, eq_true h4, hA.no]) (by simp only [fItems_takeReading, fM_doTake_b49, fM_doTake, fItems_fixAddress, fM_settle, e_itemsHas n2, e_isItem (by rw [n1]; exact n2), n1, m1, ite_self, ltM_eq, ltI_eq, ltL_eq, bd1_some, bd2_some, ite_bI, if_true, if_false, ite_true, ite_false, eq_self, not_true_eq_false, not_false_eq_true, i10, outside_eq, in_eq, no_eq, eq_true h1, eq_false h2, hb, e8, e9, eq_true h3, eq_true h59, q2, eq_true h4, hM.no]) hn
  have hF2 : F = false := by cases F <;> simp_all
  subst hF2
  have hu : RIt (lupd A s) t := h.keep lupd_fr rf_fr rfl rfl
  have hv : RCk (lupd A s) t := hk.keep lupd_fr rf_fr rfl rfl
  have hz : RSx (lupd A s) t := hx.keep lupd_fr rf_fr rfl rfl
  by_cases h6 : s.1 52 3 = cI (-1)
  · simp (maxSteps := 2000000) (disch := decide) only [fItems_takeReading, fM_doTake_b49, fM_doTake, fItems_fixAddress, fM_settle, e_itemsHas n2, e_isItem (by rw [n1]; exact n2), n1, m1, ite_self, ltM_eq, ltI_eq, ltL_eq, bd1_some, bd2_some, ite_bI, if_true, if_false, ite_true, ite_false, eq_self, not_true_eq_false, not_false_eq_true, i10, outside_eq, in_eq, no_eq, eq_true h1, eq_false h2, hb, ix_0, ix_1, ix_2, ix_3, ix_4, ix_5, ix_6, ix_7, ix_8, ix_9, ix_10, ix_11, ix_12, ix_13, ix_14, ix_15, ix_16, ix_17, ix_18, ix_19, ix_20, ix_21, Nat.reduceAdd, wI_c, wI_ne, wL_1, lupd_ne, up1_eq, up1_ne, eq_true h3, eq_true h5, eq_true h59, q1, q2, e8, e9, eq_true h4, hA.yes, hM.yes, m3, eq_true h6, ok_some]
    refine ⟨rfl, Or.inr ⟨?_, rfl, lgS.rf.wI (by decide) (by decide), hu.dbt (by decide), hv.dbt (by simp (disch := decide) only [ix_0, ix_1, ix_2, ix_3, ix_4, ix_5, ix_6, ix_7, ix_8, ix_9, ix_10, ix_11, ix_12, ix_13, ix_14, ix_15, ix_16, ix_17, ix_18, ix_19, ix_20, ix_21, Nat.reduceAdd, wI_c, wI_ne, wL_1, lupd_ne, up1_eq, up1_ne]; exact h1) (by simp (disch := decide) only [ix_0, ix_1, ix_2, ix_3, ix_4, ix_5, ix_6, ix_7, ix_8, ix_9, ix_10, ix_11, ix_12, ix_13, ix_14, ix_15, ix_16, ix_17, ix_18, ix_19, ix_20, ix_21, Nat.reduceAdd, wI_c, wI_ne, wL_1, lupd_ne, up1_eq, up1_ne]; exact h5) (by simp (disch := decide) only [ix_0, ix_1, ix_2, ix_3, ix_4, ix_5, ix_6, ix_7, ix_8, ix_9, ix_10, ix_11, ix_12, ix_13, ix_14, ix_15, ix_16, ix_17, ix_18, ix_19, ix_20, ix_21, Nat.reduceAdd, wI_c, wI_ne, wL_1, lupd_ne, up1_eq, up1_ne]; exact h3) rfl, hz.keep (F := [(115, 115, 0)]) (G := [(601, 601, 0)]) (fr.rf.wI rfl) (fr.rf.wI rfl) rfl rfl⟩⟩
    simp (disch := decide) only [ix_0, ix_1, ix_2, ix_3, ix_4, ix_5, ix_6, ix_7, ix_8, ix_9, ix_10, ix_11, ix_12, ix_13, ix_14, ix_15, ix_16, ix_17, ix_18, ix_19, ix_20, ix_21, Nat.reduceAdd, wI_c, wI_ne, wL_1, lupd_ne, up1_eq, up1_ne]; exact h0
  · simp (maxSteps := 2000000) (disch := decide) only [fItems_takeReading, fM_doTake_b49, fM_doTake, fItems_fixAddress, fM_settle, e_itemsHas n2, e_isItem (by rw [n1]; exact n2), n1, m1, ite_self, ltM_eq, ltI_eq, ltL_eq, bd1_some, bd2_some, ite_bI, if_true, if_false, ite_true, ite_false, eq_self, not_true_eq_false, not_false_eq_true, i10, outside_eq, in_eq, no_eq, eq_true h1, eq_false h2, hb, ix_0, ix_1, ix_2, ix_3, ix_4, ix_5, ix_6, ix_7, ix_8, ix_9, ix_10, ix_11, ix_12, ix_13, ix_14, ix_15, ix_16, ix_17, ix_18, ix_19, ix_20, ix_21, Nat.reduceAdd, wI_c, wI_ne, wL_1, lupd_ne, up1_eq, up1_ne, eq_true h3, eq_true h5, eq_true h59, q1, q2, e8, e9, eq_true h4, hA.yes, hM.yes, m3, eq_false h6, ok_some]
    refine ⟨rfl, Or.inr ⟨?_, rfl, (lgS.rf.wI (by decide) (by decide)).wI (by decide) (by decide), hu.adr ⟨m4, by simp (disch := decide) only [ix_0, ix_1, ix_2, ix_3, ix_4, ix_5, ix_6, ix_7, ix_8, ix_9, ix_10, ix_11, ix_12, ix_13, ix_14, ix_15, ix_16, ix_17, ix_18, ix_19, ix_20, ix_21, Nat.reduceAdd, wI_c, wI_ne, wL_1, lupd_ne, up1_eq, up1_ne]; exact m5⟩ (by decide), hv.adr (by have w : ¬ (s.1 52 3).toInt = -1 := fun w => h6 (by rw [eq_i]; exact w); omega) rfl, hz.adr (by have w : ¬ (s.1 52 3).toInt = -1 := fun w => h6 (by rw [eq_i]; exact w); omega)⟩⟩
    simp (disch := decide) only [ix_0, ix_1, ix_2, ix_3, ix_4, ix_5, ix_6, ix_7, ix_8, ix_9, ix_10, ix_11, ix_12, ix_13, ix_14, ix_15, ix_16, ix_17, ix_18, ix_19, ix_20, ix_21, Nat.reduceAdd, wI_c, wI_ne, wL_1, lupd_ne, up1_eq, up1_ne]; exact h0
theorem a_addressK {a b : Int32} (hA : AdmC s F A) (hM : FulM t F) (h0 : t.1 549 15 = 0) (h : RIt s t) (hk : RCk s t) (hx : RSx s t) (hp : RPo s t) : Ok (fItems_setAddress s a b) fun x => Ok (fM_doAddress t a b) fun y => AP (fun s t => RIt s t ∧ RCk s t ∧ RSx s t) (fun s t => RIt s t ∧ RCk s t ∧ RSx s t) F A s x y := by
  obtain ⟨⟨n1, n2, n3⟩, g1, g2, g3, g4, g5, g6, g7, g8, g9, b1, b2, b3, b4, b5, b6, b7, b8, b9⟩ := id h
  obtain ⟨⟨p1, p2, -⟩, -⟩ := id hp
  have hn : (fun s t => RIt s t ∧ RCk s t ∧ RSx s t) s (wI t 549 15 (cI 1)) := ⟨h.keep rf_fr no_fr rfl rfl, hk.keep rf_fr no_fr rfl rfl, hx.keep rf_fr no_fr rfl rfl⟩
  by_cases h1 : Has a (s.1 100 5)
  rotate_left
  · exact sim_no (c := cI (-101)) (by simp only [fItems_setAddress, fM_doAddress_b16, fM_doAddress_b41, fM_doAddress, fItems_fixAddress, fM_settle, e_itemsHas n2, e_isItem (by rw [n1]; exact n2), e_hasPoint p2, e_isPoint (by rw [p1]; exact p2), p1, n1, ite_self, ltM_eq, ltI_eq, ltL_eq, bd1_some, bd2_some, ite_bI, if_true, if_false, ite_true, ite_false, eq_self, not_true_eq_false, not_false_eq_true, i10, outside_eq, in_eq, no_eq, eq_false h1]) (by simp only [fItems_setAddress, fM_doAddress_b16, fM_doAddress_b41, fM_doAddress, fItems_fixAddress, fM_settle, e_itemsHas n2, e_isItem (by rw [n1]; exact n2), e_hasPoint p2, e_isPoint (by rw [p1]; exact p2), p1, n1, ite_self, ltM_eq, ltI_eq, ltL_eq, bd1_some, bd2_some, ite_bI, if_true, if_false, ite_true, ite_false, eq_self, not_true_eq_false, not_false_eq_true, i10, outside_eq, in_eq, no_eq, eq_false h1]) hn
  by_cases h2 : Has b (s.1 30 9)
  rotate_left
  · exact sim_no (c := cI (-101)) (by simp only [fItems_setAddress, fM_doAddress_b16, fM_doAddress_b41, fM_doAddress, fItems_fixAddress, fM_settle, e_itemsHas n2, e_isItem (by rw [n1]; exact n2), e_hasPoint p2, e_isPoint (by rw [p1]; exact p2), p1, n1, ite_self, ltM_eq, ltI_eq, ltL_eq, bd1_some, bd2_some, ite_bI, if_true, if_false, ite_true, ite_false, eq_self, not_true_eq_false, not_false_eq_true, i10, outside_eq, in_eq, no_eq, eq_true h1, eq_false h2]) (by simp only [fItems_setAddress, fM_doAddress_b16, fM_doAddress_b41, fM_doAddress, fItems_fixAddress, fM_settle, e_itemsHas n2, e_isItem (by rw [n1]; exact n2), e_hasPoint p2, e_isPoint (by rw [p1]; exact p2), p1, n1, ite_self, ltM_eq, ltI_eq, ltL_eq, bd1_some, bd2_some, ite_bI, if_true, if_false, ite_true, ite_false, eq_self, not_true_eq_false, not_false_eq_true, i10, outside_eq, in_eq, no_eq, eq_true h1, eq_false h2]) hn
  have hb : inb a 300 = true := h1.inb n3
  have hi := h1.ix
  have e8 := g8 _ hi
  obtain ⟨q1, q2⟩ := e_early h h1
  by_cases h3 : s.1 109 (ix a) = cI (-1)
  rotate_left
  · exact sim_no (c := cI (-103)) (by simp only [fItems_setAddress, fM_doAddress_b16, fM_doAddress_b41, fM_doAddress, fItems_fixAddress, fM_settle, e_itemsHas n2, e_isItem (by rw [n1]; exact n2), e_hasPoint p2, e_isPoint (by rw [p1]; exact p2), p1, n1, ite_self, ltM_eq, ltI_eq, ltL_eq, bd1_some, bd2_some, ite_bI, if_true, if_false, ite_true, ite_false, eq_self, not_true_eq_false, not_false_eq_true, i10, outside_eq, in_eq, no_eq, eq_true h1, eq_true h2, hb, ix_0, ix_1, ix_2, ix_3, ix_4, ix_5, ix_6, ix_7, ix_8, ix_9, ix_10, ix_11, ix_12, ix_13, ix_14, ix_15, ix_16, ix_17, ix_18, ix_19, ix_20, ix_21, Nat.reduceAdd, wI_c, wI_ne, wL_1, lupd_ne, up1_eq, up1_ne, eq_false h3]) (by simp only [fItems_setAddress, fM_doAddress_b16, fM_doAddress_b41, fM_doAddress, fItems_fixAddress, fM_settle, e_itemsHas n2, e_isItem (by rw [n1]; exact n2), e_hasPoint p2, e_isPoint (by rw [p1]; exact p2), p1, n1, ite_self, ltM_eq, ltI_eq, ltL_eq, bd1_some, bd2_some, ite_bI, if_true, if_false, ite_true, ite_false, eq_self, not_true_eq_false, not_false_eq_true, i10, outside_eq, in_eq, no_eq, eq_true h1, eq_true h2, hb, e8, eq_false h3]) hn
  by_cases h4 : s.1 102 (ix a) = 0 ∨ s.1 102 (ix a) = cI 1
  rotate_left
  · exact sim_no (c := cI (-103)) (by simp only [fItems_setAddress, fM_doAddress_b16, fM_doAddress_b41, fM_doAddress, fItems_fixAddress, fM_settle, e_itemsHas n2, e_isItem (by rw [n1]; exact n2), e_hasPoint p2, e_isPoint (by rw [p1]; exact p2), p1, n1, ite_self, ltM_eq, ltI_eq, ltL_eq, bd1_some, bd2_some, ite_bI, if_true, if_false, ite_true, ite_false, eq_self, not_true_eq_false, not_false_eq_true, i10, outside_eq, in_eq, no_eq, eq_true h1, eq_true h2, hb, ix_0, ix_1, ix_2, ix_3, ix_4, ix_5, ix_6, ix_7, ix_8, ix_9, ix_10, ix_11, ix_12, ix_13, ix_14, ix_15, ix_16, ix_17, ix_18, ix_19, ix_20, ix_21, Nat.reduceAdd, wI_c, wI_ne, wL_1, lupd_ne, up1_eq, up1_ne, eq_true h3, q1, eq_false h4]) (by simp only [fItems_setAddress, fM_doAddress_b16, fM_doAddress_b41, fM_doAddress, fItems_fixAddress, fM_settle, e_itemsHas n2, e_isItem (by rw [n1]; exact n2), e_hasPoint p2, e_isPoint (by rw [p1]; exact p2), p1, n1, ite_self, ltM_eq, ltI_eq, ltL_eq, bd1_some, bd2_some, ite_bI, if_true, if_false, ite_true, ite_false, eq_self, not_true_eq_false, not_false_eq_true, i10, outside_eq, in_eq, no_eq, eq_true h1, eq_true h2, hb, e8, eq_true h3, q2, eq_false h4]) hn
  by_cases hF : F = true
  · subst hF
    exact sim_no (c := cI (-104)) (by simp only [fItems_setAddress, fM_doAddress_b16, fM_doAddress_b41, fM_doAddress, fItems_fixAddress, fM_settle, e_itemsHas n2, e_isItem (by rw [n1]; exact n2), e_hasPoint p2, e_isPoint (by rw [p1]; exact p2), p1, n1, ite_self, ltM_eq, ltI_eq, ltL_eq, bd1_some, bd2_some, ite_bI, if_true, if_false, ite_true, ite_false, eq_self, not_true_eq_false, not_false_eq_true, i10, outside_eq, in_eq, no_eq, eq_true h1, eq_true h2, hb, ix_0, ix_1, ix_2, ix_3, ix_4, ix_5, ix_6, ix_7, ix_8, ix_9, ix_10, ix_11, ix_12, ix_13, ix_14, ix_15, ix_16, ix_17, ix_18, ix_19, ix_20, ix_21, Nat.reduceAdd, wI_c, wI_ne, wL_1, lupd_ne, up1_eq, up1_ne, eq_true h3, q1, eq_true h4, hA.no]) (by simp only [fItems_setAddress, fM_doAddress_b16, fM_doAddress_b41, fM_doAddress, fItems_fixAddress, fM_settle, e_itemsHas n2, e_isItem (by rw [n1]; exact n2), e_hasPoint p2, e_isPoint (by rw [p1]; exact p2), p1, n1, ite_self, ltM_eq, ltI_eq, ltL_eq, bd1_some, bd2_some, ite_bI, if_true, if_false, ite_true, ite_false, eq_self, not_true_eq_false, not_false_eq_true, i10, outside_eq, in_eq, no_eq, eq_true h1, eq_true h2, hb, e8, eq_true h3, q2, eq_true h4, hM.no]) hn
  have hF2 : F = false := by cases F <;> simp_all
  subst hF2
  simp (maxSteps := 2000000) (disch := decide) only [fItems_setAddress, fM_doAddress_b16, fM_doAddress_b41, fM_doAddress, fItems_fixAddress, fM_settle, e_itemsHas n2, e_isItem (by rw [n1]; exact n2), e_hasPoint p2, e_isPoint (by rw [p1]; exact p2), p1, n1, ite_self, ltM_eq, ltI_eq, ltL_eq, bd1_some, bd2_some, ite_bI, if_true, if_false, ite_true, ite_false, eq_self, not_true_eq_false, not_false_eq_true, i10, outside_eq, in_eq, no_eq, eq_true h1, eq_true h2, hb, ix_0, ix_1, ix_2, ix_3, ix_4, ix_5, ix_6, ix_7, ix_8, ix_9, ix_10, ix_11, ix_12, ix_13, ix_14, ix_15, ix_16, ix_17, ix_18, ix_19, ix_20, ix_21, Nat.reduceAdd, wI_c, wI_ne, wL_1, lupd_ne, up1_eq, up1_ne, eq_true h3, q1, q2, e8, eq_true h4, hA.yes, hM.yes, ok_some]
  have b1' := h2.1
  have b2' := h2.2
  refine ⟨rfl, Or.inr ⟨?_, rfl, (lgS.rf.wI (by decide) (by decide)).wI (by decide) (by decide), RIt.adr (h.keep lupd_fr rf_fr rfl rfl) ⟨by omega, by simp (disch := decide) only [ix_0, ix_1, ix_2, ix_3, ix_4, ix_5, ix_6, ix_7, ix_8, ix_9, ix_10, ix_11, ix_12, ix_13, ix_14, ix_15, ix_16, ix_17, ix_18, ix_19, ix_20, ix_21, Nat.reduceAdd, wI_c, wI_ne, wL_1, lupd_ne, up1_eq, up1_ne]; omega⟩ (by decide), RCk.adr (hk.keep lupd_fr rf_fr rfl rfl) b1' rfl, RSx.adr (hx.keep lupd_fr rf_fr rfl rfl) b1'⟩⟩
  simp (disch := decide) only [ix_0, ix_1, ix_2, ix_3, ix_4, ix_5, ix_6, ix_7, ix_8, ix_9, ix_10, ix_11, ix_12, ix_13, ix_14, ix_15, ix_16, ix_17, ix_18, ix_19, ix_20, ix_21, Nat.reduceAdd, wI_c, wI_ne, wL_1, lupd_ne, up1_eq, up1_ne]; exact h0
end
