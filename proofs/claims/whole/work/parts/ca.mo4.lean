/-! ===== LEVEL 3: money: an order paid ===== -/
section
variable {s t : ev_M}
theorem ROm.one {k : Int32} (h : ROm s t) (hk : Has k (s.1 78 8)) (h0 : s.1 87 (ix k) = 0) : 1 ≤ (s.1 78 9).toInt ∧ (s.1 78 9).toInt ≤ 60 := by
  obtain ⟨⟨n1, n2, n3⟩, -, -, -, -, -, o1, -⟩ := h
  have q := opn_set (f := s.1 87) (k := ix k) (x := cI 1) h0 (by decide) (ix (s.1 78 8)) hk.ix
  have ho := opn_le (f := s.1 87) (ix (s.1 78 8))
  have hj : ix (s.1 78 8) ≤ 60 := by rw [ix_toNat]; omega
  omega
theorem ROm.setp {k x : Int32} (h : ROm s t) (hk : Has k (s.1 78 8)) (h0 : s.1 87 (ix k) = 0) (hx : x = cI 1 ∨ x = cI 2) : ROm (wI (wI s 87 (ix k) x) 78 9 (s.1 78 9 - cI 1)) (wI t 632 (ix k) x) := by
  obtain ⟨p1, p2⟩ := h.one hk h0
  obtain ⟨⟨n1, n2, n3⟩, g1, g2, g3, g4, g5, o1, b1, b2, b3, b4⟩ := h
  have hx0 : ¬ x = 0 := by rcases hx with rfl | rfl <;> decide
  have hx2 : 0 ≤ x.toInt ∧ x.toInt ≤ 2 := by rcases hx with rfl | rfl <;> decide
  have q := opn_set (f := s.1 87) (k := ix k) (x := x) h0 hx0 (ix (s.1 78 8)) hk.ix
  unfold ROm
  simp (disch := decide) only [ix_0, ix_1, ix_2, ix_3, ix_4, ix_5, ix_6, ix_7, ix_8, ix_9, ix_10, ix_11, ix_12, ix_13, ix_14, ix_15, ix_16, ix_17, ix_18, ix_19, ix_20, ix_21, Nat.reduceAdd, wI_c, wI_ne, wL_1, lupd_ne, up1_eq, up1_ne]
  refine ⟨⟨n1, n2, n3⟩, g1.set rfl, g2, g3, g4, g5, ?_, b1.set hx2, b2, b3, b4⟩
  rw [sub_toInt (by rw [show (cI 1).toInt = 1 from rfl]; omega) (by rw [show (cI 1).toInt = 1 from rfl]; omega), show (cI 1).toInt = 1 from rfl]
  omega
end
section
variable {s t : ev_M} {F : Bool} {A : Nat → Nat → Int32}
theorem a_payOrder {a b c : Int32} (hA : AdmC s F A) (hM : FulM t F) (h0 : t.1 549 15 = 0) (hu : RCu s t) (h : RMo s t) : Ok (fMoney_payOrder s a b c) fun x => Ok (fM_doPayOut t a b c) fun y => AP RMo RMo F A s x y := by
  obtain ⟨hg, ho, hr⟩ := id h
  obtain ⟨⟨n1, n2, n3⟩, -⟩ := id hu
  obtain ⟨⟨k1, k2, k3⟩, g1, g2, g3, g4, g5, o1, b1, b2, b3, b4⟩ := id ho
  have hn : RMo s (wI t 549 15 (cI 1)) := ⟨hg.keep rf_fr no_fr rfl rfl, ho.keep rf_fr no_fr rfl rfl, hr.keep rf_fr no_fr rfl rfl⟩
  by_cases h1 : Has a (s.1 78 8)
  rotate_left
  · exact sim_no (c := cI (-101)) (by simp only [fMoney_payOrder, fMoney_settle, fM_doPayOut_b42, fM_doPayOut, e_hasOrder k2, bI_congr (inr_has k2), k1, ltM_eq, ltI_eq, ltL_eq, bd1_some, bd2_some, ite_bI, if_true, if_false, ite_true, ite_false, eq_self, not_true_eq_false, not_false_eq_true, i10, outside_eq, in_eq, no_eq, eq_false h1]) (by simp only [fMoney_payOrder, fMoney_settle, fM_doPayOut_b42, fM_doPayOut, e_hasOrder k2, bI_congr (inr_has k2), k1, ltM_eq, ltI_eq, ltL_eq, bd1_some, bd2_some, ite_bI, if_true, if_false, ite_true, ite_false, eq_self, not_true_eq_false, not_false_eq_true, i10, outside_eq, in_eq, no_eq, eq_false h1]) hn
  by_cases h2 : InR b (cI 1) (cI 99)
  rotate_left
  · exact sim_no (c := cI (-102)) (by simp only [fMoney_payOrder, fMoney_settle, fM_doPayOut_b42, fM_doPayOut, e_hasOrder k2, bI_congr (inr_has k2), k1, ltM_eq, ltI_eq, ltL_eq, bd1_some, bd2_some, ite_bI, if_true, if_false, ite_true, ite_false, eq_self, not_true_eq_false, not_false_eq_true, i10, outside_eq, in_eq, no_eq, eq_true h1, eq_false h2]) (by simp only [fMoney_payOrder, fMoney_settle, fM_doPayOut_b42, fM_doPayOut, e_hasOrder k2, bI_congr (inr_has k2), k1, ltM_eq, ltI_eq, ltL_eq, bd1_some, bd2_some, ite_bI, if_true, if_false, ite_true, ite_false, eq_self, not_true_eq_false, not_false_eq_true, i10, outside_eq, in_eq, no_eq, eq_true h1, eq_false h2]) hn
  by_cases h3 : InR c (cI 0) (cI 9999)
  rotate_left
  · exact sim_no (c := cI (-102)) (by simp only [fMoney_payOrder, fMoney_settle, fM_doPayOut_b42, fM_doPayOut, e_hasOrder k2, bI_congr (inr_has k2), k1, ltM_eq, ltI_eq, ltL_eq, bd1_some, bd2_some, ite_bI, if_true, if_false, ite_true, ite_false, eq_self, not_true_eq_false, not_false_eq_true, i10, outside_eq, in_eq, no_eq, eq_true h1, eq_true h2, eq_false h3]) (by simp only [fMoney_payOrder, fMoney_settle, fM_doPayOut_b42, fM_doPayOut, e_hasOrder k2, bI_congr (inr_has k2), k1, ltM_eq, ltI_eq, ltL_eq, bd1_some, bd2_some, ite_bI, if_true, if_false, ite_true, ite_false, eq_self, not_true_eq_false, not_false_eq_true, i10, outside_eq, in_eq, no_eq, eq_true h1, eq_true h2, eq_false h3]) hn
  have hb : inb a 60 = true := h1.inb k3
  have hi := h1.ix
  have q1 := g1 _ hi
  have q3 := g3 _ hi
  have q4 := g4 _ hi
  by_cases h4 : s.1 87 (ix a) = 0
  rotate_left
  · exact sim_no (c := cI (-103)) (by simp only [fMoney_payOrder, fMoney_settle, fM_doPayOut_b42, fM_doPayOut, e_hasOrder k2, bI_congr (inr_has k2), k1, ltM_eq, ltI_eq, ltL_eq, bd1_some, bd2_some, ite_bI, if_true, if_false, ite_true, ite_false, eq_self, not_true_eq_false, not_false_eq_true, i10, outside_eq, in_eq, no_eq, eq_true h1, eq_true h2, eq_true h3, hb, ix_0, ix_1, ix_2, ix_3, ix_4, ix_5, ix_6, ix_7, ix_8, ix_9, ix_10, ix_11, ix_12, ix_13, ix_14, ix_15, ix_16, ix_17, ix_18, ix_19, ix_20, ix_21, Nat.reduceAdd, wI_c, wI_ne, wL_1, lupd_ne, up1_eq, up1_ne, eq_false h4]) (by simp only [fMoney_payOrder, fMoney_settle, fM_doPayOut_b42, fM_doPayOut, e_hasOrder k2, bI_congr (inr_has k2), k1, ltM_eq, ltI_eq, ltL_eq, bd1_some, bd2_some, ite_bI, if_true, if_false, ite_true, ite_false, eq_self, not_true_eq_false, not_false_eq_true, i10, outside_eq, in_eq, no_eq, eq_true h1, eq_true h2, eq_true h3, hb, q1, eq_false h4]) hn
  by_cases h5 : s.1 89 (ix a) = b
  rotate_left
  · have h5' : ¬ b = s.1 89 (ix a) := fun q => h5 q.symm
    exact sim_no (c := cI (-112)) (by simp only [fMoney_payOrder, fMoney_settle, fM_doPayOut_b42, fM_doPayOut, e_hasOrder k2, bI_congr (inr_has k2), k1, ltM_eq, ltI_eq, ltL_eq, bd1_some, bd2_some, ite_bI, if_true, if_false, ite_true, ite_false, eq_self, not_true_eq_false, not_false_eq_true, i10, outside_eq, in_eq, no_eq, eq_true h1, eq_true h2, eq_true h3, hb, ix_0, ix_1, ix_2, ix_3, ix_4, ix_5, ix_6, ix_7, ix_8, ix_9, ix_10, ix_11, ix_12, ix_13, ix_14, ix_15, ix_16, ix_17, ix_18, ix_19, ix_20, ix_21, Nat.reduceAdd, wI_c, wI_ne, wL_1, lupd_ne, up1_eq, up1_ne, eq_true h4, eq_false h5]) (by simp only [fMoney_payOrder, fMoney_settle, fM_doPayOut_b42, fM_doPayOut, e_hasOrder k2, bI_congr (inr_has k2), k1, ltM_eq, ltI_eq, ltL_eq, bd1_some, bd2_some, ite_bI, if_true, if_false, ite_true, ite_false, eq_self, not_true_eq_false, not_false_eq_true, i10, outside_eq, in_eq, no_eq, eq_true h1, eq_true h2, eq_true h3, hb, q1, q3, eq_true h4, eq_false h5']) hn
  by_cases h6 : c = 0
  · exact sim_no (c := cI (-113)) (by simp only [fMoney_payOrder, fMoney_settle, fM_doPayOut_b42, fM_doPayOut, e_hasOrder k2, bI_congr (inr_has k2), k1, ltM_eq, ltI_eq, ltL_eq, bd1_some, bd2_some, ite_bI, if_true, if_false, ite_true, ite_false, eq_self, not_true_eq_false, not_false_eq_true, i10, outside_eq, in_eq, no_eq, eq_true h1, eq_true h2, eq_true h3, hb, ix_0, ix_1, ix_2, ix_3, ix_4, ix_5, ix_6, ix_7, ix_8, ix_9, ix_10, ix_11, ix_12, ix_13, ix_14, ix_15, ix_16, ix_17, ix_18, ix_19, ix_20, ix_21, Nat.reduceAdd, wI_c, wI_ne, wL_1, lupd_ne, up1_eq, up1_ne, eq_true h4, eq_true h5, eq_true h6]) (by simp only [fMoney_payOrder, fMoney_settle, fM_doPayOut_b42, fM_doPayOut, e_hasOrder k2, bI_congr (inr_has k2), k1, ltM_eq, ltI_eq, ltL_eq, bd1_some, bd2_some, ite_bI, if_true, if_false, ite_true, ite_false, eq_self, not_true_eq_false, not_false_eq_true, i10, outside_eq, in_eq, no_eq, eq_true h1, eq_true h2, eq_true h3, hb, q1, q3, eq_true h4, eq_true h5.symm, eq_true h6]) hn
  by_cases hF : F = true
  · subst hF
    exact sim_no (c := cI (-104)) (by simp only [fMoney_payOrder, fMoney_settle, fM_doPayOut_b42, fM_doPayOut, e_hasOrder k2, bI_congr (inr_has k2), k1, ltM_eq, ltI_eq, ltL_eq, bd1_some, bd2_some, ite_bI, if_true, if_false, ite_true, ite_false, eq_self, not_true_eq_false, not_false_eq_true, i10, outside_eq, in_eq, no_eq, eq_true h1, eq_true h2, eq_true h3, hb, ix_0, ix_1, ix_2, ix_3, ix_4, ix_5, ix_6, ix_7, ix_8, ix_9, ix_10, ix_11, ix_12, ix_13, ix_14, ix_15, ix_16, ix_17, ix_18, ix_19, ix_20, ix_21, Nat.reduceAdd, wI_c, wI_ne, wL_1, lupd_ne, up1_eq, up1_ne, eq_true h4, eq_true h5, eq_false h6, hA.no]) (by simp only [fMoney_payOrder, fMoney_settle, fM_doPayOut_b42, fM_doPayOut, e_hasOrder k2, bI_congr (inr_has k2), k1, ltM_eq, ltI_eq, ltL_eq, bd1_some, bd2_some, ite_bI, if_true, if_false, ite_true, ite_false, eq_self, not_true_eq_false, not_false_eq_true, i10, outside_eq, in_eq, no_eq, eq_true h1, eq_true h2, eq_true h3, hb, q1, q3, eq_true h4, eq_true h5.symm, eq_false h6, hM.no]) hn
  have hF2 : F = false := by cases F <;> simp_all
  subst hF2
  obtain ⟨p1, p2⟩ := ho.one h1 h4
  have hb4 := b4 _ hi
  have w : (lupd A s).1 78 = s.1 78 := lupd_ne (Or.inr (by decide))
  have w87 : (lupd A s).1 87 = s.1 87 := lupd_ne (Or.inr (by decide))
  have w90 : (lupd A s).1 90 = s.1 90 := lupd_ne (Or.inr (by decide))
  have ft0 : fr [(632, 632, 0)] t (wI t 632 (ix a) (cI 1)) := fr.rf.wI rfl
  have hg2 : RLg (lupd A s) (wI t 632 (ix a) (cI 1)) := hg.keep lupd_fr ft0 (by decide +kernel) (by decide +kernel)
  have hr2 : (s.1 78 6).toInt + (s.1 78 9).toInt ≤ 2000 := hr
  obtain ⟨s', t', es, et, hg3, e6, e7, e8⟩ := hg2.pay (f := cI 3) (g := cI 1) (c := s.1 90 (ix a)) (i := cI (-1)) (by rw [w]; omega) (by decide) (by decide) (by decide) (by decide) hb4.1 (by omega) (fun q => absurd q (by decide)) (by rw [w, show (cI 3).toInt = 3 from rfl]; omega) (by rw [w, show (cI 1).toInt = 1 from rfl]; omega) (by decide) (by rw [w]; exact n2)
  have fs := fr_fMoney_transfer es
  have ft := fr_fM_pay et
  have w9 : s'.1 78 9 = s.1 78 9 := by rw [(fs.1 78 9 rfl).1, w]
  have w8 : s'.1 78 8 = s.1 78 8 := by rw [(fs.1 78 8 rfl).1, w]
  have x87 : s'.1 87 = s.1 87 := by rw [show s'.1 87 = (lupd A s).1 87 from funext fun k => (fs.1 87 k rfl).1, w87]
  have x90 : s'.1 90 = s.1 90 := by rw [show s'.1 90 = (lupd A s).1 90 from funext fun k => (fs.1 90 k rfl).1, w90]
  have v35 : t'.1 635 = t.1 635 := by rw [show t'.1 635 = (wI t 632 (ix a) (cI 1)).1 635 from funext fun k => (ft.1 635 k rfl).1, wI_ne (by decide)]
  simp (maxSteps := 2000000) (disch := decide) only [fMoney_payOrder, fMoney_settle, fM_doPayOut_b42, fM_doPayOut, e_hasOrder k2, bI_congr (inr_has k2), k1, ltM_eq, ltI_eq, ltL_eq, bd1_some, bd2_some, ite_bI, if_true, if_false, ite_true, ite_false, eq_self, not_true_eq_false, not_false_eq_true, i10, outside_eq, in_eq, no_eq, eq_true h1, eq_true h2, eq_true h3, hb, ix_0, ix_1, ix_2, ix_3, ix_4, ix_5, ix_6, ix_7, ix_8, ix_9, ix_10, ix_11, ix_12, ix_13, ix_14, ix_15, ix_16, ix_17, ix_18, ix_19, ix_20, ix_21, Nat.reduceAdd, wI_c, wI_ne, wL_1, lupd_ne, up1_eq, up1_ne, q1, q3, q4, eq_true h4, eq_true h5, eq_true h5.symm, eq_false h6, hA.yes, hM.yes, es, et, w9, x90, v35, ok_some]
  have ho1 : ROm s' t := (ho.keep lupd_fr rf_fr (by decide +kernel) (by decide +kernel)).keep fs rf_fr (by decide +kernel) (by decide +kernel)
  have ho2 := ho1.setp (k := a) (x := cI 1) (by rw [w8]; exact h1) (by rw [x87]; exact h4) (Or.inl rfl)
  rw [w9] at ho2
  have fs2 : fr [(87, 87, 0), (78, 78, 10)] s' (wI (wI s' 87 (ix a) (cI 1)) 78 9 (s.1 78 9 - cI 1)) := (fr.rf.wI rfl).wI rfl
  refine ⟨rfl, Or.inr ⟨?_, rfl, ?_, hg3.keep fs2 rf_fr (by decide +kernel) (by decide +kernel), ho2.keep rf_fr ft (by decide +kernel) (by decide +kernel), ?_⟩⟩
  · rw [(ft.1 549 15 rfl).1, (ft0.1 549 15 rfl).1]; exact h0
  · exact ((lgS.fr fs (by decide +kernel) (by decide)).wI (by decide) (by decide)).wI (by decide) (by decide)
  · unfold RRm
    simp (disch := decide) only [ix_0, ix_1, ix_2, ix_3, ix_4, ix_5, ix_6, ix_7, ix_8, ix_9, ix_10, ix_11, ix_12, ix_13, ix_14, ix_15, ix_16, ix_17, ix_18, ix_19, ix_20, ix_21, Nat.reduceAdd, wI_c, wI_ne, wL_1, lupd_ne, up1_eq, up1_ne, e6, w]
    rw [inc_i (by omega), sub_toInt (by rw [show (cI 1).toInt = 1 from rfl]; omega) (by rw [show (cI 1).toInt = 1 from rfl]; omega), show (cI 1).toInt = 1 from rfl]
    omega
end
