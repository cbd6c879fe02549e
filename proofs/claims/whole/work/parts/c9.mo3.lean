/-! ===== LEVEL 3: money: orders made and paid ===== -/
theorem lgc_lt {x y : Int64} : lg_cmp x y < 0 ↔ x.toInt < y.toInt := by
  unfold lg_cmp
  by_cases h : x > y
  · have h1 : y.toInt < x.toInt := Int64.lt_iff_toInt_lt.mp h
    rw [if_pos h]
    exact ⟨fun q => absurd q (by decide), fun q => by omega⟩
  · have h1 : ¬ y.toInt < x.toInt := fun q => h (Int64.lt_iff_toInt_lt.mpr q)
    rw [if_neg h]
    by_cases e : x = y
    · rw [if_pos e, e]
      exact ⟨fun q => absurd q (by decide), fun q => by omega⟩
    · rw [if_neg e]
      have h2 : ¬ x.toInt = y.toInt := fun q => e (Int64.toInt_inj.mp q)
      exact ⟨fun _ => by omega, fun _ => by decide⟩
section
variable {s t : ev_M}
theorem ROm.add {a b c d : Int32} (h : ROm s t) (hl : (s.1 78 8).toInt < 60) (ha : 4 ≤ a.toInt ∧ a.toInt ≤ 3 + (s.1 78 3).toInt) (hb : 1 ≤ b.toInt ∧ b.toInt ≤ 99) (hc : 1 ≤ c.toInt ∧ c.toInt ≤ 100000) : ROm (wI (wI (wI (wI (wI (wI (wI s 87 (ix (s.1 78 8)) (cI 0)) 88 (ix (s.1 78 8)) a) 89 (ix (s.1 78 8)) b) 90 (ix (s.1 78 8)) c) 91 (ix (s.1 78 8)) d) 78 9 (s.1 78 9 + cI 1)) 78 8 (s.1 78 8 + cI 1)) (wI (wI (wI (wI (wI (wI t 632 (ix (s.1 78 8)) (cI 0)) 633 (ix (s.1 78 8)) a) 634 (ix (s.1 78 8)) b) 635 (ix (s.1 78 8)) c) 636 (ix (s.1 78 8)) d) 549 119 (s.1 78 8 + cI 1)) := by
  obtain ⟨⟨n1, n2, n3⟩, g1, g2, g3, g4, g5, o1, b1, b2, b3, b4⟩ := h
  have e : (s.1 78 8 + cI 1).toInt = (s.1 78 8).toInt + 1 := inc_i (by omega)
  have ei : ix (s.1 78 8 + cI 1) = ix (s.1 78 8) + 1 := ix_inc n2 (by omega)
  have ho := opn_le (f := s.1 87) (ix (s.1 78 8))
  have hj : ix (s.1 78 8) ≤ 60 := by rw [ix_toNat]; omega
  unfold ROm
  simp (disch := decide) only [ix_0, ix_1, ix_2, ix_3, ix_4, ix_5, ix_6, ix_7, ix_8, Nat.reduceAdd, wI_c, wI_ne, wL_1, lupd_ne, up1_eq, up1_ne, ei]
  refine ⟨⟨trivial, by omega, by omega⟩, g1.ext rfl rfl, g2.ext rfl rfl, g3.ext rfl rfl, g4.ext rfl rfl, g5.ext rfl rfl, ?_, b1.ext ⟨by decide, by decide⟩ rfl, b2.ext ha rfl, b3.ext hb rfl, b4.ext hc rfl⟩
  simp only [opn, up1_eq]
  rw [if_pos (show cI 0 = 0 from rfl), opn_congr (f := s.1 87) _ (fun j hj => up1_ne (by omega)), inc_i (by omega), o1]
  omega
end
section
variable {s t : ev_M} {F : Bool} {A : Nat → Nat → Int32}
theorem a_makeOrder {a b c : Int32} (hA : AdmC s F A) (hM : FulM t F) (h0 : t.1 549 15 = 0) (hu : RCu s t) (htm : RTim s t) (h : RMo s t) : Ok (fMoney_makeOrder s a b c) fun x => Ok (fM_doOrder t a b c) fun y => AP RMo RMo F A s x y := by
  obtain ⟨hg, ho, hr⟩ := id h
  obtain ⟨⟨n1, n2, n3⟩, -⟩ := id hu
  obtain ⟨⟨m1, m2, m3⟩, -⟩ := id hg
  obtain ⟨⟨k1, k2, k3⟩, -, -, -, -, -, o1, -⟩ := id ho
  obtain ⟨⟨c1, c2⟩, -⟩ := id htm
  have hn : RMo s (wI t 549 15 (cI 1)) := ⟨hg.keep rf_fr no_fr rfl rfl, ho.keep rf_fr no_fr rfl rfl, hr.keep rf_fr no_fr rfl rfl⟩
  have hop := ho.opnE
  have z := eq_false (show ¬ cI 1440 = 0 by decide)
  by_cases h1 : Cus a (s.1 78 3)
  rotate_left
  · exact sim_no (c := cI (-101)) (by simp only [fMoney_makeOrder, fM_doOrder_b36, fM_doOrder_b91, fM_doOrder, e_isCus n2 n3, e_isCusM (by rw [n1]; exact n2) (by rw [n1]; exact n3), n1, m1, k1, e_room, e_ledger, hop, fChron_today, fM_today, z, ltM_eq, ltI_eq, ltL_eq, bd1_some, bd2_some, ite_bI, if_true, if_false, ite_true, ite_false, eq_self, not_true_eq_false, not_false_eq_true, i10, outside_eq, in_eq, no_eq, eq_false h1]) (by simp only [fMoney_makeOrder, fM_doOrder_b36, fM_doOrder_b91, fM_doOrder, e_isCus n2 n3, e_isCusM (by rw [n1]; exact n2) (by rw [n1]; exact n3), n1, m1, k1, e_room, e_ledger, hop, fChron_today, fM_today, z, ltM_eq, ltI_eq, ltL_eq, bd1_some, bd2_some, ite_bI, if_true, if_false, ite_true, ite_false, eq_self, not_true_eq_false, not_false_eq_true, i10, outside_eq, in_eq, no_eq, eq_false h1]) hn
  by_cases h2 : InR b (cI 1) (cI 99)
  rotate_left
  · exact sim_no (c := cI (-102)) (by simp only [fMoney_makeOrder, fM_doOrder_b36, fM_doOrder_b91, fM_doOrder, e_isCus n2 n3, e_isCusM (by rw [n1]; exact n2) (by rw [n1]; exact n3), n1, m1, k1, e_room, e_ledger, hop, fChron_today, fM_today, z, ltM_eq, ltI_eq, ltL_eq, bd1_some, bd2_some, ite_bI, if_true, if_false, ite_true, ite_false, eq_self, not_true_eq_false, not_false_eq_true, i10, outside_eq, in_eq, no_eq, eq_true h1, eq_false h2]) (by simp only [fMoney_makeOrder, fM_doOrder_b36, fM_doOrder_b91, fM_doOrder, e_isCus n2 n3, e_isCusM (by rw [n1]; exact n2) (by rw [n1]; exact n3), n1, m1, k1, e_room, e_ledger, hop, fChron_today, fM_today, z, ltM_eq, ltI_eq, ltL_eq, bd1_some, bd2_some, ite_bI, if_true, if_false, ite_true, ite_false, eq_self, not_true_eq_false, not_false_eq_true, i10, outside_eq, in_eq, no_eq, eq_true h1, eq_false h2]) hn
  by_cases h3 : InR c (cI 1) (cI 100000)
  rotate_left
  · exact sim_no (c := cI (-102)) (by simp only [fMoney_makeOrder, fM_doOrder_b36, fM_doOrder_b91, fM_doOrder, e_isCus n2 n3, e_isCusM (by rw [n1]; exact n2) (by rw [n1]; exact n3), n1, m1, k1, e_room, e_ledger, hop, fChron_today, fM_today, z, ltM_eq, ltI_eq, ltL_eq, bd1_some, bd2_some, ite_bI, if_true, if_false, ite_true, ite_false, eq_self, not_true_eq_false, not_false_eq_true, i10, outside_eq, in_eq, no_eq, eq_true h1, eq_true h2, eq_false h3]) (by simp only [fMoney_makeOrder, fM_doOrder_b36, fM_doOrder_b91, fM_doOrder, e_isCus n2 n3, e_isCusM (by rw [n1]; exact n2) (by rw [n1]; exact n3), n1, m1, k1, e_room, e_ledger, hop, fChron_today, fM_today, z, ltM_eq, ltI_eq, ltL_eq, bd1_some, bd2_some, ite_bI, if_true, if_false, ite_true, ite_false, eq_self, not_true_eq_false, not_false_eq_true, i10, outside_eq, in_eq, no_eq, eq_true h1, eq_true h2, eq_false h3]) hn
  have a1 := h1.1
  have a2 := h1.2
  have hi : inb a 34 = true := inb_iff.mpr ⟨by omega, by omega⟩
  have hb := hg.bal (k := a) (by omega) (by omega)
  by_cases h4 : lg_cmp (s.2.1 80 (ix a)) (Int32.toInt64 c) < 0
  · exact sim_no (c := cI (-116)) (by simp only [fMoney_makeOrder, fM_doOrder_b36, fM_doOrder_b91, fM_doOrder, e_isCus n2 n3, e_isCusM (by rw [n1]; exact n2) (by rw [n1]; exact n3), n1, m1, k1, e_room, e_ledger, hop, fChron_today, fM_today, z, ltM_eq, ltI_eq, ltL_eq, bd1_some, bd2_some, ite_bI, if_true, if_false, ite_true, ite_false, eq_self, not_true_eq_false, not_false_eq_true, i10, outside_eq, in_eq, no_eq, eq_true h1, eq_true h2, eq_true h3, hi, hb, eq_true h4]) (by simp only [fMoney_makeOrder, fM_doOrder_b36, fM_doOrder_b91, fM_doOrder, e_isCus n2 n3, e_isCusM (by rw [n1]; exact n2) (by rw [n1]; exact n3), n1, m1, k1, e_room, e_ledger, hop, fChron_today, fM_today, z, ltM_eq, ltI_eq, ltL_eq, bd1_some, bd2_some, ite_bI, if_true, if_false, ite_true, ite_false, eq_self, not_true_eq_false, not_false_eq_true, i10, outside_eq, in_eq, no_eq, eq_true h1, eq_true h2, eq_true h3, hi, hb, eq_true h4]) hn
  by_cases h5 : s.1 78 8 < cI 60
  rotate_left
  · have h59 : s.1 78 8 = cI 60 := cap_eq h5 k3
    exact sim_no (c := cI (-104)) (by simp only [fMoney_makeOrder, fM_doOrder_b36, fM_doOrder_b91, fM_doOrder, e_isCus n2 n3, e_isCusM (by rw [n1]; exact n2) (by rw [n1]; exact n3), n1, m1, k1, e_room, e_ledger, hop, fChron_today, fM_today, z, ltM_eq, ltI_eq, ltL_eq, bd1_some, bd2_some, ite_bI, if_true, if_false, ite_true, ite_false, eq_self, not_true_eq_false, not_false_eq_true, i10, outside_eq, in_eq, no_eq, eq_true h1, eq_true h2, eq_true h3, hi, hb, eq_false h4, eq_false h5]) (by simp only [fMoney_makeOrder, fM_doOrder_b36, fM_doOrder_b91, fM_doOrder, e_isCus n2 n3, e_isCusM (by rw [n1]; exact n2) (by rw [n1]; exact n3), n1, m1, k1, e_room, e_ledger, hop, fChron_today, fM_today, z, ltM_eq, ltI_eq, ltL_eq, bd1_some, bd2_some, ite_bI, if_true, if_false, ite_true, ite_false, eq_self, not_true_eq_false, not_false_eq_true, i10, outside_eq, in_eq, no_eq, eq_true h1, eq_true h2, eq_true h3, hi, hb, eq_false h4, eq_true h59]) hn
  have h59 : ¬ s.1 78 8 = cI 60 := cap_ne h5
  have hl5 := opn_le (f := s.1 87) (ix (s.1 78 8))
  have hj5 : ix (s.1 78 8) ≤ 60 := by rw [ix_toNat]; omega
  have er := ho.room hg (a := cI 2) (by decide) (by decide)
  have er2 : s.1 78 6 + cI 1 + (s.1 78 9 + cI 1) ≤ cI 2000 ↔ s.1 78 6 + cI 2 + s.1 78 9 ≤ cI 2000 := by
    have q : s.1 78 6 + cI 1 + (s.1 78 9 + cI 1) = s.1 78 6 + cI 2 + s.1 78 9 := by
      rw [show cI 2 = cI 1 + cI 1 from rfl]
      ac_rfl
    rw [q]
  by_cases h6 : s.1 78 6 + cI 2 + s.1 78 9 ≤ cI 2000
  rotate_left
  · have h6' := fun q => h6 (er2.mp q)
    exact sim_no (c := cI (-104)) (by simp only [fMoney_makeOrder, fM_doOrder_b36, fM_doOrder_b91, fM_doOrder, e_isCus n2 n3, e_isCusM (by rw [n1]; exact n2) (by rw [n1]; exact n3), n1, m1, k1, e_room, e_ledger, hop, fChron_today, fM_today, z, ltM_eq, ltI_eq, ltL_eq, bd1_some, bd2_some, ite_bI, if_true, if_false, ite_true, ite_false, eq_self, not_true_eq_false, not_false_eq_true, i10, outside_eq, in_eq, no_eq, eq_true h1, eq_true h2, eq_true h3, hi, hb, eq_false h4, eq_true h5, eq_false h6]) (by simp only [fMoney_makeOrder, fM_doOrder_b36, fM_doOrder_b91, fM_doOrder, e_isCus n2 n3, e_isCusM (by rw [n1]; exact n2) (by rw [n1]; exact n3), n1, m1, k1, e_room, e_ledger, hop, fChron_today, fM_today, z, ltM_eq, ltI_eq, ltL_eq, bd1_some, bd2_some, ite_bI, if_true, if_false, ite_true, ite_false, eq_self, not_true_eq_false, not_false_eq_true, i10, outside_eq, in_eq, no_eq, eq_true h1, eq_true h2, eq_true h3, hi, hb, eq_false h4, eq_false h59, eq_false h6']) hn
  have h6' := er2.mpr h6
  by_cases hF : F = true
  · subst hF
    exact sim_no (c := cI (-104)) (by simp only [fMoney_makeOrder, fM_doOrder_b36, fM_doOrder_b91, fM_doOrder, e_isCus n2 n3, e_isCusM (by rw [n1]; exact n2) (by rw [n1]; exact n3), n1, m1, k1, e_room, e_ledger, hop, fChron_today, fM_today, z, ltM_eq, ltI_eq, ltL_eq, bd1_some, bd2_some, ite_bI, if_true, if_false, ite_true, ite_false, eq_self, not_true_eq_false, not_false_eq_true, i10, outside_eq, in_eq, no_eq, eq_true h1, eq_true h2, eq_true h3, hi, hb, eq_false h4, eq_true h5, eq_true h6, hA.no]) (by simp only [fMoney_makeOrder, fM_doOrder_b36, fM_doOrder_b91, fM_doOrder, e_isCus n2 n3, e_isCusM (by rw [n1]; exact n2) (by rw [n1]; exact n3), n1, m1, k1, e_room, e_ledger, hop, fChron_today, fM_today, z, ltM_eq, ltI_eq, ltL_eq, bd1_some, bd2_some, ite_bI, if_true, if_false, ite_true, ite_false, eq_self, not_true_eq_false, not_false_eq_true, i10, outside_eq, in_eq, no_eq, eq_true h1, eq_true h2, eq_true h3, hi, hb, eq_false h4, eq_false h59, eq_true h6', hM.no]) hn
  have hF2 : F = false := by cases F <;> simp_all
  subst hF2
  have b3 : 1 ≤ c.toInt := h3.1
  have b4 : c.toInt ≤ 100000 := h3.2
  have nb : c.toInt ≤ (s.2.1 80 (ix a)).toInt := by
    have q : ¬ (s.2.1 80 (ix a)).toInt < (Int32.toInt64 c).toInt := fun q => h4 (lgc_lt.mpr q)
    rw [toL_toInt] at q
    omega
  have hl := er.mp h6
  rw [show (cI 2).toInt = 2 from rfl] at hl
  have w : (lupd A s).1 78 = s.1 78 := lupd_ne (Or.inr (by decide))
  have wL : (lupd A s).2.1 80 = s.2.1 80 := rfl
  have w5 : (lupd A s).1 15 = s.1 15 := lupd_ne (Or.inr (by decide))
  have o9 : 0 ≤ (s.1 78 9).toInt := by omega
  have ft0 : fr [(632, 632, 0), (633, 633, 0), (634, 634, 0), (635, 635, 0), (636, 636, 0), (549, 549, 120)] t (wI (wI (wI (wI (wI (wI t 632 (ix (s.1 78 8)) (cI 0)) 633 (ix (s.1 78 8)) a) 634 (ix (s.1 78 8)) b) 635 (ix (s.1 78 8)) c) 636 (ix (s.1 78 8)) (s.1 15 1 / cI 1440 + cI 30)) 549 119 (s.1 78 8 + cI 1)) := (((((fr.rf.wI rfl).wI rfl).wI rfl).wI rfl).wI rfl).wI rfl
  have hg2 : RLg (lupd A s) (wI (wI (wI (wI (wI (wI t 632 (ix (s.1 78 8)) (cI 0)) 633 (ix (s.1 78 8)) a) 634 (ix (s.1 78 8)) b) 635 (ix (s.1 78 8)) c) 636 (ix (s.1 78 8)) (s.1 15 1 / cI 1440 + cI 30)) 549 119 (s.1 78 8 + cI 1)) := hg.keep lupd_fr ft0 (by decide +kernel) (by decide +kernel)
  obtain ⟨s', t', es, et, hg3, e6, e7, e8⟩ := hg2.pay (f := a) (g := cI 3) (c := c) (i := cI (-1)) (by rw [w]; omega) (by omega) (by decide) (by omega) (by decide) b3 (by omega) (fun _ => nb) (by rw [w]; omega) (by rw [w, show (cI 3).toInt = 3 from rfl]; omega) (fun q => by rw [q, show (cI 3).toInt = 3 from rfl] at a1; omega) (by rw [w]; exact n2)
  have fs := fr_fMoney_transfer es
  have ft := fr_fM_pay et
  have w8 : s'.1 78 8 = s.1 78 8 := by rw [(fs.1 78 8 rfl).1, w]
  have w9 : s'.1 78 9 = s.1 78 9 := by rw [(fs.1 78 9 rfl).1, w]
  have w15 : s'.1 15 1 = s.1 15 1 := by rw [(fs.1 15 1 rfl).1, w5]
  have w3 : s'.1 78 3 = s.1 78 3 := by rw [(fs.1 78 3 rfl).1, w]
  have hb60 : inb (s.1 78 8) 60 = true := inb_iff.mpr ⟨k2, lt_n h5⟩
  have v9 : t'.1 549 119 = s.1 78 8 + cI 1 := by rw [(ft.1 549 119 rfl).1, wI_c, up1_eq]
  simp (maxSteps := 2000000) (disch := decide) only [fMoney_makeOrder, fM_doOrder_b36, fM_doOrder_b91, fM_doOrder, e_isCus n2 n3, e_isCusM (by rw [n1]; exact n2) (by rw [n1]; exact n3), n1, m1, k1, e_room, e_ledger, hop, fChron_today, fM_today, z, ltM_eq, ltI_eq, ltL_eq, bd1_some, bd2_some, ite_bI, if_true, if_false, ite_true, ite_false, eq_self, not_true_eq_false, not_false_eq_true, i10, outside_eq, in_eq, no_eq, eq_true h1, eq_true h2, eq_true h3, hi, hb, eq_false h4, eq_true h5, eq_true h6, eq_true h6', eq_false h59, hA.yes, hM.yes, es, et, ix_0, ix_1, ix_2, ix_3, ix_4, ix_5, ix_6, ix_7, ix_8, ix_9, ix_10, ix_11, ix_12, ix_13, ix_14, ix_15, ix_16, ix_17, ix_18, ix_19, ix_20, ix_21, Nat.reduceAdd, wI_c, wI_ne, wL_1, lupd_ne, up1_eq, up1_ne, w8, w9, w15, c1, hb60, v9, ok_some]
  have ho1 : ROm s' t := (ho.keep lupd_fr rf_fr (by decide +kernel) (by decide +kernel)).keep fs rf_fr (by decide +kernel) (by decide +kernel)
  have ho2 := ho1.add (a := a) (b := b) (c := c) (d := s.1 15 1 / cI 1440 + cI 30) (by rw [w8]; exact lt_n h5) ⟨by omega, by rw [w3]; omega⟩ ⟨h2.1, h2.2⟩ ⟨b3, b4⟩
  rw [w8, w9] at ho2
  have fs2 : fr [(87, 87, 0), (88, 88, 0), (89, 89, 0), (90, 90, 0), (91, 91, 0), (78, 78, 10), (78, 78, 9)] s' (wI (wI (wI (wI (wI (wI (wI s' 87 (ix (s.1 78 8)) (cI 0)) 88 (ix (s.1 78 8)) a) 89 (ix (s.1 78 8)) b) 90 (ix (s.1 78 8)) c) 91 (ix (s.1 78 8)) (s.1 15 1 / cI 1440 + cI 30)) 78 9 (s.1 78 9 + cI 1)) 78 8 (s.1 78 8 + cI 1)) := ((((((fr.rf.wI rfl).wI rfl).wI rfl).wI rfl).wI rfl).wI rfl).wI rfl
  refine ⟨?_, Or.inr ⟨?_, rfl, ?_, hg3.keep fs2 rf_fr (by decide +kernel) (by decide +kernel), ho2.keep rf_fr ft (by decide +kernel) (by decide +kernel), ?_⟩⟩
  · rw [Int32.add_sub_cancel]
  · rw [(ft.1 549 15 rfl).1, (ft0.1 549 15 rfl).1]; exact h0
  · exact ((((((((lgS.fr fs (by decide +kernel) (by decide)).wI (by decide) (by decide)).wI (by decide) (by decide)).wI (by decide) (by decide)).wI (by decide) (by decide)).wI (by decide) (by decide)).wI (by decide) (by decide)).wI (by decide) (by decide))
  · unfold RRm
    simp (disch := decide) only [ix_0, ix_1, ix_2, ix_3, ix_4, ix_5, ix_6, ix_7, ix_8, ix_9, ix_10, ix_11, ix_12, ix_13, ix_14, ix_15, ix_16, ix_17, ix_18, ix_19, ix_20, ix_21, Nat.reduceAdd, wI_c, wI_ne, wL_1, lupd_ne, up1_eq, up1_ne, e6, w]
    rw [inc_i (by omega), inc_i (by omega)]
    omega
end
