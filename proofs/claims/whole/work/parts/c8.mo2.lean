/-! ===== LEVEL 3: money: payments in, orders made and paid ===== -/
section
variable {s t : ev_M}
theorem e_room {a : Int32} : fMoney_hasRoomFor s a = some (bI (s.1 78 6 + a + s.1 78 9 ≤ cI 2000)) := by
  unfold fMoney_hasRoomFor
  by_cases h : s.1 78 6 + a + s.1 78 9 ≤ cI 2000
  · rw [if_pos h, bI_t h]; rfl
  · rw [if_neg h, bI_f h]; rfl
theorem e_ledger {a b : Int32} : fM_isLedgerFull t a b = some (bI (¬ t.1 549 114 + a + b ≤ cI 2000)) := by
  unfold fM_isLedgerFull
  by_cases h : t.1 549 114 + a + b ≤ cI 2000
  · rw [if_pos h, bI_f (fun q => q h)]; rfl
  · rw [if_neg h, bI_t h]; rfl
theorem ROm.opnE (h : ROm s t) : fM_openOrders t = some (s.1 78 9) := by
  obtain ⟨⟨n1, n2, n3⟩, g1, -, -, -, -, o1, -⟩ := h
  obtain ⟨y, ey, hy⟩ := e_openOrders (s := t) (by rw [n1]; exact n2) (by rw [n1]; exact n3)
  have e : y = s.1 78 9 := by
    rw [eq_i, hy, o1, n1]
    rw [opn_congr _ (fun j hj => g1 j hj)]
  rw [ey, e]
theorem ROm.room {a : Int32} (h : ROm s t) (hg : RLg s t) (h0 : 0 ≤ a.toInt) (h1 : a.toInt ≤ 2) : s.1 78 6 + a + s.1 78 9 ≤ cI 2000 ↔ (s.1 78 6).toInt + a.toInt + (s.1 78 9).toInt ≤ 2000 := by
  obtain ⟨⟨-, n2, n3⟩, -, -, -, -, -, o1, -⟩ := h
  obtain ⟨⟨-, m2, m3⟩, -⟩ := hg
  have hl := opn_le (f := s.1 87) (ix (s.1 78 8))
  have hj : ix (s.1 78 8) ≤ 60 := by rw [ix_toNat]; omega
  have e1 : (s.1 78 6 + a).toInt = (s.1 78 6).toInt + a.toInt := add_toInt (by omega) (by omega)
  have e2 : (s.1 78 6 + a + s.1 78 9).toInt = (s.1 78 6).toInt + a.toInt + (s.1 78 9).toInt := by rw [add_toInt (by omega) (by omega), e1]
  rw [le_i, e2, show (cI 2000).toInt = 2000 from rfl]
end
section
variable {s t : ev_M} {F : Bool} {A : Nat → Nat → Int32}
abbrev RMo (s t : ev_M) : Prop := RLg s t ∧ ROm s t ∧ RRm s t
theorem a_payIn {a b : Int32} (hA : AdmC s F A) (hM : FulM t F) (h0 : t.1 549 15 = 0) (hu : RCu s t) (h : RMo s t) : Ok (fMoney_payIn s a b) fun x => Ok (fM_doDeposit t a b) fun y => AP RMo RMo F A s x y := by
  obtain ⟨hg, ho, hr⟩ := id h
  obtain ⟨⟨n1, n2, n3⟩, -⟩ := id hu
  obtain ⟨⟨m1, m2, m3⟩, -⟩ := id hg
  have hn : RMo s (wI t 549 15 (cI 1)) := ⟨hg.keep rf_fr no_fr rfl rfl, ho.keep rf_fr no_fr rfl rfl, hr.keep rf_fr no_fr rfl rfl⟩
  have hop := ho.opnE
  by_cases h1 : Cus a (s.1 78 3)
  rotate_left
  · exact sim_no (c := cI (-101)) (by simp only [fMoney_payIn, fM_doDeposit_b52, fM_doDeposit, e_isCus n2 n3, e_isCusM (by rw [n1]; exact n2) (by rw [n1]; exact n3), n1, m1, e_room, e_ledger, hop, ltM_eq, ltI_eq, ltL_eq, bd1_some, bd2_some, ite_bI, if_true, if_false, ite_true, ite_false, eq_self, not_true_eq_false, not_false_eq_true, i10, outside_eq, in_eq, no_eq, eq_false h1]) (by simp only [fMoney_payIn, fM_doDeposit_b52, fM_doDeposit, e_isCus n2 n3, e_isCusM (by rw [n1]; exact n2) (by rw [n1]; exact n3), n1, m1, e_room, e_ledger, hop, ltM_eq, ltI_eq, ltL_eq, bd1_some, bd2_some, ite_bI, if_true, if_false, ite_true, ite_false, eq_self, not_true_eq_false, not_false_eq_true, i10, outside_eq, in_eq, no_eq, eq_false h1]) hn
  by_cases h2 : InR b (cI 1) (cI 1000000)
  rotate_left
  · exact sim_no (c := cI (-102)) (by simp only [fMoney_payIn, fM_doDeposit_b52, fM_doDeposit, e_isCus n2 n3, e_isCusM (by rw [n1]; exact n2) (by rw [n1]; exact n3), n1, m1, e_room, e_ledger, hop, ltM_eq, ltI_eq, ltL_eq, bd1_some, bd2_some, ite_bI, if_true, if_false, ite_true, ite_false, eq_self, not_true_eq_false, not_false_eq_true, i10, outside_eq, in_eq, no_eq, eq_true h1, eq_false h2]) (by simp only [fMoney_payIn, fM_doDeposit_b52, fM_doDeposit, e_isCus n2 n3, e_isCusM (by rw [n1]; exact n2) (by rw [n1]; exact n3), n1, m1, e_room, e_ledger, hop, ltM_eq, ltI_eq, ltL_eq, bd1_some, bd2_some, ite_bI, if_true, if_false, ite_true, ite_false, eq_self, not_true_eq_false, not_false_eq_true, i10, outside_eq, in_eq, no_eq, eq_true h1, eq_false h2]) hn
  by_cases h3 : (s.1 78 6) + cI 1 + (s.1 78 9) ≤ cI 2000
  rotate_left
  · exact sim_no (c := cI (-104)) (by simp only [fMoney_payIn, fM_doDeposit_b52, fM_doDeposit, e_isCus n2 n3, e_isCusM (by rw [n1]; exact n2) (by rw [n1]; exact n3), n1, m1, e_room, e_ledger, hop, ltM_eq, ltI_eq, ltL_eq, bd1_some, bd2_some, ite_bI, if_true, if_false, ite_true, ite_false, eq_self, not_true_eq_false, not_false_eq_true, i10, outside_eq, in_eq, no_eq, eq_true h1, eq_true h2, eq_false h3]) (by simp only [fMoney_payIn, fM_doDeposit_b52, fM_doDeposit, e_isCus n2 n3, e_isCusM (by rw [n1]; exact n2) (by rw [n1]; exact n3), n1, m1, e_room, e_ledger, hop, ltM_eq, ltI_eq, ltL_eq, bd1_some, bd2_some, ite_bI, if_true, if_false, ite_true, ite_false, eq_self, not_true_eq_false, not_false_eq_true, i10, outside_eq, in_eq, no_eq, eq_true h1, eq_true h2, eq_false h3]) hn
  by_cases hF : F = true
  · subst hF
    exact sim_no (c := cI (-104)) (by simp only [fMoney_payIn, fM_doDeposit_b52, fM_doDeposit, e_isCus n2 n3, e_isCusM (by rw [n1]; exact n2) (by rw [n1]; exact n3), n1, m1, e_room, e_ledger, hop, ltM_eq, ltI_eq, ltL_eq, bd1_some, bd2_some, ite_bI, if_true, if_false, ite_true, ite_false, eq_self, not_true_eq_false, not_false_eq_true, i10, outside_eq, in_eq, no_eq, eq_true h1, eq_true h2, eq_true h3, hA.no, hM.no]) (by simp only [fMoney_payIn, fM_doDeposit_b52, fM_doDeposit, e_isCus n2 n3, e_isCusM (by rw [n1]; exact n2) (by rw [n1]; exact n3), n1, m1, e_room, e_ledger, hop, ltM_eq, ltI_eq, ltL_eq, bd1_some, bd2_some, ite_bI, if_true, if_false, ite_true, ite_false, eq_self, not_true_eq_false, not_false_eq_true, i10, outside_eq, in_eq, no_eq, eq_true h1, eq_true h2, eq_true h3, hA.no, hM.no]) hn
  obtain rfl : F = false := by simpa using hF
  have b1 : 1 ≤ b.toInt := h2.1
  have b2 : b.toInt ≤ 1000000 := h2.2
  have hl := (ho.room hg (a := cI 1) (by decide) (by decide)).mp h3
  rw [show (cI 1).toInt = 1 from rfl] at hl
  have o9 : 0 ≤ (s.1 78 9).toInt := by
    obtain ⟨-, -, -, -, -, -, o1, -⟩ := id ho
    omega
  have a1 := h1.1
  have a2 := h1.2
  have hg2 : RLg (lupd A s) t := hg.keep lupd_fr rf_fr (by decide +kernel) (by decide +kernel)
  have w : (lupd A s).1 78 = s.1 78 := lupd_ne (Or.inr (by decide))
  have hi : inb a 34 = true := inb_iff.mpr ⟨by omega, by omega⟩
  obtain ⟨s', t', es, et, hg3, e6, e7, e8⟩ := hg2.pay (f := cI 1) (g := a) (c := b) (i := cI (-1)) (by rw [w]; omega) (by decide) (by omega) (by decide) (by omega) b1 b2 (fun q => absurd q (by decide)) (by rw [w, show (cI 1).toInt = 1 from rfl]; omega) (by rw [w]; omega) (fun q => by rw [← q, show (cI 1).toInt = 1 from rfl] at a1; omega) (by rw [w]; exact n2)
  have fs := fr_fMoney_transfer es
  have ft := fr_fM_pay et
  have hb := hg3.bal (k := a) (by omega) (by omega)
  simp only [fMoney_payIn, fM_doDeposit_b52, fM_doDeposit, e_isCus n2 n3, e_isCusM (by rw [n1]; exact n2) (by rw [n1]; exact n3), n1, m1, e_room, e_ledger, hop, ltM_eq, ltI_eq, ltL_eq, bd1_some, bd2_some, ite_bI, if_true, if_false, ite_true, ite_false, eq_self, not_true_eq_false, not_false_eq_true, i10, outside_eq, in_eq, no_eq, eq_true h1, eq_true h2, eq_true h3, hA.yes, hM.yes, es, et, hb, hi]
  rw [ok_some, ok_some]
  have ho2 : ROm (lupd A s) t := ho.keep lupd_fr rf_fr (by decide +kernel) (by decide +kernel)
  refine ⟨rfl, Or.inr ⟨?_, rfl, lgS.fr fs (by decide +kernel) (by decide), hg3, ho2.keep fs ft (by decide +kernel) (by decide +kernel), ?_⟩⟩
  · rw [(ft.1 549 15 rfl).1]; exact h0
  · unfold RRm
    rw [e6, (fs.1 78 9 rfl).1, w, inc_i (by omega)]
    omega
end
