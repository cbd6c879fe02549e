/-! ===== LEVEL 3: the acts forward, hold, leg ===== -/
theorem ix_9 : ix (cI 9) = 9 := rfl
theorem ix_10 : ix (cI 10) = 10 := rfl
theorem ix_11 : ix (cI 11) = 11 := rfl
theorem ix_12 : ix (cI 12) = 12 := rfl
theorem ix_13 : ix (cI 13) = 13 := rfl
theorem ix_14 : ix (cI 14) = 14 := rfl
theorem ix_15 : ix (cI 15) = 15 := rfl
theorem ix_16 : ix (cI 16) = 16 := rfl
theorem ix_17 : ix (cI 17) = 17 := rfl
theorem ix_18 : ix (cI 18) = 18 := rfl
theorem ix_19 : ix (cI 19) = 19 := rfl
theorem ix_20 : ix (cI 20) = 20 := rfl
theorem ix_21 : ix (cI 21) = 21 := rfl
theorem day_b {x : Int32} (h : Rg 0 x 1000000000) : 0 ≤ (x / cI 1440).toInt ∧ (x / cI 1440).toInt ≤ 694444 ∧ (x / cI 1440).toInt = x.toInt / 1440 := by
  have e := div_toInt (x := x) (y := cI 1440) h.1 (by decide)
  have e2 : (cI 1440).toInt = 1440 := rfl
  have h1 := h.1
  have h2 := h.2
  rw [e2] at e
  omega
theorem day_in {x d : Int32} (h : Rg 0 x 1000000000) : InR d (x / cI 1440 + cI 1) (cI 100000) ↔ ¬ d ≤ x / cI 1440 ∧ d ≤ cI 100000 := by
  obtain ⟨h1, h2, -⟩ := day_b h
  have e : (x / cI 1440 + cI 1).toInt = (x / cI 1440).toInt + 1 := inc_i (by omega)
  rw [le_i, le_i]
  show (x / cI 1440 + cI 1).toInt ≤ d.toInt ∧ d.toInt ≤ (cI 100000).toInt ↔ _
  rw [e]
  omega
section
variable {s t : ev_M} {F : Bool} {A : Nat → Nat → Int32}
theorem ROr_add {a b c d : Int32} (h : ROr s t) (hl : s.1 30 11 < cI 60) (ha : Has a (s.1 30 9)) (hc : -1 ≤ c.toInt ∧ c.toInt ≤ (s.1 30 9).toInt - 1) (hd : 0 ≤ d.toInt ∧ d.toInt ≤ 100000) : ROr (wI (wI (wI (wI (wI (lupd A s) 47 (ix (s.1 30 11)) a) 48 (ix (s.1 30 11)) b) 49 (ix (s.1 30 11)) c) 50 (ix (s.1 30 11)) d) 30 11 (s.1 30 11 + cI 1)) (wI (wI (wI (wI (wI t 573 (ix (s.1 30 11)) a) 574 (ix (s.1 30 11)) b) 575 (ix (s.1 30 11)) c) 576 (ix (s.1 30 11)) d) 549 43 (s.1 30 11 + cI 1)) := by
  obtain ⟨⟨n1, n2, n3⟩, g1, g2, g3, g4, b1, b2, b3⟩ := h
  have hk : (s.1 30 11).toInt < 60 := lt_n hl
  have e : (s.1 30 11 + cI 1).toInt = (s.1 30 11).toInt + 1 := inc_i (by omega)
  have ei : ix (s.1 30 11 + cI 1) = ix (s.1 30 11) + 1 := ix_inc n2 (by omega)
  have a1 := ha.1
  have a2 := ha.2
  unfold ROr
  simp (disch := decide) only [ix_0, ix_1, ix_2, ix_3, ix_4, ix_5, ix_6, ix_7, ix_8, Nat.reduceAdd, wI_c, wI_ne, wL_1, lupd_ne, up1_eq, up1_ne]
  exact ⟨⟨trivial, by omega, by omega⟩, g1.ext rfl ei, g2.ext rfl ei, g3.ext rfl ei, g4.ext rfl ei, b1.ext ⟨a1, by omega⟩ ei, b2.ext hc ei, b3.ext hd ei⟩
theorem a_forward {a b c d : Int32} (hA : AdmC s F A) (hM : FulM t F) (h0 : t.1 549 15 = 0) (h : ROr s t) (hp : RPo s t) (ht : RTim s t) : Ok (fBook_tellForwarding s a b c d) fun x => Ok (fM_doNote t a b (cI 1) c d) fun y => AP ROr ROr F A s x y := by
  obtain ⟨⟨n1, n2, n3⟩, -⟩ := id h
  obtain ⟨⟨p1, p2, -⟩, -⟩ := id hp
  obtain ⟨⟨c1, c2⟩, -⟩ := id ht
  have hn : ROr s (wI t 549 15 (cI 1)) := h.keep rf_fr no_fr rfl rfl
  have hd := day_in (d := d) c2
  have z1 := eq_false (show ¬ cI 1 = 0 by decide)
  have z2 := eq_false (show ¬ cI 1440 = 0 by decide)
  by_cases h1 : Has a (s.1 30 9)
  rotate_left
  · exact sim_no (c := cI (-101)) (by simp only [fBook_tellForwarding, fBook_addOrder, fM_doNote_b21, fM_doNote_b65, fM_doNote_b88, fM_doNote_b133, fM_doNote_b72, fM_doNote_b28, fM_doNote, e_hasPoint p2, e_isPoint (by rw [p1]; exact p2), p1, c1, n1, fChron_today, fM_today, z1, z2, ite_self, ltM_eq, ltI_eq, ltL_eq, bd1_some, bd2_some, ite_bI, if_true, if_false, ite_true, ite_false, eq_self, not_true_eq_false, not_false_eq_true, i10, outside_eq, in_eq, no_eq, eq_false h1]) (by simp only [fBook_tellForwarding, fBook_addOrder, fM_doNote_b21, fM_doNote_b65, fM_doNote_b88, fM_doNote_b133, fM_doNote_b72, fM_doNote_b28, fM_doNote, e_hasPoint p2, e_isPoint (by rw [p1]; exact p2), p1, c1, n1, fChron_today, fM_today, z1, z2, ite_self, ltM_eq, ltI_eq, ltL_eq, bd1_some, bd2_some, ite_bI, if_true, if_false, ite_true, ite_false, eq_self, not_true_eq_false, not_false_eq_true, i10, outside_eq, in_eq, no_eq, eq_false h1]) hn
  by_cases h2 : Has c (s.1 30 9)
  rotate_left
  · exact sim_no (c := cI (-101)) (by simp only [fBook_tellForwarding, fBook_addOrder, fM_doNote_b21, fM_doNote_b65, fM_doNote_b88, fM_doNote_b133, fM_doNote_b72, fM_doNote_b28, fM_doNote, e_hasPoint p2, e_isPoint (by rw [p1]; exact p2), p1, c1, n1, fChron_today, fM_today, z1, z2, ite_self, ltM_eq, ltI_eq, ltL_eq, bd1_some, bd2_some, ite_bI, if_true, if_false, ite_true, ite_false, eq_self, not_true_eq_false, not_false_eq_true, i10, outside_eq, in_eq, no_eq, eq_true h1, eq_false h2]) (by simp only [fBook_tellForwarding, fBook_addOrder, fM_doNote_b21, fM_doNote_b65, fM_doNote_b88, fM_doNote_b133, fM_doNote_b72, fM_doNote_b28, fM_doNote, e_hasPoint p2, e_isPoint (by rw [p1]; exact p2), p1, c1, n1, fChron_today, fM_today, z1, z2, ite_self, ltM_eq, ltI_eq, ltL_eq, bd1_some, bd2_some, ite_bI, if_true, if_false, ite_true, ite_false, eq_self, not_true_eq_false, not_false_eq_true, i10, outside_eq, in_eq, no_eq, eq_true h1, eq_false h2]) hn
  by_cases h3 : InR b (cI 0) (cI 99)
  rotate_left
  · exact sim_no (c := cI (-102)) (by simp only [fBook_tellForwarding, fBook_addOrder, fM_doNote_b21, fM_doNote_b65, fM_doNote_b88, fM_doNote_b133, fM_doNote_b72, fM_doNote_b28, fM_doNote, e_hasPoint p2, e_isPoint (by rw [p1]; exact p2), p1, c1, n1, fChron_today, fM_today, z1, z2, ite_self, ltM_eq, ltI_eq, ltL_eq, bd1_some, bd2_some, ite_bI, if_true, if_false, ite_true, ite_false, eq_self, not_true_eq_false, not_false_eq_true, i10, outside_eq, in_eq, no_eq, eq_true h1, eq_true h2, eq_false h3]) (by simp only [fBook_tellForwarding, fBook_addOrder, fM_doNote_b21, fM_doNote_b65, fM_doNote_b88, fM_doNote_b133, fM_doNote_b72, fM_doNote_b28, fM_doNote, e_hasPoint p2, e_isPoint (by rw [p1]; exact p2), p1, c1, n1, fChron_today, fM_today, z1, z2, ite_self, ltM_eq, ltI_eq, ltL_eq, bd1_some, bd2_some, ite_bI, if_true, if_false, ite_true, ite_false, eq_self, not_true_eq_false, not_false_eq_true, i10, outside_eq, in_eq, no_eq, eq_true h1, eq_true h2, eq_false h3]) hn
  by_cases h4 : InR d (s.1 15 1 / cI 1440 + cI 1) (cI 100000)
  rotate_left
  · by_cases k1 : d ≤ s.1 15 1 / cI 1440
    · exact sim_no (c := cI (-102)) (by simp only [fBook_tellForwarding, fBook_addOrder, fM_doNote_b21, fM_doNote_b65, fM_doNote_b88, fM_doNote_b133, fM_doNote_b72, fM_doNote_b28, fM_doNote, e_hasPoint p2, e_isPoint (by rw [p1]; exact p2), p1, c1, n1, fChron_today, fM_today, z1, z2, ite_self, ltM_eq, ltI_eq, ltL_eq, bd1_some, bd2_some, ite_bI, if_true, if_false, ite_true, ite_false, eq_self, not_true_eq_false, not_false_eq_true, i10, outside_eq, in_eq, no_eq, eq_true h1, eq_true h2, eq_true h3, eq_false h4]) (by simp only [fBook_tellForwarding, fBook_addOrder, fM_doNote_b21, fM_doNote_b65, fM_doNote_b88, fM_doNote_b133, fM_doNote_b72, fM_doNote_b28, fM_doNote, e_hasPoint p2, e_isPoint (by rw [p1]; exact p2), p1, c1, n1, fChron_today, fM_today, z1, z2, ite_self, ltM_eq, ltI_eq, ltL_eq, bd1_some, bd2_some, ite_bI, if_true, if_false, ite_true, ite_false, eq_self, not_true_eq_false, not_false_eq_true, i10, outside_eq, in_eq, no_eq, eq_true h1, eq_true h2, eq_true h3, eq_true k1]) hn
    · have k2 : ¬ d ≤ cI 100000 := fun q => h4 (hd.mpr ⟨k1, q⟩)
      exact sim_no (c := cI (-102)) (by simp only [fBook_tellForwarding, fBook_addOrder, fM_doNote_b21, fM_doNote_b65, fM_doNote_b88, fM_doNote_b133, fM_doNote_b72, fM_doNote_b28, fM_doNote, e_hasPoint p2, e_isPoint (by rw [p1]; exact p2), p1, c1, n1, fChron_today, fM_today, z1, z2, ite_self, ltM_eq, ltI_eq, ltL_eq, bd1_some, bd2_some, ite_bI, if_true, if_false, ite_true, ite_false, eq_self, not_true_eq_false, not_false_eq_true, i10, outside_eq, in_eq, no_eq, eq_true h1, eq_true h2, eq_true h3, eq_false h4]) (by simp only [fBook_tellForwarding, fBook_addOrder, fM_doNote_b21, fM_doNote_b65, fM_doNote_b88, fM_doNote_b133, fM_doNote_b72, fM_doNote_b28, fM_doNote, e_hasPoint p2, e_isPoint (by rw [p1]; exact p2), p1, c1, n1, fChron_today, fM_today, z1, z2, ite_self, ltM_eq, ltI_eq, ltL_eq, bd1_some, bd2_some, ite_bI, if_true, if_false, ite_true, ite_false, eq_self, not_true_eq_false, not_false_eq_true, i10, outside_eq, in_eq, no_eq, eq_true h1, eq_true h2, eq_true h3, eq_false k1, eq_false k2]) hn
  obtain ⟨k1, k2⟩ := hd.mp h4
  by_cases h5 : a = c
  · exact sim_no (c := cI (-102)) (by simp only [fBook_tellForwarding, fBook_addOrder, fM_doNote_b21, fM_doNote_b65, fM_doNote_b88, fM_doNote_b133, fM_doNote_b72, fM_doNote_b28, fM_doNote, e_hasPoint p2, e_isPoint (by rw [p1]; exact p2), p1, c1, n1, fChron_today, fM_today, z1, z2, ite_self, ltM_eq, ltI_eq, ltL_eq, bd1_some, bd2_some, ite_bI, if_true, if_false, ite_true, ite_false, eq_self, not_true_eq_false, not_false_eq_true, i10, outside_eq, in_eq, no_eq, eq_true h1, eq_true h2, eq_true h3, eq_true h4, eq_true h5]) (by simp only [fBook_tellForwarding, fBook_addOrder, fM_doNote_b21, fM_doNote_b65, fM_doNote_b88, fM_doNote_b133, fM_doNote_b72, fM_doNote_b28, fM_doNote, e_hasPoint p2, e_isPoint (by rw [p1]; exact p2), p1, c1, n1, fChron_today, fM_today, z1, z2, ite_self, ltM_eq, ltI_eq, ltL_eq, bd1_some, bd2_some, ite_bI, if_true, if_false, ite_true, ite_false, eq_self, not_true_eq_false, not_false_eq_true, i10, outside_eq, in_eq, no_eq, eq_true h1, eq_true h2, eq_true h3, eq_false k1, eq_true k2, eq_true h5.symm]) hn
  have h5' : ¬ c = a := fun q => h5 q.symm
  by_cases h6 : s.1 30 11 < cI 60
  rotate_left
  · have h69 : s.1 30 11 = cI 60 := cap_eq h6 n3
    exact sim_no (c := cI (-104)) (by simp only [fBook_tellForwarding, fBook_addOrder, fM_doNote_b21, fM_doNote_b65, fM_doNote_b88, fM_doNote_b133, fM_doNote_b72, fM_doNote_b28, fM_doNote, e_hasPoint p2, e_isPoint (by rw [p1]; exact p2), p1, c1, n1, fChron_today, fM_today, z1, z2, ite_self, ltM_eq, ltI_eq, ltL_eq, bd1_some, bd2_some, ite_bI, if_true, if_false, ite_true, ite_false, eq_self, not_true_eq_false, not_false_eq_true, i10, outside_eq, in_eq, no_eq, eq_true h1, eq_true h2, eq_true h3, eq_true h4, eq_false h5, eq_false h6]) (by simp only [fBook_tellForwarding, fBook_addOrder, fM_doNote_b21, fM_doNote_b65, fM_doNote_b88, fM_doNote_b133, fM_doNote_b72, fM_doNote_b28, fM_doNote, e_hasPoint p2, e_isPoint (by rw [p1]; exact p2), p1, c1, n1, fChron_today, fM_today, z1, z2, ite_self, ltM_eq, ltI_eq, ltL_eq, bd1_some, bd2_some, ite_bI, if_true, if_false, ite_true, ite_false, eq_self, not_true_eq_false, not_false_eq_true, i10, outside_eq, in_eq, no_eq, eq_true h1, eq_true h2, eq_true h3, eq_false k1, eq_true k2, eq_false h5', eq_true h69]) hn
  have h69 : ¬ s.1 30 11 = cI 60 := cap_ne h6
  by_cases hF : F = true
  · subst hF
    exact sim_no (c := cI (-104)) (by simp only [fBook_tellForwarding, fBook_addOrder, fM_doNote_b21, fM_doNote_b65, fM_doNote_b88, fM_doNote_b133, fM_doNote_b72, fM_doNote_b28, fM_doNote, e_hasPoint p2, e_isPoint (by rw [p1]; exact p2), p1, c1, n1, fChron_today, fM_today, z1, z2, ite_self, ltM_eq, ltI_eq, ltL_eq, bd1_some, bd2_some, ite_bI, if_true, if_false, ite_true, ite_false, eq_self, not_true_eq_false, not_false_eq_true, i10, outside_eq, in_eq, no_eq, eq_true h1, eq_true h2, eq_true h3, eq_true h4, eq_false h5, eq_true h6, hA.no]) (by simp only [fBook_tellForwarding, fBook_addOrder, fM_doNote_b21, fM_doNote_b65, fM_doNote_b88, fM_doNote_b133, fM_doNote_b72, fM_doNote_b28, fM_doNote, e_hasPoint p2, e_isPoint (by rw [p1]; exact p2), p1, c1, n1, fChron_today, fM_today, z1, z2, ite_self, ltM_eq, ltI_eq, ltL_eq, bd1_some, bd2_some, ite_bI, if_true, if_false, ite_true, ite_false, eq_self, not_true_eq_false, not_false_eq_true, i10, outside_eq, in_eq, no_eq, eq_true h1, eq_true h2, eq_true h3, eq_false k1, eq_true k2, eq_false h5', eq_false h69, hM.no]) hn
  have hF2 : F = false := by cases F <;> simp_all
  subst hF2
  have hb : inb (s.1 30 11) 60 = true := inb_iff.mpr ⟨n2, lt_n h6⟩
  have k3 := hd.mp h4
  simp (maxSteps := 2000000) (disch := decide) only [fBook_tellForwarding, fBook_addOrder, fM_doNote_b21, fM_doNote_b65, fM_doNote_b88, fM_doNote_b133, fM_doNote_b72, fM_doNote_b28, fM_doNote, e_hasPoint p2, e_isPoint (by rw [p1]; exact p2), p1, c1, n1, fChron_today, fM_today, z1, z2, ite_self, ltM_eq, ltI_eq, ltL_eq, bd1_some, bd2_some, ite_bI, if_true, if_false, ite_true, ite_false, eq_self, not_true_eq_false, not_false_eq_true, i10, outside_eq, in_eq, no_eq, eq_true h1, eq_true h2, eq_true h3, eq_true h4, eq_false h5, eq_true h6, hA.yes, eq_false k1, eq_true k2, eq_false h5', eq_false h69, hM.yes, ix_0, ix_1, ix_2, ix_3, ix_4, ix_5, ix_6, ix_7, ix_8, Nat.reduceAdd, wI_c, wI_ne, wL_1, lupd_ne, up1_eq, up1_ne, eq_true hb, ok_some]
  have hk := day_b c2
  rw [le_i, le_i, show (cI 100000).toInt = 100000 from rfl] at k3
  refine ⟨?_, Or.inr ⟨?_, rfl, ?_, ROr_add h h6 h1 ⟨by have := h2.1; omega, by have := h2.2; omega⟩ ⟨by omega, by omega⟩⟩⟩
  · rw [Int32.add_sub_cancel]
  · simp (disch := decide) only [ix_0, ix_1, ix_2, ix_3, ix_4, ix_5, ix_6, ix_7, ix_8, Nat.reduceAdd, wI_c, wI_ne, wL_1, lupd_ne, up1_eq, up1_ne]; exact h0
  · exact ((((lgS.rf.wI (by decide) (by decide)).wI (by decide) (by decide)).wI (by decide) (by decide)).wI (by decide) (by decide)).wI (by decide) (by decide)
theorem a_hold {a b d : Int32} (hA : AdmC s F A) (hM : FulM t F) (h0 : t.1 549 15 = 0) (h : ROr s t) (hp : RPo s t) (ht : RTim s t) : Ok (fBook_tellHold s a b d) fun x => Ok (fM_doNote t a b (cI 0) (cI 0) d) fun y => AP ROr ROr F A s x y := by
  obtain ⟨⟨n1, n2, n3⟩, -⟩ := id h
  obtain ⟨⟨p1, p2, -⟩, -⟩ := id hp
  obtain ⟨⟨c1, c2⟩, -⟩ := id ht
  have hn : ROr s (wI t 549 15 (cI 1)) := h.keep rf_fr no_fr rfl rfl
  have hd := day_in (d := d) c2
  have z1 := eq_true (show cI 0 = 0 from rfl)
  have z2 := eq_false (show ¬ cI 1440 = 0 by decide)
  by_cases h1 : Has a (s.1 30 9)
  rotate_left
  · exact sim_no (c := cI (-101)) (by simp only [fBook_tellHold, fBook_addOrder, fM_doNote_b21, fM_doNote_b65, fM_doNote_b88, fM_doNote_b133, fM_doNote_b72, fM_doNote_b28, fM_doNote, e_hasPoint p2, e_isPoint (by rw [p1]; exact p2), p1, c1, n1, fChron_today, fM_today, z1, z2, ite_self, ltM_eq, ltI_eq, ltL_eq, bd1_some, bd2_some, ite_bI, if_true, if_false, ite_true, ite_false, eq_self, not_true_eq_false, not_false_eq_true, i10, outside_eq, in_eq, no_eq, eq_false h1]) (by simp only [fBook_tellHold, fBook_addOrder, fM_doNote_b21, fM_doNote_b65, fM_doNote_b88, fM_doNote_b133, fM_doNote_b72, fM_doNote_b28, fM_doNote, e_hasPoint p2, e_isPoint (by rw [p1]; exact p2), p1, c1, n1, fChron_today, fM_today, z1, z2, ite_self, ltM_eq, ltI_eq, ltL_eq, bd1_some, bd2_some, ite_bI, if_true, if_false, ite_true, ite_false, eq_self, not_true_eq_false, not_false_eq_true, i10, outside_eq, in_eq, no_eq, eq_false h1]) hn
  by_cases h3 : InR b (cI 0) (cI 99)
  rotate_left
  · exact sim_no (c := cI (-102)) (by simp only [fBook_tellHold, fBook_addOrder, fM_doNote_b21, fM_doNote_b65, fM_doNote_b88, fM_doNote_b133, fM_doNote_b72, fM_doNote_b28, fM_doNote, e_hasPoint p2, e_isPoint (by rw [p1]; exact p2), p1, c1, n1, fChron_today, fM_today, z1, z2, ite_self, ltM_eq, ltI_eq, ltL_eq, bd1_some, bd2_some, ite_bI, if_true, if_false, ite_true, ite_false, eq_self, not_true_eq_false, not_false_eq_true, i10, outside_eq, in_eq, no_eq, eq_true h1, eq_false h3]) (by simp only [fBook_tellHold, fBook_addOrder, fM_doNote_b21, fM_doNote_b65, fM_doNote_b88, fM_doNote_b133, fM_doNote_b72, fM_doNote_b28, fM_doNote, e_hasPoint p2, e_isPoint (by rw [p1]; exact p2), p1, c1, n1, fChron_today, fM_today, z1, z2, ite_self, ltM_eq, ltI_eq, ltL_eq, bd1_some, bd2_some, ite_bI, if_true, if_false, ite_true, ite_false, eq_self, not_true_eq_false, not_false_eq_true, i10, outside_eq, in_eq, no_eq, eq_true h1, eq_false h3]) hn
  by_cases h4 : InR d (s.1 15 1 / cI 1440 + cI 1) (cI 100000)
  rotate_left
  · by_cases k1 : d ≤ s.1 15 1 / cI 1440
    · exact sim_no (c := cI (-102)) (by simp only [fBook_tellHold, fBook_addOrder, fM_doNote_b21, fM_doNote_b65, fM_doNote_b88, fM_doNote_b133, fM_doNote_b72, fM_doNote_b28, fM_doNote, e_hasPoint p2, e_isPoint (by rw [p1]; exact p2), p1, c1, n1, fChron_today, fM_today, z1, z2, ite_self, ltM_eq, ltI_eq, ltL_eq, bd1_some, bd2_some, ite_bI, if_true, if_false, ite_true, ite_false, eq_self, not_true_eq_false, not_false_eq_true, i10, outside_eq, in_eq, no_eq, eq_true h1, eq_true h3, eq_false h4]) (by simp only [fBook_tellHold, fBook_addOrder, fM_doNote_b21, fM_doNote_b65, fM_doNote_b88, fM_doNote_b133, fM_doNote_b72, fM_doNote_b28, fM_doNote, e_hasPoint p2, e_isPoint (by rw [p1]; exact p2), p1, c1, n1, fChron_today, fM_today, z1, z2, ite_self, ltM_eq, ltI_eq, ltL_eq, bd1_some, bd2_some, ite_bI, if_true, if_false, ite_true, ite_false, eq_self, not_true_eq_false, not_false_eq_true, i10, outside_eq, in_eq, no_eq, eq_true h1, eq_true h3, eq_true k1]) hn
    · have k2 : ¬ d ≤ cI 100000 := fun q => h4 (hd.mpr ⟨k1, q⟩)
      exact sim_no (c := cI (-102)) (by simp only [fBook_tellHold, fBook_addOrder, fM_doNote_b21, fM_doNote_b65, fM_doNote_b88, fM_doNote_b133, fM_doNote_b72, fM_doNote_b28, fM_doNote, e_hasPoint p2, e_isPoint (by rw [p1]; exact p2), p1, c1, n1, fChron_today, fM_today, z1, z2, ite_self, ltM_eq, ltI_eq, ltL_eq, bd1_some, bd2_some, ite_bI, if_true, if_false, ite_true, ite_false, eq_self, not_true_eq_false, not_false_eq_true, i10, outside_eq, in_eq, no_eq, eq_true h1, eq_true h3, eq_false h4]) (by simp only [fBook_tellHold, fBook_addOrder, fM_doNote_b21, fM_doNote_b65, fM_doNote_b88, fM_doNote_b133, fM_doNote_b72, fM_doNote_b28, fM_doNote, e_hasPoint p2, e_isPoint (by rw [p1]; exact p2), p1, c1, n1, fChron_today, fM_today, z1, z2, ite_self, ltM_eq, ltI_eq, ltL_eq, bd1_some, bd2_some, ite_bI, if_true, if_false, ite_true, ite_false, eq_self, not_true_eq_false, not_false_eq_true, i10, outside_eq, in_eq, no_eq, eq_true h1, eq_true h3, eq_false k1, eq_false k2]) hn
  obtain ⟨k1, k2⟩ := hd.mp h4
  have h5 : ¬ a = cI (-1) := fun q => by
    have := h1.1
    rw [q] at this
    exact absurd this (by decide)
  by_cases h6 : s.1 30 11 < cI 60
  rotate_left
  · have h69 : s.1 30 11 = cI 60 := cap_eq h6 n3
    exact sim_no (c := cI (-104)) (by simp only [fBook_tellHold, fBook_addOrder, fM_doNote_b21, fM_doNote_b65, fM_doNote_b88, fM_doNote_b133, fM_doNote_b72, fM_doNote_b28, fM_doNote, e_hasPoint p2, e_isPoint (by rw [p1]; exact p2), p1, c1, n1, fChron_today, fM_today, z1, z2, ite_self, ltM_eq, ltI_eq, ltL_eq, bd1_some, bd2_some, ite_bI, if_true, if_false, ite_true, ite_false, eq_self, not_true_eq_false, not_false_eq_true, i10, outside_eq, in_eq, no_eq, eq_true h1, eq_true h3, eq_true h4, eq_false h5, eq_false h6]) (by simp only [fBook_tellHold, fBook_addOrder, fM_doNote_b21, fM_doNote_b65, fM_doNote_b88, fM_doNote_b133, fM_doNote_b72, fM_doNote_b28, fM_doNote, e_hasPoint p2, e_isPoint (by rw [p1]; exact p2), p1, c1, n1, fChron_today, fM_today, z1, z2, ite_self, ltM_eq, ltI_eq, ltL_eq, bd1_some, bd2_some, ite_bI, if_true, if_false, ite_true, ite_false, eq_self, not_true_eq_false, not_false_eq_true, i10, outside_eq, in_eq, no_eq, eq_true h1, eq_true h3, eq_false k1, eq_true k2, eq_true h69]) hn
  have h69 : ¬ s.1 30 11 = cI 60 := cap_ne h6
  by_cases hF : F = true
  · subst hF
    exact sim_no (c := cI (-104)) (by simp only [fBook_tellHold, fBook_addOrder, fM_doNote_b21, fM_doNote_b65, fM_doNote_b88, fM_doNote_b133, fM_doNote_b72, fM_doNote_b28, fM_doNote, e_hasPoint p2, e_isPoint (by rw [p1]; exact p2), p1, c1, n1, fChron_today, fM_today, z1, z2, ite_self, ltM_eq, ltI_eq, ltL_eq, bd1_some, bd2_some, ite_bI, if_true, if_false, ite_true, ite_false, eq_self, not_true_eq_false, not_false_eq_true, i10, outside_eq, in_eq, no_eq, eq_true h1, eq_true h3, eq_true h4, eq_false h5, eq_true h6, hA.no]) (by simp only [fBook_tellHold, fBook_addOrder, fM_doNote_b21, fM_doNote_b65, fM_doNote_b88, fM_doNote_b133, fM_doNote_b72, fM_doNote_b28, fM_doNote, e_hasPoint p2, e_isPoint (by rw [p1]; exact p2), p1, c1, n1, fChron_today, fM_today, z1, z2, ite_self, ltM_eq, ltI_eq, ltL_eq, bd1_some, bd2_some, ite_bI, if_true, if_false, ite_true, ite_false, eq_self, not_true_eq_false, not_false_eq_true, i10, outside_eq, in_eq, no_eq, eq_true h1, eq_true h3, eq_false k1, eq_true k2, eq_false h69, hM.no]) hn
  have hF2 : F = false := by cases F <;> simp_all
  subst hF2
  have hb : inb (s.1 30 11) 60 = true := inb_iff.mpr ⟨n2, lt_n h6⟩
  have k3 := hd.mp h4
  simp (maxSteps := 2000000) (disch := decide) only [fBook_tellHold, fBook_addOrder, fM_doNote_b21, fM_doNote_b65, fM_doNote_b88, fM_doNote_b133, fM_doNote_b72, fM_doNote_b28, fM_doNote, e_hasPoint p2, e_isPoint (by rw [p1]; exact p2), p1, c1, n1, fChron_today, fM_today, z1, z2, ite_self, ltM_eq, ltI_eq, ltL_eq, bd1_some, bd2_some, ite_bI, if_true, if_false, ite_true, ite_false, eq_self, not_true_eq_false, not_false_eq_true, i10, outside_eq, in_eq, no_eq, eq_true h1, eq_true h3, eq_true h4, eq_false h5, eq_true h6, hA.yes, eq_false k1, eq_true k2, eq_false h69, hM.yes, ix_0, ix_1, ix_2, ix_3, ix_4, ix_5, ix_6, ix_7, ix_8, Nat.reduceAdd, wI_c, wI_ne, wL_1, lupd_ne, up1_eq, up1_ne, eq_true hb, ok_some]
  have hk := day_b c2
  have hq := h1.2
  have hq1 := h1.1
  rw [le_i, le_i, show (cI 100000).toInt = 100000 from rfl] at k3
  refine ⟨?_, Or.inr ⟨?_, rfl, ?_, ROr_add h h6 h1 ⟨by decide, by show (-1 : Int) ≤ _; omega⟩ ⟨by omega, by omega⟩⟩⟩
  · rw [Int32.add_sub_cancel]
  · simp (disch := decide) only [ix_0, ix_1, ix_2, ix_3, ix_4, ix_5, ix_6, ix_7, ix_8, Nat.reduceAdd, wI_c, wI_ne, wL_1, lupd_ne, up1_eq, up1_ne]; exact h0
  · exact ((((lgS.rf.wI (by decide) (by decide)).wI (by decide) (by decide)).wI (by decide) (by decide)).wI (by decide) (by decide)).wI (by decide) (by decide)
end
theorem irem_toInt {x y : Int32} (h : 0 ≤ x.toInt) (h2 : 0 < y.toInt) : (irem x y).toInt = x.toInt % y.toInt := by
  have e := div_toInt h h2
  have b := Int32.toInt_lt x
  have m := Int.emod_add_mul_ediv x.toInt y.toInt
  have m0 := Int.emod_nonneg x.toInt (show y.toInt ≠ 0 by omega)
  have p : 0 ≤ x.toInt / y.toInt * y.toInt := Int.mul_nonneg (Int.ediv_nonneg h (by omega)) (by omega)
  have mc : x.toInt / y.toInt * y.toInt = y.toInt * (x.toInt / y.toInt) := Int.mul_comm _ _
  have e1 : (x / y * y).toInt = x.toInt / y.toInt * y.toInt := by rw [mul_toInt (by rw [e]; omega) (by rw [e]; omega), e]
  show (x - x / y * y).toInt = _
  rw [sub_toInt (by rw [e1]; omega) (by rw [e1]; omega), e1]
  omega
section
variable {s t : ev_M} {F : Bool} {A : Nat → Nat → Int32}
/-- the first minute from a on, of the time of day d: class and reference -/
theorem from_eq {a d : Int32} (h : Rg 1 a 1000000001) (hd : Rg 0 d 1439) : ∃ y, (∀ u, fM_from u a d = some y) ∧ y = a + irem ((d + cI 1440) - irem a (cI 1440)) (cI 1440) ∧ a.toInt ≤ y.toInt ∧ y.toInt ≤ a.toInt + 1439 := by
  obtain ⟨a1, a2⟩ := h
  obtain ⟨d1, d2⟩ := hd
  have c : (cI 1440).toInt = 1440 := rfl
  have r := irem_toInt (x := a) (y := cI 1440) (by omega) (by decide)
  rw [c] at r
  have e1 : (d + cI 1440).toInt = d.toInt + 1440 := by rw [add_toInt (by rw [c]; omega) (by rw [c]; omega), c]
  have e2 : ((d + cI 1440) - irem a (cI 1440)).toInt = d.toInt + 1440 - a.toInt % 1440 := by rw [sub_toInt (by rw [e1, r]; omega) (by rw [e1, r]; omega), e1, r]
  have e3 : (irem ((d + cI 1440) - irem a (cI 1440)) (cI 1440)).toInt = (d.toInt + 1440 - a.toInt % 1440) % 1440 := by rw [irem_toInt (by rw [e2]; omega) (by decide), e2, c]
  have e4 : (a + irem ((d + cI 1440) - irem a (cI 1440)) (cI 1440)).toInt = a.toInt + (d.toInt + 1440 - a.toInt % 1440) % 1440 := by rw [add_toInt (by rw [e3]; omega) (by rw [e3]; omega), e3]
  have f1 : (a - irem a (cI 1440)).toInt = a.toInt - a.toInt % 1440 := by rw [sub_toInt (by rw [r]; omega) (by rw [r]; omega), r]
  have f2 : ((a - irem a (cI 1440)) + d).toInt = a.toInt - a.toInt % 1440 + d.toInt := by rw [add_toInt (by rw [f1]; omega) (by rw [f1]; omega), f1]
  by_cases q : irem a (cI 1440) ≤ d
  · refine ⟨a - irem a (cI 1440) + d + cI 0, fun u => by unfold fM_from fM_from_b23; rw [if_neg (by decide), ltI_eq, if_pos q], ?_, ?_⟩ <;> rw [le_i, r] at q
    · rw [eq_i, e4, add_toInt (by rw [f2, show (cI 0).toInt = 0 from rfl]; omega) (by rw [f2, show (cI 0).toInt = 0 from rfl]; omega), f2, show (cI 0).toInt = 0 from rfl]
      omega
    · rw [add_toInt (by rw [f2, show (cI 0).toInt = 0 from rfl]; omega) (by rw [f2, show (cI 0).toInt = 0 from rfl]; omega), f2, show (cI 0).toInt = 0 from rfl]
      omega
  · refine ⟨a - irem a (cI 1440) + d + cI 1440, fun u => by unfold fM_from fM_from_b23; rw [if_neg (by decide), ltI_eq, if_neg q], ?_, ?_⟩ <;> rw [le_i, r] at q
    · rw [eq_i, e4, add_toInt (by rw [f2, c]; omega) (by rw [f2, c]; omega), f2, c]
      omega
    · rw [add_toInt (by rw [f2, c]; omega) (by rw [f2, c]; omega), f2, c]
      omega
theorem a_leg {k : Nat} {a b c d e : Int32} (hA : AdmC s F A) (hM : FulM t F) (h0 : t.1 549 15 = 0) (hk : k ≤ 20000) (h : RLn k s t) (ht : RTim s t) (hp : RPl s t) : Ok (fLines_make s a b c d e) fun x => Ok (fM_doLeg t a b c d e) fun y => AP (fun s' t' => RLn k s' t' ∧ s' = s) (fun s' t' => RLn (k + 1) s' t' ∧ s'.1 449 4 = s.1 449 4 + cI 1 ∧ s'.1 455 = up1 (s.1 455) (ix (s.1 449 4)) e ∧ (s.1 449 4).toInt < 20 ∧ 1 ≤ e.toInt) F A s x y := by
  obtain ⟨⟨n1, n2⟩, g1, g2, g3, g4, g5, g6, g7, b1, b2, b3, b4, b5, b6, b7⟩ := id h
  obtain ⟨⟨c1, c2⟩, -⟩ := id ht
  obtain ⟨⟨p1, p2⟩, -⟩ := id hp
  have hn : (fun s' t' => RLn k s' t' ∧ s' = s) s (wI t 549 15 (cI 1)) := ⟨h.keep rf_fr no_fr rfl rfl, rfl⟩
  by_cases h1 : Has a (s.1 30 2)
  rotate_left
  · exact sim_no (c := cI (-101)) (by simp only [fLines_make, fLines_setNext, fLines_firstFrom, fM_doLeg_b16, fM_doLeg_b62, fM_doLeg_b85, fM_doLeg, e_hasPlace p2.1, e_isPlace (by rw [p1]; exact p2.1), p1, n1, ite_self, ltM_eq, ltI_eq, ltL_eq, bd1_some, bd2_some, ite_bI, if_true, if_false, ite_true, ite_false, eq_self, not_true_eq_false, not_false_eq_true, i10, outside_eq, in_eq, no_eq, eq_false h1]) (by simp only [fLines_make, fLines_setNext, fLines_firstFrom, fM_doLeg_b16, fM_doLeg_b62, fM_doLeg_b85, fM_doLeg, e_hasPlace p2.1, e_isPlace (by rw [p1]; exact p2.1), p1, n1, ite_self, ltM_eq, ltI_eq, ltL_eq, bd1_some, bd2_some, ite_bI, if_true, if_false, ite_true, ite_false, eq_self, not_true_eq_false, not_false_eq_true, i10, outside_eq, in_eq, no_eq, eq_false h1]) hn
  by_cases h2 : Has b (s.1 30 2)
  rotate_left
  · exact sim_no (c := cI (-101)) (by simp only [fLines_make, fLines_setNext, fLines_firstFrom, fM_doLeg_b16, fM_doLeg_b62, fM_doLeg_b85, fM_doLeg, e_hasPlace p2.1, e_isPlace (by rw [p1]; exact p2.1), p1, n1, ite_self, ltM_eq, ltI_eq, ltL_eq, bd1_some, bd2_some, ite_bI, if_true, if_false, ite_true, ite_false, eq_self, not_true_eq_false, not_false_eq_true, i10, outside_eq, in_eq, no_eq, eq_true h1, eq_false h2]) (by simp only [fLines_make, fLines_setNext, fLines_firstFrom, fM_doLeg_b16, fM_doLeg_b62, fM_doLeg_b85, fM_doLeg, e_hasPlace p2.1, e_isPlace (by rw [p1]; exact p2.1), p1, n1, ite_self, ltM_eq, ltI_eq, ltL_eq, bd1_some, bd2_some, ite_bI, if_true, if_false, ite_true, ite_false, eq_self, not_true_eq_false, not_false_eq_true, i10, outside_eq, in_eq, no_eq, eq_true h1, eq_false h2]) hn
  by_cases h3 : a = b
  · exact sim_no (c := cI (-102)) (by simp only [fLines_make, fLines_setNext, fLines_firstFrom, fM_doLeg_b16, fM_doLeg_b62, fM_doLeg_b85, fM_doLeg, e_hasPlace p2.1, e_isPlace (by rw [p1]; exact p2.1), p1, n1, ite_self, ltM_eq, ltI_eq, ltL_eq, bd1_some, bd2_some, ite_bI, if_true, if_false, ite_true, ite_false, eq_self, not_true_eq_false, not_false_eq_true, i10, outside_eq, in_eq, no_eq, eq_true h1, eq_true h2, eq_true h3]) (by simp only [fLines_make, fLines_setNext, fLines_firstFrom, fM_doLeg_b16, fM_doLeg_b62, fM_doLeg_b85, fM_doLeg, e_hasPlace p2.1, e_isPlace (by rw [p1]; exact p2.1), p1, n1, ite_self, ltM_eq, ltI_eq, ltL_eq, bd1_some, bd2_some, ite_bI, if_true, if_false, ite_true, ite_false, eq_self, not_true_eq_false, not_false_eq_true, i10, outside_eq, in_eq, no_eq, eq_true h1, eq_true h2, eq_true h3]) hn
  by_cases h4 : InR c (cI 0) (cI 1439)
  rotate_left
  · exact sim_no (c := cI (-102)) (by simp only [fLines_make, fLines_setNext, fLines_firstFrom, fM_doLeg_b16, fM_doLeg_b62, fM_doLeg_b85, fM_doLeg, e_hasPlace p2.1, e_isPlace (by rw [p1]; exact p2.1), p1, n1, ite_self, ltM_eq, ltI_eq, ltL_eq, bd1_some, bd2_some, ite_bI, if_true, if_false, ite_true, ite_false, eq_self, not_true_eq_false, not_false_eq_true, i10, outside_eq, in_eq, no_eq, eq_true h1, eq_true h2, eq_false h3, eq_false h4]) (by simp only [fLines_make, fLines_setNext, fLines_firstFrom, fM_doLeg_b16, fM_doLeg_b62, fM_doLeg_b85, fM_doLeg, e_hasPlace p2.1, e_isPlace (by rw [p1]; exact p2.1), p1, n1, ite_self, ltM_eq, ltI_eq, ltL_eq, bd1_some, bd2_some, ite_bI, if_true, if_false, ite_true, ite_false, eq_self, not_true_eq_false, not_false_eq_true, i10, outside_eq, in_eq, no_eq, eq_true h1, eq_true h2, eq_false h3, eq_false h4]) hn
  by_cases h5 : InR d (cI 1) (cI 3000)
  rotate_left
  · exact sim_no (c := cI (-102)) (by simp only [fLines_make, fLines_setNext, fLines_firstFrom, fM_doLeg_b16, fM_doLeg_b62, fM_doLeg_b85, fM_doLeg, e_hasPlace p2.1, e_isPlace (by rw [p1]; exact p2.1), p1, n1, ite_self, ltM_eq, ltI_eq, ltL_eq, bd1_some, bd2_some, ite_bI, if_true, if_false, ite_true, ite_false, eq_self, not_true_eq_false, not_false_eq_true, i10, outside_eq, in_eq, no_eq, eq_true h1, eq_true h2, eq_false h3, eq_true h4, eq_false h5]) (by simp only [fLines_make, fLines_setNext, fLines_firstFrom, fM_doLeg_b16, fM_doLeg_b62, fM_doLeg_b85, fM_doLeg, e_hasPlace p2.1, e_isPlace (by rw [p1]; exact p2.1), p1, n1, ite_self, ltM_eq, ltI_eq, ltL_eq, bd1_some, bd2_some, ite_bI, if_true, if_false, ite_true, ite_false, eq_self, not_true_eq_false, not_false_eq_true, i10, outside_eq, in_eq, no_eq, eq_true h1, eq_true h2, eq_false h3, eq_true h4, eq_false h5]) hn
  by_cases h6 : InR e (cI 1) (cI 20)
  rotate_left
  · exact sim_no (c := cI (-102)) (by simp only [fLines_make, fLines_setNext, fLines_firstFrom, fM_doLeg_b16, fM_doLeg_b62, fM_doLeg_b85, fM_doLeg, e_hasPlace p2.1, e_isPlace (by rw [p1]; exact p2.1), p1, n1, ite_self, ltM_eq, ltI_eq, ltL_eq, bd1_some, bd2_some, ite_bI, if_true, if_false, ite_true, ite_false, eq_self, not_true_eq_false, not_false_eq_true, i10, outside_eq, in_eq, no_eq, eq_true h1, eq_true h2, eq_false h3, eq_true h4, eq_true h5, eq_false h6]) (by simp only [fLines_make, fLines_setNext, fLines_firstFrom, fM_doLeg_b16, fM_doLeg_b62, fM_doLeg_b85, fM_doLeg, e_hasPlace p2.1, e_isPlace (by rw [p1]; exact p2.1), p1, n1, ite_self, ltM_eq, ltI_eq, ltL_eq, bd1_some, bd2_some, ite_bI, if_true, if_false, ite_true, ite_false, eq_self, not_true_eq_false, not_false_eq_true, i10, outside_eq, in_eq, no_eq, eq_true h1, eq_true h2, eq_false h3, eq_true h4, eq_true h5, eq_false h6]) hn
  by_cases h7 : (s.1 449 4) < cI 20
  rotate_left
  · have h79 : (s.1 449 4) = cI 20 := cap_eq h7 (n2.2)
    exact sim_no (c := cI (-104)) (by simp only [fLines_make, fLines_setNext, fLines_firstFrom, fM_doLeg_b16, fM_doLeg_b62, fM_doLeg_b85, fM_doLeg, e_hasPlace p2.1, e_isPlace (by rw [p1]; exact p2.1), p1, n1, ite_self, ltM_eq, ltI_eq, ltL_eq, bd1_some, bd2_some, ite_bI, if_true, if_false, ite_true, ite_false, eq_self, not_true_eq_false, not_false_eq_true, i10, outside_eq, in_eq, no_eq, eq_true h1, eq_true h2, eq_false h3, eq_true h4, eq_true h5, eq_true h6, eq_false h7, eq_true h79]) (by simp only [fLines_make, fLines_setNext, fLines_firstFrom, fM_doLeg_b16, fM_doLeg_b62, fM_doLeg_b85, fM_doLeg, e_hasPlace p2.1, e_isPlace (by rw [p1]; exact p2.1), p1, n1, ite_self, ltM_eq, ltI_eq, ltL_eq, bd1_some, bd2_some, ite_bI, if_true, if_false, ite_true, ite_false, eq_self, not_true_eq_false, not_false_eq_true, i10, outside_eq, in_eq, no_eq, eq_true h1, eq_true h2, eq_false h3, eq_true h4, eq_true h5, eq_true h6, eq_false h7, eq_true h79]) hn
  have h79 : ¬ (s.1 449 4) = cI 20 := cap_ne h7
  by_cases hF : F = true
  · subst hF
    exact sim_no (c := cI (-104)) (by simp only [fLines_make, fLines_setNext, fLines_firstFrom, fM_doLeg_b16, fM_doLeg_b62, fM_doLeg_b85, fM_doLeg, e_hasPlace p2.1, e_isPlace (by rw [p1]; exact p2.1), p1, n1, ite_self, ltM_eq, ltI_eq, ltL_eq, bd1_some, bd2_some, ite_bI, if_true, if_false, ite_true, ite_false, eq_self, not_true_eq_false, not_false_eq_true, i10, outside_eq, in_eq, no_eq, eq_true h1, eq_true h2, eq_false h3, eq_true h4, eq_true h5, eq_true h6, eq_true h7, eq_false h79, hA.no]) (by simp only [fLines_make, fLines_setNext, fLines_firstFrom, fM_doLeg_b16, fM_doLeg_b62, fM_doLeg_b85, fM_doLeg, e_hasPlace p2.1, e_isPlace (by rw [p1]; exact p2.1), p1, n1, ite_self, ltM_eq, ltI_eq, ltL_eq, bd1_some, bd2_some, ite_bI, if_true, if_false, ite_true, ite_false, eq_self, not_true_eq_false, not_false_eq_true, i10, outside_eq, in_eq, no_eq, eq_true h1, eq_true h2, eq_false h3, eq_true h4, eq_true h5, eq_true h6, eq_true h7, eq_false h79, hM.no]) hn
  have hF2 : F = false := by cases F <;> simp_all
  subst hF2
  have hb : inb (s.1 449 4) 20 = true := inb_iff.mpr ⟨n2.1, lt_n h7⟩
  have e15 : (s.1 15 1 + cI 1).toInt = (s.1 15 1).toInt + 1 := inc_i (by have := c2.2; omega)
  have c21 := c2.1
  have c22 := c2.2
  have z := eq_false (show ¬ cI 1440 = 0 by decide)
  have hk7 : (s.1 449 4).toInt < 20 := lt_n h7
  have n21 := n2.1
  have n22 := n2.2
  have ei : ix (s.1 449 4 + cI 1) = ix (s.1 449 4) + 1 := ix_inc n2.1 (by omega)
  have e4 : (s.1 449 4 + cI 1).toInt = (s.1 449 4).toInt + 1 := inc_i (by omega)
  obtain ⟨y, ey, hy, l1, l2⟩ := from_eq (a := s.1 15 1 + cI 1) (d := c) ⟨by omega, by omega⟩ ⟨h4.1, h4.2⟩
  simp (maxSteps := 2000000) (disch := decide) only [fLines_make, fLines_setNext, fLines_firstFrom, fM_doLeg_b16, fM_doLeg_b62, fM_doLeg_b85, fM_doLeg, e_hasPlace p2.1, e_isPlace (by rw [p1]; exact p2.1), p1, n1, ite_self, ltM_eq, ltI_eq, ltL_eq, bd1_some, bd2_some, ite_bI, if_true, if_false, ite_true, ite_false, eq_self, not_true_eq_false, not_false_eq_true, i10, outside_eq, in_eq, no_eq, eq_true h1, eq_true h2, eq_false h3, eq_true h4, eq_true h5, eq_true h6, eq_true h7, eq_false h79, z, hb, hA.yes, hM.yes, ix_0, ix_1, ix_2, ix_3, ix_4, ix_5, ix_6, ix_7, ix_8, ix_9, ix_10, ix_11, ix_12, ix_13, ix_14, ix_15, ix_16, ix_17, ix_18, ix_19, ix_20, ix_21, Nat.reduceAdd, wI_c, wI_ne, wL_1, lupd_ne, up1_eq, up1_ne, c1, ey, ← hy, ok_some]
  have a1 := h1.1
  have a2 := h1.2
  have a3 := h2.1
  have a4 := h2.2
  refine ⟨?_, Or.inr ⟨?_, rfl, ?_, ?_, ?_, ?_, hk7, h6.1⟩⟩
  · rw [Int32.add_sub_cancel]
  · simp (disch := decide) only [ix_0, ix_1, ix_2, ix_3, ix_4, ix_5, ix_6, ix_7, ix_8, ix_9, ix_10, ix_11, ix_12, ix_13, ix_14, ix_15, ix_16, ix_17, ix_18, ix_19, ix_20, ix_21, Nat.reduceAdd, wI_c, wI_ne, wL_1, lupd_ne, up1_eq, up1_ne]; exact h0
  · exact (((((((lgS.rf.wI (by decide) (by decide)).wI (by decide) (by decide)).wI (by decide) (by decide)).wI (by decide) (by decide)).wI (by decide) (by decide)).wI (by decide) (by decide)).wI (by decide) (by decide)).wI (by decide) (by decide)
  · unfold RLn
    simp (disch := decide) only [ix_0, ix_1, ix_2, ix_3, ix_4, ix_5, ix_6, ix_7, ix_8, ix_9, ix_10, ix_11, ix_12, ix_13, ix_14, ix_15, ix_16, ix_17, ix_18, ix_19, ix_20, ix_21, Nat.reduceAdd, wI_c, wI_ne, wL_1, lupd_ne, up1_eq, up1_ne]
    exact ⟨⟨trivial, by omega, by omega⟩, g1.ext rfl ei, g2.ext rfl ei, g3.ext rfl ei, g4.ext rfl ei, g5.ext rfl ei, g6.ext rfl ei, g7.ext rfl ei, b1.ext ⟨a1, by omega⟩ ei, b2.ext ⟨a3, by omega⟩ ei, b3.ext h4 ei, b4.ext h5 ei, b5.ext h6 ei, b6.ext ⟨by omega, by omega⟩ ei, b7.ext ⟨by decide, by show (0 : Int) ≤ _; omega⟩ ei⟩
  · simp (disch := decide) only [ix_0, ix_1, ix_2, ix_3, ix_4, ix_5, ix_6, ix_7, ix_8, ix_9, ix_10, ix_11, ix_12, ix_13, ix_14, ix_15, ix_16, ix_17, ix_18, ix_19, ix_20, ix_21, Nat.reduceAdd, wI_c, wI_ne, wL_1, lupd_ne, up1_eq, up1_ne]
  · simp (disch := decide) only [ix_0, ix_1, ix_2, ix_3, ix_4, ix_5, ix_6, ix_7, ix_8, ix_9, ix_10, ix_11, ix_12, ix_13, ix_14, ix_15, ix_16, ix_17, ix_18, ix_19, ix_20, ix_21, Nat.reduceAdd, wI_c, wI_ne, wL_1, lupd_ne, up1_eq, up1_ne]
end
