/-! ===== LEVEL 3: the act scanned ===== -/
section
variable {s t : ev_M} {F : Bool} {A : Nat → Nat → Int32} {n : Nat}
theorem a_scan {a b c d : Int32} (hA : AdmC s F A) (hM : FulM t F) (h0 : t.1 549 15 = 0) (h : REv n s t) (hi : RIt s t) (ht : RTim s t) (hn9 : n < 2147483647) : Ok (fPH_scanItem s a b c d) fun x => Ok (fM_doScanned t a b c d) fun y => AP (REv n) (REv (n + 1)) F A s x y := by
  obtain ⟨⟨n1, n2, n3⟩, -⟩ := id hi
  obtain ⟨⟨c1, c2⟩, c3, c4⟩ := id ht
  have hn : REv n s (wI t 549 15 (cI 1)) := h.keep rf_fr no_fr rfl rfl
  have k7 : InR a (cI 0) (cI 7) ↔ 0 ≤ a.toInt ∧ a.toInt ≤ 7 := Iff.rfl
  by_cases h1 : Has b (s.1 100 5)
  rotate_left
  · by_cases h2 : InR a (cI 0) (cI 7)
    · exact sim_no (c := cI (-101)) (by simp only [fPH_scanItem, fChron_scanBy, fM_doScanned_b18, fM_doScanned_b67, fM_doScanned, e_itemsHas n2, e_isItem (by rw [n1]; exact n2), n1, c1, ltM_eq, ltI_eq, ltL_eq, bd1_some, bd2_some, ite_bI, if_true, if_false, ite_true, ite_false, eq_self, not_true_eq_false, not_false_eq_true, i10, outside_eq, in_eq, no_eq, eq_false h1]) (by simp only [fPH_scanItem, fChron_scanBy, fM_doScanned_b18, fM_doScanned_b67, fM_doScanned, e_itemsHas n2, e_isItem (by rw [n1]; exact n2), n1, c1, ltM_eq, ltI_eq, ltL_eq, bd1_some, bd2_some, ite_bI, if_true, if_false, ite_true, ite_false, eq_self, not_true_eq_false, not_false_eq_true, i10, outside_eq, in_eq, no_eq, eq_false h1, eq_true h2]) hn
    · exact sim_no (c := cI (-101)) (by simp only [fPH_scanItem, fChron_scanBy, fM_doScanned_b18, fM_doScanned_b67, fM_doScanned, e_itemsHas n2, e_isItem (by rw [n1]; exact n2), n1, c1, ltM_eq, ltI_eq, ltL_eq, bd1_some, bd2_some, ite_bI, if_true, if_false, ite_true, ite_false, eq_self, not_true_eq_false, not_false_eq_true, i10, outside_eq, in_eq, no_eq, eq_false h1]) (by simp only [fPH_scanItem, fChron_scanBy, fM_doScanned_b18, fM_doScanned_b67, fM_doScanned, e_itemsHas n2, e_isItem (by rw [n1]; exact n2), n1, c1, ltM_eq, ltI_eq, ltL_eq, bd1_some, bd2_some, ite_bI, if_true, if_false, ite_true, ite_false, eq_self, not_true_eq_false, not_false_eq_true, i10, outside_eq, in_eq, no_eq, eq_false h2]) hn
  by_cases h2 : InR a (cI 0) (cI 7)
  rotate_left
  · exact sim_no (c := cI (-101)) (by simp only [fPH_scanItem, fChron_scanBy, fM_doScanned_b18, fM_doScanned_b67, fM_doScanned, e_itemsHas n2, e_isItem (by rw [n1]; exact n2), n1, c1, ltM_eq, ltI_eq, ltL_eq, bd1_some, bd2_some, ite_bI, if_true, if_false, ite_true, ite_false, eq_self, not_true_eq_false, not_false_eq_true, i10, outside_eq, in_eq, no_eq, eq_true h1, eq_false h2]) (by simp only [fPH_scanItem, fChron_scanBy, fM_doScanned_b18, fM_doScanned_b67, fM_doScanned, e_itemsHas n2, e_isItem (by rw [n1]; exact n2), n1, c1, ltM_eq, ltI_eq, ltL_eq, bd1_some, bd2_some, ite_bI, if_true, if_false, ite_true, ite_false, eq_self, not_true_eq_false, not_false_eq_true, i10, outside_eq, in_eq, no_eq, eq_false h2]) hn
  have ha : inb a 8 = true := inb_iff.mpr ⟨h2.1, by have := h2.2; rw [show (cI 7).toInt = 7 from rfl] at this; omega⟩
  have i8 : ix a < 8 := by have := inb_iff.mp ha; rw [ix_toNat]; omega
  have e3 := c3 _ i8
  by_cases h3 : InR c (cI 0) (cI 9)
  rotate_left
  · exact sim_no (c := cI (-102)) (by simp only [fPH_scanItem, fChron_scanBy, fM_doScanned_b18, fM_doScanned_b67, fM_doScanned, e_itemsHas n2, e_isItem (by rw [n1]; exact n2), n1, c1, ltM_eq, ltI_eq, ltL_eq, bd1_some, bd2_some, ite_bI, if_true, if_false, ite_true, ite_false, eq_self, not_true_eq_false, not_false_eq_true, i10, outside_eq, in_eq, no_eq, eq_true h1, eq_true h2, eq_false h3]) (by simp only [fPH_scanItem, fChron_scanBy, fM_doScanned_b18, fM_doScanned_b67, fM_doScanned, e_itemsHas n2, e_isItem (by rw [n1]; exact n2), n1, c1, ltM_eq, ltI_eq, ltL_eq, bd1_some, bd2_some, ite_bI, if_true, if_false, ite_true, ite_false, eq_self, not_true_eq_false, not_false_eq_true, i10, outside_eq, in_eq, no_eq, eq_true h1, eq_true h2, eq_false h3]) hn
  by_cases h4 : InR d (cI 0) (cI 1000000000)
  rotate_left
  · exact sim_no (c := cI (-102)) (by simp only [fPH_scanItem, fChron_scanBy, fM_doScanned_b18, fM_doScanned_b67, fM_doScanned, e_itemsHas n2, e_isItem (by rw [n1]; exact n2), n1, c1, ltM_eq, ltI_eq, ltL_eq, bd1_some, bd2_some, ite_bI, if_true, if_false, ite_true, ite_false, eq_self, not_true_eq_false, not_false_eq_true, i10, outside_eq, in_eq, no_eq, eq_true h1, eq_true h2, eq_true h3, eq_false h4]) (by simp only [fPH_scanItem, fChron_scanBy, fM_doScanned_b18, fM_doScanned_b67, fM_doScanned, e_itemsHas n2, e_isItem (by rw [n1]; exact n2), n1, c1, ltM_eq, ltI_eq, ltL_eq, bd1_some, bd2_some, ite_bI, if_true, if_false, ite_true, ite_false, eq_self, not_true_eq_false, not_false_eq_true, i10, outside_eq, in_eq, no_eq, eq_true h1, eq_true h2, eq_true h3, eq_false h4]) hn
  by_cases h5 : InR (d + s.1 29 (ix a)) (cI 0) (s.1 15 1)
  rotate_left
  · exact sim_no (c := cI (-102)) (by simp only [fPH_scanItem, fChron_scanBy, fM_doScanned_b18, fM_doScanned_b67, fM_doScanned, e_itemsHas n2, e_isItem (by rw [n1]; exact n2), n1, c1, ltM_eq, ltI_eq, ltL_eq, bd1_some, bd2_some, ite_bI, if_true, if_false, ite_true, ite_false, eq_self, not_true_eq_false, not_false_eq_true, i10, outside_eq, in_eq, no_eq, ha, eq_true h1, eq_true h2, eq_true h3, eq_true h4, eq_false h5]) (by simp only [fPH_scanItem, fChron_scanBy, fM_doScanned_b18, fM_doScanned_b67, fM_doScanned, e_itemsHas n2, e_isItem (by rw [n1]; exact n2), n1, c1, ltM_eq, ltI_eq, ltL_eq, bd1_some, bd2_some, ite_bI, if_true, if_false, ite_true, ite_false, eq_self, not_true_eq_false, not_false_eq_true, i10, outside_eq, in_eq, no_eq, ha, e3, eq_true h1, eq_true h2, eq_true h3, eq_true h4, eq_false h5]) hn
  by_cases hF : F = true
  · subst hF
    exact sim_no (c := cI (-104)) (by simp only [fPH_scanItem, fChron_scanBy, fM_doScanned_b18, fM_doScanned_b67, fM_doScanned, e_itemsHas n2, e_isItem (by rw [n1]; exact n2), n1, c1, ltM_eq, ltI_eq, ltL_eq, bd1_some, bd2_some, ite_bI, if_true, if_false, ite_true, ite_false, eq_self, not_true_eq_false, not_false_eq_true, i10, outside_eq, in_eq, no_eq, ha, eq_true h1, eq_true h2, eq_true h3, eq_true h4, eq_true h5, hA.no]) (by simp only [fPH_scanItem, fChron_scanBy, fM_doScanned_b18, fM_doScanned_b67, fM_doScanned, e_itemsHas n2, e_isItem (by rw [n1]; exact n2), n1, c1, ltM_eq, ltI_eq, ltL_eq, bd1_some, bd2_some, ite_bI, if_true, if_false, ite_true, ite_false, eq_self, not_true_eq_false, not_false_eq_true, i10, outside_eq, in_eq, no_eq, ha, e3, eq_true h1, eq_true h2, eq_true h3, eq_true h4, eq_true h5, hM.no]) hn
  have hF2 : F = false := by cases F <;> simp_all
  subst hF2
  obtain ⟨s', t', w1, w2, w3⟩ := ev_add (n := n) (s := lupd A s) (t := t) (i := b) (so := cI 20 + c) (pl := cI (-1)) (wh := d + s.1 29 (ix a)) (h.keep lupd_fr rf_fr rfl rfl) hn9 h1.1 (by have := h1.2; omega)
  have u29 : (lupd A s).1 29 = s.1 29 := lupd_ne (Or.inr (by decide))
  simp only [fPH_scanItem, fChron_scanBy, fM_doScanned_b18, fM_doScanned_b67, fM_doScanned, e_itemsHas n2, e_isItem (by rw [n1]; exact n2), n1, c1, ltM_eq, ltI_eq, ltL_eq, bd1_some, bd2_some, ite_bI, if_true, if_false, ite_true, ite_false, eq_self, not_true_eq_false, not_false_eq_true, i10, outside_eq, in_eq, no_eq, ha, e3, eq_true h1, eq_true h2, eq_true h3, eq_true h4, eq_true h5, hA.yes, hM.yes, u29, w1, w2, ok_some]
  exact ⟨rfl, Or.inr ⟨by rw [((fr_fM_event w2).1 549 15 rfl).1]; exact h0, rfl, lgS.fr (fr_fChron_keep w1) (by decide +kernel) (by decide +kernel), w3⟩⟩
end
