/-! ===== LEVEL 3: the act post ===== -/
section
variable {s t : ev_M} {F : Bool} {A : Nat → Nat → Int32} {n : Nat}
theorem a_post {a b : Int32} (hA : AdmC s F A) (hM : FulM t F) (h0 : t.1 549 15 = 0) (h : RV n s t) (hp : RPl s t) (hcu : RCu s t) (ht : RTim s t) (hg : RBg s t) (hl : RLk s t) (hn9 : n < 2147483646) : Ok (fItems_postAt s a b) fun x => Ok (fM_doPost t a b) fun y => AP (RV n) (RV (n + 1)) F A s x y := by
  obtain ⟨⟨n1, n2, n3⟩, g1, -⟩ := id h.1.1
  obtain ⟨⟨p1, p2, p3⟩, -⟩ := id hp
  have hn : RV n s (wI t 549 15 (cI 1)) := h.no
  by_cases h1 : Has a (s.1 100 5)
  rotate_left
  · exact sim_no (c := cI (-101)) (by simp only [fItems_postAt, fM_doPost_b16, fM_doPost, e_itemsHas n2, e_isItem (by rw [n1]; exact n2), n1, e_hasPlace p2, e_isPlace (by rw [p1]; exact p2), p1, ltM_eq, ltI_eq, ltL_eq, bd1_some, bd2_some, ite_bI, if_true, if_false, ite_true, ite_false, eq_self, not_true_eq_false, not_false_eq_true, i10, outside_eq, in_eq, no_eq, eq_false h1]) (by simp only [fItems_postAt, fM_doPost_b16, fM_doPost, e_itemsHas n2, e_isItem (by rw [n1]; exact n2), n1, e_hasPlace p2, e_isPlace (by rw [p1]; exact p2), p1, ltM_eq, ltI_eq, ltL_eq, bd1_some, bd2_some, ite_bI, if_true, if_false, ite_true, ite_false, eq_self, not_true_eq_false, not_false_eq_true, i10, outside_eq, in_eq, no_eq, eq_false h1]) hn
  by_cases h2 : Has b (s.1 30 2)
  rotate_left
  · exact sim_no (c := cI (-101)) (by simp only [fItems_postAt, fM_doPost_b16, fM_doPost, e_itemsHas n2, e_isItem (by rw [n1]; exact n2), n1, e_hasPlace p2, e_isPlace (by rw [p1]; exact p2), p1, ltM_eq, ltI_eq, ltL_eq, bd1_some, bd2_some, ite_bI, if_true, if_false, ite_true, ite_false, eq_self, not_true_eq_false, not_false_eq_true, i10, outside_eq, in_eq, no_eq, eq_true h1, eq_false h2]) (by simp only [fItems_postAt, fM_doPost_b16, fM_doPost, e_itemsHas n2, e_isItem (by rw [n1]; exact n2), n1, e_hasPlace p2, e_isPlace (by rw [p1]; exact p2), p1, ltM_eq, ltI_eq, ltL_eq, bd1_some, bd2_some, ite_bI, if_true, if_false, ite_true, ite_false, eq_self, not_true_eq_false, not_false_eq_true, i10, outside_eq, in_eq, no_eq, eq_true h1, eq_false h2]) hn
  have hb : inb a 300 = true := h1.inb n3
  have hi := h1.ix
  have e1 := g1 _ hi
  by_cases h3 : s.1 102 (ix a) = 0
  rotate_left
  · have h39 : ¬ s.1 102 (ix a) = cI 0 := h3
    exact sim_no (c := cI (-103)) (by simp only [fItems_postAt, fM_doPost_b16, fM_doPost, e_itemsHas n2, e_isItem (by rw [n1]; exact n2), n1, e_hasPlace p2, e_isPlace (by rw [p1]; exact p2), p1, ltM_eq, ltI_eq, ltL_eq, bd1_some, bd2_some, ite_bI, if_true, if_false, ite_true, ite_false, eq_self, not_true_eq_false, not_false_eq_true, i10, outside_eq, in_eq, no_eq, eq_true h1, eq_true h2, fItems_is, hb, ix_0, ix_1, ix_2, ix_3, ix_4, ix_5, ix_6, ix_7, ix_8, ix_9, ix_10, ix_11, ix_12, ix_13, ix_14, ix_15, ix_16, ix_17, ix_18, ix_19, ix_20, ix_21, Nat.reduceAdd, wI_c, wI_ne, wL_1, lupd_ne, up1_eq, up1_ne, eq_false h39]; rfl) (by simp only [fItems_postAt, fM_doPost_b16, fM_doPost, e_itemsHas n2, e_isItem (by rw [n1]; exact n2), n1, e_hasPlace p2, e_isPlace (by rw [p1]; exact p2), p1, ltM_eq, ltI_eq, ltL_eq, bd1_some, bd2_some, ite_bI, if_true, if_false, ite_true, ite_false, eq_self, not_true_eq_false, not_false_eq_true, i10, outside_eq, in_eq, no_eq, eq_true h1, eq_true h2, hb, e1, eq_false h3]) hn
  have h39 : s.1 102 (ix a) = cI 0 := h3
  by_cases hF : F = true
  · subst hF
    exact sim_no (c := cI (-104)) (by simp only [fItems_postAt, fM_doPost_b16, fM_doPost, e_itemsHas n2, e_isItem (by rw [n1]; exact n2), n1, e_hasPlace p2, e_isPlace (by rw [p1]; exact p2), p1, ltM_eq, ltI_eq, ltL_eq, bd1_some, bd2_some, ite_bI, if_true, if_false, ite_true, ite_false, eq_self, not_true_eq_false, not_false_eq_true, i10, outside_eq, in_eq, no_eq, eq_true h1, eq_true h2, fItems_is, hb, ix_0, ix_1, ix_2, ix_3, ix_4, ix_5, ix_6, ix_7, ix_8, ix_9, ix_10, ix_11, ix_12, ix_13, ix_14, ix_15, ix_16, ix_17, ix_18, ix_19, ix_20, ix_21, Nat.reduceAdd, wI_c, wI_ne, wL_1, lupd_ne, up1_eq, up1_ne, eq_true h39, cI_1, hA.no]) (by simp only [fItems_postAt, fM_doPost_b16, fM_doPost, e_itemsHas n2, e_isItem (by rw [n1]; exact n2), n1, e_hasPlace p2, e_isPlace (by rw [p1]; exact p2), p1, ltM_eq, ltI_eq, ltL_eq, bd1_some, bd2_some, ite_bI, if_true, if_false, ite_true, ite_false, eq_self, not_true_eq_false, not_false_eq_true, i10, outside_eq, in_eq, no_eq, eq_true h1, eq_true h2, hb, e1, eq_true h3, hM.no]) hn
  have hF2 : F = false := by cases F <;> simp_all
  subst hF2
  have hB : RB s (lvS t (ix a)) := RB.lv2 h hi (by rw [h3]; decide) (by rw [h3]; decide) (by
    have := ((h.1.2.2.2 _ hi).2.2.1 (by rw [h3]; decide)).2
    rw [h.1.2.1.2.2.2.2.2.1 _ hi] at this
    exact this)
  obtain ⟨s', t', w1, w2, w3, w4, w5, -⟩ := go_in (s := lupd A s) (t := t) (i := a) (p := b) h.lu.1 h.lu.2.1 (hB.keep lupd_fr rf_fr (by decide +kernel) (by decide +kernel)) (hcu.keep lupd_fr rf_fr rfl rfl) (ht.keep lupd_fr rf_fr rfl rfl) hn9 (by simp (disch := decide) only [ix_0, ix_1, ix_2, ix_3, ix_4, ix_5, ix_6, ix_7, ix_8, ix_9, ix_10, ix_11, ix_12, ix_13, ix_14, ix_15, ix_16, ix_17, ix_18, ix_19, ix_20, ix_21, Nat.reduceAdd, wI_c, wI_ne, wL_1, lupd_ne, up1_eq, up1_ne]; exact h1) (by simp (disch := decide) only [ix_0, ix_1, ix_2, ix_3, ix_4, ix_5, ix_6, ix_7, ix_8, ix_9, ix_10, ix_11, ix_12, ix_13, ix_14, ix_15, ix_16, ix_17, ix_18, ix_19, ix_20, ix_21, Nat.reduceAdd, wI_c, wI_ne, wL_1, lupd_ne, up1_eq, up1_ne]; exact hg.1.2.1) (by simp (disch := decide) only [ix_0, ix_1, ix_2, ix_3, ix_4, ix_5, ix_6, ix_7, ix_8, ix_9, ix_10, ix_11, ix_12, ix_13, ix_14, ix_15, ix_16, ix_17, ix_18, ix_19, ix_20, ix_21, Nat.reduceAdd, wI_c, wI_ne, wL_1, lupd_ne, up1_eq, up1_ne]; exact hl.1.2.1) (by simp (disch := decide) only [ix_0, ix_1, ix_2, ix_3, ix_4, ix_5, ix_6, ix_7, ix_8, ix_9, ix_10, ix_11, ix_12, ix_13, ix_14, ix_15, ix_16, ix_17, ix_18, ix_19, ix_20, ix_21, Nat.reduceAdd, wI_c, wI_ne, wL_1, lupd_ne, up1_eq, up1_ne]; have := h2.1; have := h2.2; omega)
  have l1 : lgS (lupd A s) s' := lgS.fr w4 (by decide +kernel) (by decide)
  have l2 : t'.1 549 15 = 0 := by rw [(w5.1 549 15 rfl).1]; exact h0
  simp only [fItems_postAt, fM_doPost_b16, fM_doPost, e_itemsHas n2, e_isItem (by rw [n1]; exact n2), n1, e_hasPlace p2, e_isPlace (by rw [p1]; exact p2), p1, ltM_eq, ltI_eq, ltL_eq, bd1_some, bd2_some, ite_bI, if_true, if_false, ite_true, ite_false, eq_self, not_true_eq_false, not_false_eq_true, i10, outside_eq, in_eq, no_eq, eq_true h1, eq_true h2, fItems_is, hb, ix_0, ix_1, ix_2, ix_3, ix_4, ix_5, ix_6, ix_7, ix_8, ix_9, ix_10, ix_11, ix_12, ix_13, ix_14, ix_15, ix_16, ix_17, ix_18, ix_19, ix_20, ix_21, Nat.reduceAdd, wI_c, wI_ne, wL_1, lupd_ne, up1_eq, up1_ne, eq_true h39, e1, eq_true h3, cI_1, hA.yes, hM.yes, w1, w2, ok_some]
  exact ⟨rfl, Or.inr ⟨l2, rfl, l1, w3⟩⟩
end
