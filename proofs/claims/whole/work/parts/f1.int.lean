/-! ===== LEVEL 3: the act into ===== -/
theorem fr_ge {F : List (Nat × (Nat × Nat))} {s t : ev_M} (h : fr F s t) {N c : Nat} (d : (F.all fun q => Nat.blt q.2.1 N) = true) (hc : N ≤ c) : t.1 c = s.1 c := by
  funext k
  refine (h.1 c k ?_).1
  unfold inF
  rw [List.any_eq_false]
  intro q hq w
  have z := List.all_eq_true.mp d q hq
  rw [Nat.blt_eq] at z
  simp only [Bool.and_eq_true, Nat.ble_eq] at w
  have := w.1.2
  omega
theorem Hol.snoc {f : Nat → Int32} {n m : Int32} {l : List Nat} {e : Nat} (h : Hol f n l) (hm : m.toInt = n.toInt + 1) : Hol (up1 f (ix n) (cI (e : Int))) m (l ++ [e]) := by
  obtain ⟨h1, h2⟩ := h
  have e1 : ix n = l.length := by rw [ix_toNat, h1]; omega
  refine ⟨by rw [hm, h1]; simp, fun k hk => ?_⟩
  by_cases z : k = l.length
  · subst z
    rw [e1, up1_eq]
    simp
  · have hk2 : k < l.length := by simp at hk; omega
    rw [e1, up1_ne z, h2 k hk2, List.getElem_append_left hk2]
section
variable {s t : ev_M} {n k : Nat}
theorem RXq.b {x : Int32} (h : RXq n s t) (hn : n < 2147483647) (hk : k < ix (s.1 100 5)) (hx : Has x (s.1 449 6)) (z2 : 0 ≤ (s.1 125 3).toInt) : RXq (n + 1) (wI (cmB s k) 111 k x) (wI (wI (wI (wI (lvS t k) 593 k x) 549 23 (t.1 549 23 + cI 1)) 594 k (t.1 549 23 + cI 1)) 583 k (cI 2)) := by
  obtain ⟨q1, q2, q3, q4⟩ := h
  have x0 := hx.1
  have x1 := hx.2
  refine ⟨?_, ?_, ?_, ?_⟩
  · exact (q1.st (k := k) (c := cI 2) (by decide)).keep (F := [(111, 111, 0), (116, 116, 0), (117, 117, 0)]) (G := [(593, 593, 0), (595, 595, 0), (597, 597, 0), (598, 598, 0), (602, 602, 0), (549, 549, 24), (594, 594, 0)]) (((fr.rf.wI rfl).wI rfl).wI rfl) (fr.two ((((lvS_fr.mono (by decide +kernel)).wI rfl).wI rfl).wI rfl)) rfl rfl
  · obtain ⟨g1, g2, g3, g4, g5, g6, g7, b1, b2, b3, b4, b5, b6, b7⟩ := q2
    unfold RIr cmB lvS
    simp (disch := decide) only [ix_0, ix_1, ix_2, ix_3, ix_4, ix_5, ix_6, ix_7, ix_8, ix_9, ix_10, ix_11, ix_12, ix_13, ix_14, ix_15, ix_16, ix_17, ix_18, ix_19, ix_20, ix_21, Nat.reduceAdd, wI_c, wI_ne, wL_1, lupd_ne, up1_eq, up1_ne, up1_up1]
    exact ⟨g1, g2.set rfl, g3, g4, g5.set rfl, g6.set rfl, g7, b1, b2.set ⟨by omega, by omega⟩, b3, b4, b5.set (by decide), b6.set ⟨by decide, by show (-1 : Int) ≤ _; omega⟩, b7⟩
  · obtain ⟨⟨⟨a1, a2⟩, ⟨a3, a4⟩⟩, g2, g3, g4, g5, g6, g7⟩ := q3
    have e1 : (t.1 549 23 + cI 1).toInt = (t.1 549 23).toInt + 1 := inc_i (by omega)
    unfold RCo cmB lvS
    simp (disch := decide) only [ix_0, ix_1, ix_2, ix_3, ix_4, ix_5, ix_6, ix_7, ix_8, ix_9, ix_10, ix_11, ix_12, ix_13, ix_14, ix_15, ix_16, ix_17, ix_18, ix_19, ix_20, ix_21, Nat.reduceAdd, wI_c, wI_ne, wL_1, lupd_ne, up1_eq, up1_ne, up1_up1]
    refine ⟨⟨⟨by omega, by omega⟩, a3, by omega⟩, g2, g3.mono (by omega) (by omega), g4, g5, fun i hi hne => ?_, fun i hi hne => ?_⟩
    · by_cases z : i = k
      · rw [z, up1_eq]; exact Int.le_refl _
      · rw [up1_ne z] at hne ⊢
        have := g6 i hi hne
        omega
    · by_cases z : i = k
      · rw [z, up1_eq] at hne; exact absurd rfl hne
      · rw [up1_ne z] at hne
        have := g7 i hi hne
        omega
  · unfold RSx at q4 ⊢
    unfold cmB lvS
    simp (disch := decide) only [ix_0, ix_1, ix_2, ix_3, ix_4, ix_5, ix_6, ix_7, ix_8, ix_9, ix_10, ix_11, ix_12, ix_13, ix_14, ix_15, ix_16, ix_17, ix_18, ix_19, ix_20, ix_21, Nat.reduceAdd, wI_c, wI_ne, wL_1, lupd_ne, up1_eq, up1_ne, up1_up1]
    intro i hi
    by_cases z : i = k
    · rw [z]
      simp only [up1_eq]
      refine ⟨fun w => absurd rfl w, fun _ => trivial, fun _ => ⟨trivial, trivial⟩, fun q => ?_, fun _ w => ?_, fun w => absurd w (by decide)⟩
      rotate_left
      · rw [w] at hx; exact absurd hx.1 (by decide)
      rcases q with q | q | q | q
      · exact absurd q (by decide)
      · exact absurd q (by decide)
      · exact absurd q (by decide)
      · exact (q4 k hk).2.2.2.1 (Or.inr (Or.inr (Or.inr q)))
    · simp only [up1_ne z]
      exact q4 i hi
/-- an item comes into a bag -/
theorem go_b {i x : Int32} (h : RXq n s t) (e : RN n s t) (hcu : RCu s t) (ht : RTim s t) (hn : n < 2147483646) (hi : Has i (s.1 100 5)) (hx : Has x (s.1 449 6)) (z2 : 0 ≤ (s.1 125 3).toInt) : ∃ s' t', fItems_come s i (cI 2) = some s' ∧ fM_comes (wI (wI (wI (lvS t (ix i)) 593 (ix i) x) 549 23 (t.1 549 23 + cI 1)) 594 (ix i) (t.1 549 23 + cI 1)) i (cI 2) = some t' ∧ RXq (n + 1) (wI s' 111 (ix i) x) t' ∧ RN (n + 1) s' t' ∧ fr F_Items_come s s' ∧ fr F_M_comes (wI (wI (wI (lvS t (ix i)) 593 (ix i) x) 549 23 (t.1 549 23 + cI 1)) 594 (ix i) (t.1 549 23 + cI 1)) t' := by
  obtain ⟨q1, q2, q3, q4⟩ := id h
  obtain ⟨⟨n1, n2, n3⟩, -, -, -, -, g5, -, -, -, -, -, -, -, -, b5, -⟩ := id q1
  have hb : inb i 300 = true := hi.inb n3
  have w := hi.ix
  have a1 := b5 _ w
  have a2 := g5 _ w
  have a3 := q2.1 _ w
  have f1 : fr [(102, 102, 0), (116, 116, 0), (117, 117, 0)] s (cmB s (ix i)) := ((fr.rf.wI rfl).wI rfl).wI rfl
  have f2 : fr [(593, 593, 0), (595, 595, 0), (597, 597, 0), (598, 598, 0), (602, 602, 0), (549, 549, 24), (594, 594, 0)] t (wI (wI (wI (lvS t (ix i)) 593 (ix i) x) 549 23 (t.1 549 23 + cI 1)) 594 (ix i) (t.1 549 23 + cI 1)) := (((lvS_fr.mono (by decide +kernel)).wI rfl).wI rfl).wI rfl
  have g5' : (cmB s (ix i)).1 100 = s.1 100 := (nof_c f1 (L := [(100, 0)]) rfl (c := 100) rfl).1
  have g78 : (cmB s (ix i)).1 78 = s.1 78 := (nof_c f1 (L := [(78, 0)]) rfl (c := 78) rfl).1
  have g106 : (cmB s (ix i)).1 106 = s.1 106 := (nof_c f1 (L := [(106, 0)]) rfl (c := 106) rfl).1
  have g110 : (cmB s (ix i)).1 110 = s.1 110 := (nof_c f1 (L := [(110, 0)]) rfl (c := 110) rfl).1
  have m587 : (wI (wI (wI (lvS t (ix i)) 593 (ix i) x) 549 23 (t.1 549 23 + cI 1)) 594 (ix i) (t.1 549 23 + cI 1)).1 587 = t.1 587 := (nof_c f2 (L := [(587, 0)]) rfl (c := 587) rfl).1
  have m591 : (wI (wI (wI (lvS t (ix i)) 593 (ix i) x) 549 23 (t.1 549 23 + cI 1)) 594 (ix i) (t.1 549 23 + cI 1)).1 591 = t.1 591 := (nof_c f2 (L := [(591, 0)]) rfl (c := 591) rfl).1
  obtain ⟨s', t', w1, w2, w3, w4, w5, w6⟩ := hap (n := n) (s := cmB s (ix i)) (t := wI (wI (wI (lvS t (ix i)) 593 (ix i) x) 549 23 (t.1 549 23 + cI 1)) 594 (ix i) (t.1 549 23 + cI 1)) (i := i) (c := cI 2) (ac := s.1 106 (ix i)) (pl := s.1 110 (ix i)) (e.1.keep f1 f2 rfl rfl) (e.2.keep f1 f2 rfl rfl) (hcu.keep f1 f2 rfl rfl) (ht.keep f1 f2 rfl rfl) hn (by rw [g5']; exact hi) (by rw [g5']; exact n3) (by rw [g106]) (by rw [m587]; exact a2) (by rw [g78]; exact ⟨a1.1, by omega⟩) (by rw [m591]; exact a3) (by decide)
  have c1 : fItems_come s i (cI 2) = some s' := by
    rw [e_comeB hb, g106, g110]; exact w1
  exact ⟨s', t', c1, w2, (h.b (by omega) w hx z2).keep w5.two w6 (by decide +kernel) (by decide +kernel), ⟨w3, w4⟩, fr_fItems_come c1, fr_fM_comes w2⟩
/-- an item more in a bag -/
theorem RBc.put {s' t' : ev_M} {x i m : Int32} (h : RBc s t) (hx : Has x (s.1 449 6)) (h80 : (s.1 449 6).toInt ≤ 80) (hi : Has i (s.1 100 5)) (h300 : (s.1 100 5).toInt ≤ 300) (hn : t.1 593 (ix i) = cI (-1)) (hl : (s.1 462 (ix x)).toInt < 40) (hm : ∀ j, j < ix (s.1 100 5) → t.1 593 j ≠ cI (-1) → (t.1 594 j).toInt < m.toInt) (e1 : s'.1 449 6 = s.1 449 6) (e2 : s'.1 462 = up1 (s.1 462) (ix x) (s.1 462 (ix x) + cI 1)) (e3 : ∀ r, r < 80 → s'.1 (466 + r) = if r = ix x then up1 (s.1 (466 + ix x)) (ix (s.1 462 (ix x))) i else s.1 (466 + r)) (e4 : s'.1 100 5 = s.1 100 5) (e5 : t'.1 593 = up1 (t.1 593) (ix i) x) (e6 : t'.1 594 = up1 (t.1 594) (ix i) m) : RBc s' t' := by
  obtain ⟨q1, q2⟩ := h
  have x1 := hx.ix
  have i1 := hi.ix
  have x80 : ix (s.1 449 6) ≤ 80 := by rw [ix_toNat]; omega
  have i300 : ix (s.1 100 5) ≤ 300 := by rw [ix_toNat]; omega
  have xc : cI ((ix x : Nat) : Int) = x := cI_ix hx.1
  have ic : cI ((ix i : Nat) : Int) = i := cI_ix hi.1
  have x0 := hx.1
  have x2 := hx.2
  have er : ∀ a, a < 80 → rowsOf s' 466 80 a = if a = ix x then up1 (rowsOf s 466 80 a) (ix (s.1 462 (ix x))) i else rowsOf s 466 80 a := fun a ha => by
    rw [rows_at ha, rows_at ha, e3 a ha]
    by_cases z : a = ix x
    · rw [if_pos z, if_pos z, z]
    · rw [if_neg z, if_neg z]
  unfold RBc
  rw [e1, e2, e4, e5, e6]
  refine ⟨q1.set ⟨by omega, by omega⟩, fun r hr => ?_⟩
  obtain ⟨l, h1, h2, h3, h4⟩ := q2 r hr
  rw [er r (by omega)]
  have out : ∀ j, j ∈ l → j ≠ ix i := fun j hj z => by
    have := ((h4 j).mp hj).2
    rw [z, hn] at this
    exact neg1_ne (by omega) this
  have pw : ∀ l' : List Nat, (∀ j, j ∈ l' → j ∈ l) → l'.Pairwise (fun a b => (t.1 594 a).toInt < (t.1 594 b).toInt) → l'.Pairwise (fun a b => (up1 (t.1 594) (ix i) m a).toInt < (up1 (t.1 594) (ix i) m b).toInt) := fun l' hl' p => p.imp_of_mem (fun {a b} ha hb q => by
    rw [up1_ne (out a (hl' a ha)), up1_ne (out b (hl' b hb))]
    exact q)
  by_cases z : r = ix x
  · subst z
    have a1 := h1.1
    have zi : (s.1 462 (ix x) + cI 1).toInt = (s.1 462 (ix x)).toInt + 1 := inc_i (by omega)
    have hs := Hol.snoc (e := ix i) h1 zi
    rw [ic] at hs
    rw [if_pos rfl, up1_eq]
    refine ⟨l ++ [ix i], hs, by simp; omega, List.pairwise_append.mpr ⟨pw l (fun _ h => h) h3, List.pairwise_singleton _ _, fun a ha b hb => ?_⟩, fun j => ?_⟩
    · rw [List.mem_singleton.mp hb, up1_eq, up1_ne (out a ha)]
      have ma := (h4 a).mp ha
      exact hm a ma.1 (fun w => by rw [w] at ma; exact neg1_ne (by omega) ma.2)
    · rw [List.mem_append, List.mem_singleton, xc]
      rw [xc] at h4
      by_cases w : j = ix i
      · rw [w, up1_eq]
        exact ⟨fun _ => ⟨i1, rfl⟩, fun _ => Or.inr rfl⟩
      · rw [up1_ne w, ← h4 j]
        exact ⟨fun q => q.resolve_right w, Or.inl⟩
  · rw [if_neg z, up1_ne z]
    refine ⟨l, h1, h2, pw l (fun _ h => h) h3, fun j => ?_⟩
    by_cases w : j = ix i
    · rw [w, up1_eq]
      constructor
      · intro q; exact absurd rfl (out _ q)
      · intro q
        have q2 := q.2
        rw [← xc] at q2
        exact absurd (ix_n r (by omega) ▸ (congrArg ix q2).symm.trans (by rw [ix_n _ (by omega)])) z
    · rw [up1_ne w]
      exact h4 j
end
section
variable {s t : ev_M} {F : Bool} {A : Nat → Nat → Int32} {n g : Nat}
/-- the place of an item's goal, class and reference -/
theorem RAk.plc {i : Int32} (h : RAk g s t) (hg : g < 2147483647) (hi : Has i (s.1 100 5)) (ha : ¬ s.1 109 (ix i) = cI (-1)) (hI : RIt s t) (hR : RIr s t) (hU : RCu s t) (ho : ROr s t) (ht : RTim s t) (hP : RPo s t) (hS : RSt s t) : ∃ s' t' v p, fItems_goalPlaceOf s i = some (s', p) ∧ fM_goalOf t i = some (t', v) ∧ fM_placeOf t' (t'.1 549 141) = some p ∧ RAk (g + 1) s' t' ∧ fr FgC s s' ∧ fr FgM t t' := by
  obtain ⟨s', t', v, r1, r2, r3, r4, r5, r6⟩ := h.itm hg hi hI hR hU ho ht hP
  rcases r4 with ⟨-, q⟩ | ⟨z, z1, z2, z3⟩
  · exact absurd q ha
  · have w9 : s'.1 30 9 = s.1 30 9 := (r5.1 30 9 rfl).1
    obtain ⟨p1, p2⟩ := e_placeAt (hP.keep r5 r6 (by decide +kernel) (by decide +kernel)) (hS.keep r5 r6 (by decide +kernel) (by decide +kernel)) (a := z) (by rw [w9]; exact z1)
    refine ⟨s', t', v, _, ?_, r2, by rw [z2]; exact p2, r3, r5, r6⟩
    have y0 := z1.1
    rcases z3 with q | ⟨q, q2⟩
    · have n1 : ¬ z = cI (-1) := fun u => by rw [u] at y0; exact absurd y0 (by decide)
      have n2 : ¬ z = cI (-110) := fun u => by rw [u] at y0; exact absurd y0 (by decide)
      have n3 : ¬ z = cI (-111) := fun u => by rw [u] at y0; exact absurd y0 (by decide)
      simp only [fItems_goalPlaceOf, r1, bd2_some, if_neg n1, if_neg n2, if_neg n3, fItems_goalPlaceOf_b40, q, p1, bd1_some]
    · rcases q with q | q
      · simp only [fItems_goalPlaceOf, r1, bd2_some, q, if_neg (show ¬ cI (-110) = cI (-1) by decide), if_true, fItems_goalPlaceOf_b29, fItems_goalPlaceOf_b40, q2, p1, bd1_some]
      · simp only [fItems_goalPlaceOf, r1, bd2_some, q, if_neg (show ¬ cI (-111) = cI (-1) by decide), if_neg (show ¬ cI (-111) = cI (-110) by decide), if_true, fItems_goalPlaceOf_b29, fItems_goalPlaceOf_b40, q2, p1, bd1_some]
theorem a_into {a b : Int32} (hA : AdmC s F A) (hM : FulM t F) (h0 : t.1 549 15 = 0) (h : RV n s t) (hk : RAk g s t) (hB : RBg s t) (hU : RCu s t) (ho : ROr s t) (ht : RTim s t) (hP : RPo s t) (hS : RSt s t) (hL : RLk s t) (hn9 : n < 2147483646) (hg9 : g < 2147483647) : Ok (fLines_fillBag s a b) fun x => Ok (fM_doInto t a b) fun y => AP (fun s t => RV n s t ∧ RAk (g + 1) s t) (fun s t => RV (n + 1) s t ∧ RAk (g + 1) s t) F A s x y := by
  obtain ⟨⟨n1, n2, n3⟩, g1, -, -, -, -, -, -, g8, -⟩ := id h.1.1
  obtain ⟨⟨m1, m2, m3⟩, k1, k2, -, -, k3, -, -, c3, -⟩ := id hB
  have hn : (fun s t => RV n s t ∧ RAk (g + 1) s t) s (wI t 549 15 (cI 1)) := ⟨h.no, hk.up.keep rf_fr no_fr rfl rfl⟩
  by_cases h1 : Has a (s.1 449 6)
  rotate_left
  · exact sim_no (c := cI (-101)) (by simp only [fLines_fillBag_b62, fLines_fillBag_b61, fLines_fillBag, fM_doInto_b16, fM_doInto_b67, fM_doInto_b125, fM_doInto, fItems_is, e_hasBag m2, e_isBag (by rw [m1]; exact m2), m1, e_itemsHas n2, e_isItem (by rw [n1]; exact n2), n1, ltM_eq, ltI_eq, ltL_eq, bd1_some, bd2_some, ite_bI, if_true, if_false, ite_true, ite_false, eq_self, not_true_eq_false, not_false_eq_true, i10, outside_eq, in_eq, no_eq, eq_false h1]) (by simp only [fLines_fillBag_b62, fLines_fillBag_b61, fLines_fillBag, fM_doInto_b16, fM_doInto_b67, fM_doInto_b125, fM_doInto, fItems_is, e_hasBag m2, e_isBag (by rw [m1]; exact m2), m1, e_itemsHas n2, e_isItem (by rw [n1]; exact n2), n1, ltM_eq, ltI_eq, ltL_eq, bd1_some, bd2_some, ite_bI, if_true, if_false, ite_true, ite_false, eq_self, not_true_eq_false, not_false_eq_true, i10, outside_eq, in_eq, no_eq, eq_false h1]) hn
  by_cases h2 : Has b (s.1 100 5)
  rotate_left
  · exact sim_no (c := cI (-101)) (by simp only [fLines_fillBag_b62, fLines_fillBag_b61, fLines_fillBag, fM_doInto_b16, fM_doInto_b67, fM_doInto_b125, fM_doInto, fItems_is, e_hasBag m2, e_isBag (by rw [m1]; exact m2), m1, e_itemsHas n2, e_isItem (by rw [n1]; exact n2), n1, ltM_eq, ltI_eq, ltL_eq, bd1_some, bd2_some, ite_bI, if_true, if_false, ite_true, ite_false, eq_self, not_true_eq_false, not_false_eq_true, i10, outside_eq, in_eq, no_eq, eq_true h1, eq_false h2]) (by simp only [fLines_fillBag_b62, fLines_fillBag_b61, fLines_fillBag, fM_doInto_b16, fM_doInto_b67, fM_doInto_b125, fM_doInto, fItems_is, e_hasBag m2, e_isBag (by rw [m1]; exact m2), m1, e_itemsHas n2, e_isItem (by rw [n1]; exact n2), n1, ltM_eq, ltI_eq, ltL_eq, bd1_some, bd2_some, ite_bI, if_true, if_false, ite_true, ite_false, eq_self, not_true_eq_false, not_false_eq_true, i10, outside_eq, in_eq, no_eq, eq_true h1, eq_false h2]) hn
  have hb : inb b 300 = true := h2.inb n3
  have hc : inb a 80 = true := h1.inb m3
  have w := h2.ix
  have v := h1.ix
  have e1 := g1 _ w
  have e8 := g8 _ w
  have e10 := h.1.2.1.1 _ w
  have f1 := k1 _ v
  have f3 := k2 _ v
  have d3 := (c3 _ v).1
  have z10 : ¬ cI 1 = 0 := by decide
  have z00 : cI 0 = 0 := rfl
  by_cases h3 : s.1 459 (ix a) = 0 ∧ s.1 102 (ix b) = cI 1 ∧ s.1 110 (ix b) = s.1 460 (ix a)
  rotate_left
  · refine sim_no (c := cI (-103)) ?_ ?_ hn
    · rcases Classical.propComplete (s.1 459 (ix a) = 0) with x1 | x1 <;> rcases Classical.propComplete (s.1 102 (ix b) = cI 1) with x2 | x2 <;> rcases Classical.propComplete (s.1 110 (ix b) = s.1 460 (ix a)) with x3 | x3 <;> first | (simp only [fLines_fillBag_b62, fLines_fillBag_b61, fLines_fillBag, fM_doInto_b16, fM_doInto_b67, fM_doInto_b125, fM_doInto, fItems_is, e_hasBag m2, e_isBag (by rw [m1]; exact m2), m1, e_itemsHas n2, e_isItem (by rw [n1]; exact n2), n1, ltM_eq, ltI_eq, ltL_eq, bd1_some, bd2_some, ite_bI, if_true, if_false, ite_true, ite_false, eq_self, not_true_eq_false, not_false_eq_true, i10, outside_eq, in_eq, no_eq, eq_true h1, eq_true h2, hb, hc, ix_0, ix_1, ix_2, ix_3, ix_4, ix_5, ix_6, ix_7, ix_8, ix_9, ix_10, ix_11, ix_12, ix_13, ix_14, ix_15, ix_16, ix_17, ix_18, ix_19, ix_20, ix_21, Nat.reduceAdd, wI_c, wI_ne, wL_1, lupd_ne, up1_eq, up1_ne, x1, x2, x3, eq_false z10, eq_true z00]; done) | exact absurd ⟨of_eq_true x1, of_eq_true x2, of_eq_true x3⟩ h3
    · by_cases x1 : s.1 459 (ix a) = 0
      · have e619 : t.1 619 (ix a) = s.1 460 (ix a) := ((k3 _ v).1 (by rw [x1]; decide)).1
        rcases Classical.propComplete (s.1 102 (ix b) = cI 1) with x2 | x2 <;> rcases Classical.propComplete (s.1 110 (ix b) = s.1 460 (ix a)) with x3 | x3 <;> first | (simp only [fLines_fillBag_b62, fLines_fillBag_b61, fLines_fillBag, fM_doInto_b16, fM_doInto_b67, fM_doInto_b125, fM_doInto, fItems_is, e_hasBag m2, e_isBag (by rw [m1]; exact m2), m1, e_itemsHas n2, e_isItem (by rw [n1]; exact n2), n1, ltM_eq, ltI_eq, ltL_eq, bd1_some, bd2_some, ite_bI, if_true, if_false, ite_true, ite_false, eq_self, not_true_eq_false, not_false_eq_true, i10, outside_eq, in_eq, no_eq, eq_true h1, eq_true h2, hb, hc, f1, e1, e10, e619, eq_true x1, x2, x3]; done) | exact absurd ⟨x1, of_eq_true x2, of_eq_true x3⟩ h3
      · simp only [fLines_fillBag_b62, fLines_fillBag_b61, fLines_fillBag, fM_doInto_b16, fM_doInto_b67, fM_doInto_b125, fM_doInto, fItems_is, e_hasBag m2, e_isBag (by rw [m1]; exact m2), m1, e_itemsHas n2, e_isItem (by rw [n1]; exact n2), n1, ltM_eq, ltI_eq, ltL_eq, bd1_some, bd2_some, ite_bI, if_true, if_false, ite_true, ite_false, eq_self, not_true_eq_false, not_false_eq_true, i10, outside_eq, in_eq, no_eq, eq_true h1, eq_true h2, hc, f1, eq_false x1]
  obtain ⟨x1, x2, x3⟩ := h3
  have e619 : t.1 619 (ix a) = s.1 460 (ix a) := ((k3 _ v).1 (by rw [x1]; decide)).1
  by_cases x4 : s.1 109 (ix b) = cI (-1)
  · have x5 : ¬ s.1 112 (ix b) = cI 1 := fun q => (h.1.2.2.2 _ w).2.2.2.1 (Or.inr (Or.inr (Or.inr q))) x4
    have x6 : ¬ cI (-1) = s.1 461 (ix a) := fun q => by rw [← q] at d3; exact absurd d3 (by decide)
    refine sim_no (c := cI (-103)) ?_ ?_ hn
    · simp only [fLines_fillBag_b62, fLines_fillBag_b61, fLines_fillBag, fM_doInto_b16, fM_doInto_b67, fM_doInto_b125, fM_doInto, fItems_is, e_hasBag m2, e_isBag (by rw [m1]; exact m2), m1, e_itemsHas n2, e_isItem (by rw [n1]; exact n2), n1, ltM_eq, ltI_eq, ltL_eq, bd1_some, bd2_some, ite_bI, if_true, if_false, ite_true, ite_false, eq_self, not_true_eq_false, not_false_eq_true, i10, outside_eq, in_eq, no_eq, eq_true h1, eq_true h2, fItems_goalPlaceOf, fItems_goalOf, hb, hc, ix_0, ix_1, ix_2, ix_3, ix_4, ix_5, ix_6, ix_7, ix_8, ix_9, ix_10, ix_11, ix_12, ix_13, ix_14, ix_15, ix_16, ix_17, ix_18, ix_19, ix_20, ix_21, Nat.reduceAdd, wI_c, wI_ne, wL_1, lupd_ne, up1_eq, up1_ne, eq_true x1, eq_true x2, eq_true x3, eq_false z10, eq_false x5, eq_true x4, eq_false x6, ltI_eq]
    · simp only [fLines_fillBag_b62, fLines_fillBag_b61, fLines_fillBag, fM_doInto_b16, fM_doInto_b67, fM_doInto_b125, fM_doInto, fItems_is, e_hasBag m2, e_isBag (by rw [m1]; exact m2), m1, e_itemsHas n2, e_isItem (by rw [n1]; exact n2), n1, ltM_eq, ltI_eq, ltL_eq, bd1_some, bd2_some, ite_bI, if_true, if_false, ite_true, ite_false, eq_self, not_true_eq_false, not_false_eq_true, i10, outside_eq, in_eq, no_eq, eq_true h1, eq_true h2, hb, hc, f1, e1, e10, e619, eq_true x1, eq_true x2, eq_true x3, e8, eq_true x4]
  obtain ⟨s', t', vv, p, r1, r2, r3, r4, r5, r6⟩ := hk.plc hg9 h2 x4 h.1.1 h.1.2.1 hU ho ht hP hS
  have hV : RV n s' t' := h.kp r5 r6 (by decide +kernel) (by decide +kernel)
  have w462 : s'.1 462 = s.1 462 := (nof_c r5 (L := [(462, 0)]) rfl (c := 462) rfl).1
  have w461 : s'.1 461 = s.1 461 := (nof_c r5 (L := [(461, 0)]) rfl (c := 461) rfl).1
  have w100 : s'.1 100 = s.1 100 := (nof_c r5 (L := [(100, 0)]) rfl (c := 100) rfl).1
  have w449 : s'.1 449 = s.1 449 := (nof_c r5 (L := [(449, 0)]) rfl (c := 449) rfl).1
  have w125 : s'.1 125 = s.1 125 := (nof_c r5 (L := [(125, 0)]) rfl (c := 125) rfl).1
  have w102 : s'.1 102 = s.1 102 := (nof_c r5 (L := [(102, 0)]) rfl (c := 102) rfl).1
  have y620 : t'.1 620 = t.1 620 := (nof_c r6 (L := [(620, 0)]) rfl (c := 620) rfl).1
  have y58 : t'.1 549 58 = s.1 100 5 := by rw [(r6.1 549 58 rfl).1]; exact n1
  obtain ⟨cc1, cc2, cc3⟩ := RBc.cnt (b := a) hV.2.2.2.1 (by rw [w100]; exact y58) (by rw [w100]; exact n2) (by rw [w100]; exact n3) (by rw [w449]; exact h1)
  rw [w462] at cc1 cc2 cc3
  have lS : lgS s s' := lgS.fr r5 (by decide +kernel) (by decide)
  have lT : lgT t t' := ⟨(r6.1 549 4 rfl).1, (r6.1 549 9 rfl).1, (r6.1 549 13 rfl).1, (r6.1 549 14 rfl).1, (r6.1 549 16 rfl).1⟩
  have hAs := hA s' lS
  have hMt := hM t' lT
  by_cases x6 : p = s.1 461 (ix a)
  rotate_left
  · have kc : fLines_fillBag s a b = some (s', cI (-103)) := by simp only [fLines_fillBag_b62, fLines_fillBag_b61, fLines_fillBag, fM_doInto_b16, fM_doInto_b67, fM_doInto_b125, fM_doInto, fItems_is, e_hasBag m2, e_isBag (by rw [m1]; exact m2), m1, e_itemsHas n2, e_isItem (by rw [n1]; exact n2), n1, ltM_eq, ltI_eq, ltL_eq, bd1_some, bd2_some, ite_bI, if_true, if_false, ite_true, ite_false, eq_self, not_true_eq_false, not_false_eq_true, i10, outside_eq, in_eq, no_eq, eq_true h1, eq_true h2, hb, hc, ix_0, ix_1, ix_2, ix_3, ix_4, ix_5, ix_6, ix_7, ix_8, ix_9, ix_10, ix_11, ix_12, ix_13, ix_14, ix_15, ix_16, ix_17, ix_18, ix_19, ix_20, ix_21, Nat.reduceAdd, wI_c, wI_ne, wL_1, lupd_ne, up1_eq, up1_ne, eq_true x1, eq_true x2, eq_true x3, eq_false z10, r1, w461, eq_false x6]
    have km : fM_doInto t a b = some (wI t' 549 15 (cI 1), cI (-103)) := by simp only [fLines_fillBag_b62, fLines_fillBag_b61, fLines_fillBag, fM_doInto_b16, fM_doInto_b67, fM_doInto_b125, fM_doInto, fItems_is, e_hasBag m2, e_isBag (by rw [m1]; exact m2), m1, e_itemsHas n2, e_isItem (by rw [n1]; exact n2), n1, ltM_eq, ltI_eq, ltL_eq, bd1_some, bd2_some, ite_bI, if_true, if_false, ite_true, ite_false, eq_self, not_true_eq_false, not_false_eq_true, i10, outside_eq, in_eq, no_eq, eq_true h1, eq_true h2, hb, hc, f1, e1, e10, e619, eq_true x1, eq_true x2, eq_true x3, e8, eq_false x4, r2, r3, y620, f3, eq_false x6]
    rw [kc, km, ok_some, ok_some]
    exact ⟨rfl, Or.inl ⟨rfl, lS, hV.no, r4.keep rf_fr no_fr rfl rfl⟩⟩
  by_cases x7 : s.1 462 (ix a) < cI 40
  rotate_left
  · have x79 : s.1 462 (ix a) = cI 40 := cap_eq x7 cc3
    have kc : fLines_fillBag s a b = some (s', cI (-104)) := by simp only [fLines_fillBag_b62, fLines_fillBag_b61, fLines_fillBag, fM_doInto_b16, fM_doInto_b67, fM_doInto_b125, fM_doInto, fItems_is, e_hasBag m2, e_isBag (by rw [m1]; exact m2), m1, e_itemsHas n2, e_isItem (by rw [n1]; exact n2), n1, ltM_eq, ltI_eq, ltL_eq, bd1_some, bd2_some, ite_bI, if_true, if_false, ite_true, ite_false, eq_self, not_true_eq_false, not_false_eq_true, i10, outside_eq, in_eq, no_eq, eq_true h1, eq_true h2, hb, hc, ix_0, ix_1, ix_2, ix_3, ix_4, ix_5, ix_6, ix_7, ix_8, ix_9, ix_10, ix_11, ix_12, ix_13, ix_14, ix_15, ix_16, ix_17, ix_18, ix_19, ix_20, ix_21, Nat.reduceAdd, wI_c, wI_ne, wL_1, lupd_ne, up1_eq, up1_ne, eq_true x1, eq_true x2, eq_true x3, eq_false z10, r1, w461, eq_true x6, w462, eq_false x7]
    have km : fM_doInto t a b = some (wI t' 549 15 (cI 1), cI (-104)) := by simp only [fLines_fillBag_b62, fLines_fillBag_b61, fLines_fillBag, fM_doInto_b16, fM_doInto_b67, fM_doInto_b125, fM_doInto, fItems_is, e_hasBag m2, e_isBag (by rw [m1]; exact m2), m1, e_itemsHas n2, e_isItem (by rw [n1]; exact n2), n1, ltM_eq, ltI_eq, ltL_eq, bd1_some, bd2_some, ite_bI, if_true, if_false, ite_true, ite_false, eq_self, not_true_eq_false, not_false_eq_true, i10, outside_eq, in_eq, no_eq, eq_true h1, eq_true h2, hb, hc, f1, e1, e10, e619, eq_true x1, eq_true x2, eq_true x3, e8, eq_false x4, r2, r3, y620, f3, eq_true x6, cc1, eq_true x79]
    rw [kc, km, ok_some, ok_some]
    exact ⟨rfl, Or.inl ⟨rfl, lS, hV.no, r4.keep rf_fr no_fr rfl rfl⟩⟩
  have x79 : ¬ s.1 462 (ix a) = cI 40 := cap_ne x7
  by_cases hF : F = true
  · subst hF
    have hAs2 : fLog_admits s' = some (s', 0) := hAs
    have hMt2 : fM_full t' = some 1 := hMt
    have kc : fLines_fillBag s a b = some (s', cI (-104)) := by simp only [fLines_fillBag_b62, fLines_fillBag_b61, fLines_fillBag, fM_doInto_b16, fM_doInto_b67, fM_doInto_b125, fM_doInto, fItems_is, e_hasBag m2, e_isBag (by rw [m1]; exact m2), m1, e_itemsHas n2, e_isItem (by rw [n1]; exact n2), n1, ltM_eq, ltI_eq, ltL_eq, bd1_some, bd2_some, ite_bI, if_true, if_false, ite_true, ite_false, eq_self, not_true_eq_false, not_false_eq_true, i10, outside_eq, in_eq, no_eq, eq_true h1, eq_true h2, hb, hc, ix_0, ix_1, ix_2, ix_3, ix_4, ix_5, ix_6, ix_7, ix_8, ix_9, ix_10, ix_11, ix_12, ix_13, ix_14, ix_15, ix_16, ix_17, ix_18, ix_19, ix_20, ix_21, Nat.reduceAdd, wI_c, wI_ne, wL_1, lupd_ne, up1_eq, up1_ne, eq_true x1, eq_true x2, eq_true x3, eq_false z10, r1, w461, eq_true x6, w462, eq_true x7, hAs2]
    have km : fM_doInto t a b = some (wI t' 549 15 (cI 1), cI (-104)) := by simp only [fLines_fillBag_b62, fLines_fillBag_b61, fLines_fillBag, fM_doInto_b16, fM_doInto_b67, fM_doInto_b125, fM_doInto, fItems_is, e_hasBag m2, e_isBag (by rw [m1]; exact m2), m1, e_itemsHas n2, e_isItem (by rw [n1]; exact n2), n1, ltM_eq, ltI_eq, ltL_eq, bd1_some, bd2_some, ite_bI, if_true, if_false, ite_true, ite_false, eq_self, not_true_eq_false, not_false_eq_true, i10, outside_eq, in_eq, no_eq, eq_true h1, eq_true h2, hb, hc, f1, e1, e10, e619, eq_true x1, eq_true x2, eq_true x3, e8, eq_false x4, r2, r3, y620, f3, eq_true x6, cc1, eq_false x79, hMt2]
    rw [kc, km, ok_some, ok_some]
    exact ⟨rfl, Or.inl ⟨rfl, lS, hV.no, r4.keep rf_fr no_fr rfl rfl⟩⟩
  have hF2 : F = false := by cases F <;> simp_all
  subst hF2
  have hAs2 : fLog_admits s' = some (lupd A s', 1) := hAs
  have hMt2 : fM_full t' = some 0 := hMt
  have hk7 : (s.1 462 (ix a)).toInt < 40 := lt_n x7
  have hd : inb (s.1 462 (ix a)) 40 = true := inb_iff.mpr ⟨cc2, hk7⟩
  have a80 : ix a < 80 := by have := h1.1; have := h1.2; rw [ix_toNat]; omega
  have u462 : (lupd A s').1 462 = s.1 462 := (lupd_ne (Or.inr (by decide))).trans w462
  have u100 : (lupd A s').1 100 = s.1 100 := (lupd_ne (Or.inr (by decide))).trans w100
  have u449 : (lupd A s').1 449 = s.1 449 := (lupd_ne (Or.inr (by decide))).trans w449
  have u125 : (lupd A s').1 125 = s.1 125 := (lupd_ne (Or.inr (by decide))).trans w125
  have fS : fr [(462, 462, 0), (466, 545, 0)] (lupd A s') (wI (wI (lupd A s') 462 (ix a) (s.1 462 (ix a) + cI 1)) (466 + ix a) (ix (s.1 462 (ix a))) b) := (fr.rf.wI rfl).wI (inF_row (lo := 466) (hi := 545) rfl (Nat.le_add_right _ _) (by omega))
  have g100 := (nof_c fS (L := [(100, 0)]) (by decide +kernel) (c := 100) rfl).1
  have g449 := (nof_c fS (L := [(449, 0)]) (by decide +kernel) (c := 449) rfl).1
  have g125 := (nof_c fS (L := [(125, 0)]) (by decide +kernel) (c := 125) rfl).1
  obtain ⟨s1, t1, v1, v2, v3, v4, v5, v6⟩ := go_b (n := n) (s := wI (wI (lupd A s') 462 (ix a) (s.1 462 (ix a) + cI 1)) (466 + ix a) (ix (s.1 462 (ix a))) b) (t := t') (i := b) (x := a) (hV.lu.1.keep fS rf_fr (by decide +kernel) (by decide +kernel)) (hV.lu.2.1.keep fS rf_fr (by decide +kernel) (by decide +kernel)) (((hU.keep r5 r6 (by decide +kernel) (by decide +kernel)).keep lupd_fr rf_fr (by decide +kernel) (by decide +kernel)).keep fS rf_fr (by decide +kernel) (by decide +kernel)) (((ht.keep r5 r6 (by decide +kernel) (by decide +kernel)).keep lupd_fr rf_fr (by decide +kernel) (by decide +kernel)).keep fS rf_fr (by decide +kernel) (by decide +kernel)) hn9 (by rw [g100, u100]; exact h2) (by rw [g449, u449]; exact h1) (by rw [g125, u125]; exact hL.1.2.1)
  have z462 : s1.1 462 = up1 (s.1 462) (ix a) (s.1 462 (ix a) + cI 1) := by
    rw [(nof_c v5 (L := [(462, 0)]) (by decide +kernel) (c := 462) rfl).1, wI_ne (by omega), wI_c, u462]
  have kc : fLines_fillBag s a b = some (wI s1 111 (ix b) a, s.1 462 (ix a) + cI 1) := by
    simp (disch := decide) only [fLines_fillBag_b62, fLines_fillBag_b61, fLines_fillBag, fM_doInto_b16, fM_doInto_b67, fM_doInto_b125, fM_doInto, fItems_is, e_hasBag m2, e_isBag (by rw [m1]; exact m2), m1, e_itemsHas n2, e_isItem (by rw [n1]; exact n2), n1, ltM_eq, ltI_eq, ltL_eq, bd1_some, bd2_some, ite_bI, if_true, if_false, ite_true, ite_false, eq_self, not_true_eq_false, not_false_eq_true, i10, outside_eq, in_eq, no_eq, eq_true h1, eq_true h2, hb, hc, hd, ix_0, ix_1, ix_2, ix_3, ix_4, ix_5, ix_6, ix_7, ix_8, ix_9, ix_10, ix_11, ix_12, ix_13, ix_14, ix_15, ix_16, ix_17, ix_18, ix_19, ix_20, ix_21, Nat.reduceAdd, wI_c, wI_ne, wL_1, lupd_ne, up1_eq, up1_ne, eq_true x1, eq_true x2, eq_true x3, eq_false z10, r1, w461, eq_true x6, w462, eq_true x7, hAs2, u462, v1, z462]
  have y23 : (lvS t' (ix b)).1 549 = t'.1 549 := lvS_ne (by decide)
  have km : fM_doInto t a b = some (t1, s.1 462 (ix a) + cI 1) := by
    simp (disch := decide) only [fLines_fillBag_b62, fLines_fillBag_b61, fLines_fillBag, fM_doInto_b16, fM_doInto_b67, fM_doInto_b125, fM_doInto, fItems_is, e_hasBag m2, e_isBag (by rw [m1]; exact m2), m1, e_itemsHas n2, e_isItem (by rw [n1]; exact n2), n1, ltM_eq, ltI_eq, ltL_eq, bd1_some, bd2_some, ite_bI, if_true, if_false, ite_true, ite_false, eq_self, not_true_eq_false, not_false_eq_true, i10, outside_eq, in_eq, no_eq, eq_true h1, eq_true h2, hb, hc, f1, e1, e10, e619, eq_true x1, eq_true x2, eq_true x3, e8, eq_false x4, r2, r3, y620, f3, eq_true x6, cc1, eq_false x79, hMt2, e_leaves hb, ix_0, ix_1, ix_2, ix_3, ix_4, ix_5, ix_6, ix_7, ix_8, ix_9, ix_10, ix_11, ix_12, ix_13, ix_14, ix_15, ix_16, ix_17, ix_18, ix_19, ix_20, ix_21, Nat.reduceAdd, wI_c, wI_ne, wL_1, lupd_ne, up1_eq, up1_ne, y23, v2]
  have n23 : (t'.1 549 23 + cI 1).toInt = (t'.1 549 23).toInt + 1 := inc_i (by have := hV.1.2.2.1.1.1.2; omega)
  have fT : fr [(593, 593, 0), (549, 549, 24), (594, 594, 0)] (lvS t' (ix b)) (wI (wI (wI (lvS t' (ix b)) 593 (ix b) a) 549 23 (t'.1 549 23 + cI 1)) 594 (ix b) (t'.1 549 23 + cI 1)) := ((fr.rf.wI rfl).wI rfl).wI rfl
  have hLv : RB s' (lvS t' (ix b)) := RB.lv2 hV (by rw [w100]; exact w) (by rw [w102, x2]; decide) (by rw [w102, x2]; decide) (by
    have q := hV.1.2.1.2.2.2.2.2.1 (ix b) (by rw [w100]; exact w)
    rw [← q]
    exact ((hV.1.2.2.2 (ix b) (by rw [w100]; exact w)).2.2.1 (by rw [w102, x2]; decide)).2)
  have fA : fr ([(462, 462, 0), (466, 545, 0), (111, 111, 0)] ++ F_Items_come) (lupd A s') (wI s1 111 (ix b) a) := ((fS.mono (by decide +kernel)).tr (v5.mono (by decide +kernel))).wI rfl
  have fB : fr ([(593, 593, 0), (549, 549, 24), (594, 594, 0)] ++ F_M_comes) (lvS t' (ix b)) t1 := (fT.mono (by decide +kernel)).tr (v6.mono (by decide +kernel))
  have hRw : RRw (wI s1 111 (ix b) a) t1 := (hLv.1.keep lupd_fr rf_fr (by decide +kernel) (by decide +kernel)).keep fA fB (by decide +kernel) (by decide +kernel)
  have hBx : RBx (wI s1 111 (ix b) a) t1 := (hLv.2.2.keep lupd_fr rf_fr (by decide +kernel) (by decide +kernel)).keep fA fB (by decide +kernel) (by decide +kernel)
  have t593 : t'.1 593 (ix b) = cI (-1) := (hV.1.2.2.2 (ix b) (by rw [w100]; exact w)).1 (by rw [w102, x2]; decide)
  have hBc : RBc (wI s1 111 (ix b) a) t1 := by
    refine RBc.put (x := a) (i := b) (m := t'.1 549 23 + cI 1) hV.2.2.2.1 (by rw [w449]; exact h1) (by rw [w449]; exact m3) (by rw [w100]; exact h2) (by rw [w100]; exact n3) t593 (by rw [w462]; exact hk7) (fun j hj hne => ?_) ?_ ?_ (fun r hr => ?_) ?_ ?_ ?_
    · have := hV.1.2.2.1.2.2.2.2.2.1 j hj hne
      omega
    · rw [(fA.1 449 6 (by decide +kernel)).1]; exact congrFun (lupd_ne (Or.inr (by decide))) 6
    · rw [wI_ne (by decide), z462, w462]
    · have q1 : (wI s1 111 (ix b) a).1 (466 + r) = s1.1 (466 + r) := wI_ne (by omega)
      have q2 : s1.1 (466 + r) = (wI (wI (lupd A s') 462 (ix a) (s.1 462 (ix a) + cI 1)) (466 + ix a) (ix (s.1 462 (ix a))) b).1 (466 + r) := fr_ge v5 (N := 200) (by decide +kernel) (by omega)
      rw [q1, q2, w462]
      by_cases z : r = ix a
      · rw [if_pos z, z, wI_c, wI_ne (by omega), lupd_ne (by omega)]
      · rw [if_neg z, wI_ne (by omega), wI_ne (by omega), lupd_ne (by omega)]
    · rw [(fA.1 100 5 (by decide +kernel)).1]; exact congrFun (lupd_ne (Or.inr (by decide))) 5
    · rw [(nof_c v6 (L := [(593, 0)]) (by decide +kernel) (c := 593) rfl).1]
      unfold lvS
      simp (disch := decide) only [ix_0, ix_1, ix_2, ix_3, ix_4, ix_5, ix_6, ix_7, ix_8, ix_9, ix_10, ix_11, ix_12, ix_13, ix_14, ix_15, ix_16, ix_17, ix_18, ix_19, ix_20, ix_21, Nat.reduceAdd, wI_c, wI_ne, wL_1, lupd_ne, up1_eq, up1_ne, up1_up1]
    · rw [(nof_c v6 (L := [(594, 0)]) (by decide +kernel) (c := 594) rfl).1]
      unfold lvS
      simp (disch := decide) only [ix_0, ix_1, ix_2, ix_3, ix_4, ix_5, ix_6, ix_7, ix_8, ix_9, ix_10, ix_11, ix_12, ix_13, ix_14, ix_15, ix_16, ix_17, ix_18, ix_19, ix_20, ix_21, Nat.reduceAdd, wI_c, wI_ne, wL_1, lupd_ne, up1_eq, up1_ne]
  have hAk : RAk (g + 1) (wI s1 111 (ix b) a) t1 := ((r4.keep lupd_fr rf_fr (by decide +kernel) (by decide +kernel)).keep rf_fr lvS_fr (by decide +kernel) (by decide +kernel)).keep fA fB (by decide +kernel) (by decide +kernel)
  rw [kc, km, ok_some, ok_some]
  refine ⟨rfl, Or.inr ⟨?_, rfl, ?_, ⟨v3, v4.keep (F := [(111, 111, 0)]) (fr.rf.wI rfl) rf_fr (by decide +kernel) (by decide +kernel), hRw, hBc, hBx⟩, hAk⟩⟩
  · rw [(fB.1 549 15 (by decide +kernel)).1, y23, (r6.1 549 15 rfl).1]; exact h0
  · have q := lgS.fr fA (by decide +kernel) (by decide +kernel)
    have qq : ∀ c, c < 9 ∨ 14 < c → (lupd A s').1 c = s'.1 c := fun c hh => lupd_ne hh
    refine ⟨fun c c1 c2 => ?_, ?_, ?_, fun c c1 => ?_⟩
    · rw [q.1 c c1 c2]
      funext kk
      show (if 9 ≤ c ∧ c ≤ 14 then A c kk else s'.1 c kk) = (if 9 ≤ c ∧ c ≤ 14 then A c kk else s.1 c kk)
      rw [if_pos ⟨c1, c2⟩, if_pos ⟨c1, c2⟩]
    · rw [q.2.1, qq 1 (by decide), lS.2.1]; exact (congrFun (lupd_ne (Or.inl (by decide))) 1).symm
    · rw [q.2.2.1, qq 2 (by decide), lS.2.2.1]; exact (lupd_ne (Or.inl (by decide))).symm
    · rw [q.2.2.2 c c1, qq c (Or.inr (by omega)), lS.2.2.2 c c1]; exact (lupd_ne (Or.inr (by omega))).symm
end
