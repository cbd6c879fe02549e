/-! ===== LEVEL 3: the act clerk, to its end ===== -/
theorem up1_sf {f : Nat → Int32} {k : Nat} : up1 f k (f k) = f := up1_id rfl
section
variable {s t : ev_M} {F : Bool} {A : Nat → Nat → Int32}
theorem a_clerk {a w p : Int32} (hA : AdmC s F A) (hM : FulM t F) (h0 : t.1 549 15 = 0) (h : RK3 s t) (hP : RPo s t) : Ok (fItems_hearClerk s a w p) fun x => Ok (fM_doClerk t a w p) fun y => AP (fun x y => RK3 x y ∧ fr Fclk s x) (fun x y => RK3 x y ∧ fr Fclk (lupd A s) x) F A s x y := by
  obtain ⟨hI, hK, hS⟩ := h
  obtain ⟨⟨n1, n2, n3⟩, -, -, -, -, -, -, -, -, g9, -⟩ := id hI
  obtain ⟨⟨p1, p2, p3⟩, -⟩ := id hP
  have hn : (fun x y => RK3 x y ∧ fr Fclk s x) s (wI t 549 15 (cI 1)) := ⟨⟨hI.keep rf_fr no_fr rfl rfl, hK.keep rf_fr no_fr rfl rfl, hS.keep rf_fr no_fr rfl rfl⟩, fr.rf⟩
  have no1 : fM_doClerk_b21 t = some (wI t 549 15 (cI 1), cI (-101)) := by simp only [fM_doClerk_b21, no_eq, bd2_some]
  have no3 : fM_doClerk_b138 t = some (wI t 549 15 (cI 1), cI (-103)) := by simp only [fM_doClerk_b138, no_eq, bd2_some]
  have iM : fM_isItem t a = some (bI (Has a (s.1 100 5))) := by rw [e_isItem (by rw [n1]; exact n2), n1]
  have pM : fM_isPoint t p = some (bI (Has p (s.1 30 9))) := by rw [e_isPoint (by rw [p1]; exact p2), p1]
  by_cases h1 : Has a (s.1 100 5)
  rotate_left
  · exact sim_no (c := cI (-101)) (by simp only [fItems_hearClerk, e_itemsHas n2, bd1_some, ite_bI, eq_false h1, if_false]) (by simp only [fM_doClerk, iM, bd1_some, ite_bI, eq_false h1, if_false, no1]) hn
  by_cases h2 : p = cI (-1) ∨ Has p (s.1 30 9)
  rotate_left
  · obtain ⟨h21, h22⟩ := not_or.mp h2
    exact sim_no (c := cI (-101)) (by simp only [fItems_hearClerk, e_itemsHas n2, e_hasPoint p2, bd1_some, ite_bI, eq_true h1, if_true, if_neg h21, eq_false h22, if_false]) (by simp only [fM_doClerk, iM, pM, bd1_some, ite_bI, eq_true h1, if_true, if_neg h21, eq_false h22, if_false, no1]) hn
  have kC : fItems_hearClerk s a w p = fItems_hearClerk_b27 s a w p := by
    by_cases q : p = cI (-1)
    · simp only [fItems_hearClerk, e_itemsHas n2, bd1_some, ite_bI, eq_true h1, if_true, if_pos q]
    · have q2 := h2.resolve_left q
      simp only [fItems_hearClerk, e_itemsHas n2, e_hasPoint p2, bd1_some, ite_bI, eq_true h1, if_true, if_neg q, eq_true q2]
  have kM : fM_doClerk t a w p = fM_doClerk_b28 t a w p := by
    by_cases q : p = cI (-1)
    · simp only [fM_doClerk, iM, bd1_some, ite_bI, eq_true h1, if_true, if_pos q]
    · have q2 := h2.resolve_left q
      simp only [fM_doClerk, iM, pM, bd1_some, ite_bI, eq_true h1, if_true, if_neg q, eq_true q2]
  rw [kC, kM]
  by_cases h3 : InR w (cI 0) (cI 9)
  rotate_left
  · refine sim_no (c := cI (-102)) (by simp only [fItems_hearClerk_b27, outside_eq, bd1_some, ite_bI, eq_false h3, not_false_eq_true, if_true]) ?_ hn
    unfold fM_doClerk_b28
    generalize fM_doClerk_h56 1048576 = H
    rw [in_eq, bd1_some, ite_bI, if_neg h3, no_eq, bd2_some]
  have hw : 0 ≤ w.toInt ∧ w.toInt ≤ 9 := h3
  have hb : inb a 300 = true := h1.inb n3
  have hi := h1.ix
  have a0 := h1.1
  have a300 : a.toInt < 300 := by have := h1.2; omega
  obtain ⟨⟨m1, m2⟩, k3, k4, k5, k6, k7, k8, k9⟩ := hK _ hi
  have t3 : (cI 3 * a).toInt = 3 * a.toInt := mul_toInt (by rw [show (cI 3).toInt = 3 from rfl]; omega) (by rw [show (cI 3).toInt = 3 from rfl]; omega)
  have te : (cI 3 * a + t.1 604 (ix a)).toInt = 3 * a.toInt + (t.1 604 (ix a)).toInt := by rw [add_toInt (by omega) (by omega), t3]
  have e9 := g9 _ hi
  have z00 : cI 0 = (0 : Int32) := rfl
  obtain ⟨n', T, S, y1, y2, y3⟩ := clk_lp (t := t) (i := a) (w := w) (p := p) hb rfl (by omega) (ix (t.1 604 (ix a))) 1048576 (cI 0) (cI 0) (cI 3 * a) (by omega) (by rw [te, t3, ix_toNat]; omega) (by rw [ix_toNat]; omega)
  have x3 : ix (cI 3 * a) = 3 * ix a := by rw [ix_toNat, t3, ix_toNat]; omega
  have xe : ix (cI 3 * a + t.1 604 (ix a)) = 3 * ix a + ix (t.1 604 (ix a)) := by
    have q1 := ix_toNat a
    have q2 := ix_toNat (t.1 604 (ix a))
    rw [ix_toNat (cI 3 * a + t.1 604 (ix a)), te]
    omega
  rw [x3, xe] at y2 y3
  have kM2 : fM_doClerk_b28 t a w p = fM_doClerk_h56 (n' + 1) t a w p T S (cI 3 * a + t.1 604 (ix a)) := by
    unfold fM_doClerk_b28
    generalize fM_doClerk_h56 1048576 = H at y1 ⊢
    rw [in_eq, bd1_some, ite_bI, if_pos h3, ltI_eq]
    exact y1
  rw [kM2]
  have nlt : ¬ (cI 3 * a + t.1 604 (ix a)) < (cI 3 * a + t.1 604 (ix a)) := by rw [lt_i]; omega
  by_cases h4 : s.1 115 (ix a) = cI 1
  rotate_left
  · refine sim_no (c := cI (-103)) (by simp only [fItems_hearClerk_b27, outside_eq, bd1_some, ite_bI, eq_true h3, not_true_eq_false, if_false, hb, if_true, ltI_eq, ix_13, ix_19, Nat.reduceAdd, eq_false h4]) ?_ hn
    rw [fM_doClerk_h56]
    generalize fM_doClerk_h56 n' = H
    simp only [hb, if_true, eq_false nlt, if_false, e9, eq_false h4, no3]
  have hm : ix (t.1 604 (ix a)) ≤ 2 := by have := k3 h4; rw [ix_toNat]; omega
  have r5 : ∀ k, k < ix (t.1 604 (ix a)) → 0 ≤ (t.1 605 (3 * ix a + k)).toInt ∧ (t.1 605 (3 * ix a + k)).toInt ≤ 9 := k5
  obtain ⟨f1, f2, f3⟩ := clk_f (m := ix (t.1 604 (ix a))) (a := t.1 605 (3 * ix a)) (b := t.1 605 (3 * ix a + 1)) (c := t.1 605 (3 * ix a + 2)) (w := w) hm (fun q => r5 0 q) (fun q => r5 1 q) k6 hw
  rw [← k8] at f1 f2 f3
  have two : ∀ (f : Nat → Int32) (u : Int32), (∀ q, 3 * ix a ≤ q → q < 3 * ix a + ix (t.1 604 (ix a)) → ¬ f q = u) ↔ (0 < ix (t.1 604 (ix a)) → ¬ f (3 * ix a) = u) ∧ (1 < ix (t.1 604 (ix a)) → ¬ f (3 * ix a + 1) = u) := fun f u => by
    constructor
    · intro q
      exact ⟨fun v => q _ (Nat.le_refl _) (by omega), fun v => q _ (by omega) (by omega)⟩
    · rintro ⟨q1, q2⟩ j j1 j2
      rcases (by omega : j = 3 * ix a ∨ j = 3 * ix a + 1) with z | z
      · rw [z]; exact q1 (by omega)
      · rw [z]; exact q2 (by omega)
  rw [two] at y2 y3
  by_cases h5 : (0 < ix (t.1 604 (ix a)) → ¬ t.1 605 (3 * ix a) = w) ∧ (1 < ix (t.1 604 (ix a)) → ¬ t.1 605 (3 * ix a + 1) = w)
  rotate_left
  · have T0 : ¬ T = 0 := fun q => h5 (y2.mp q).2
    have b0 : ¬ (s.1 121 (ix a) >>> (w &&& 31)) &&& cI 1 = 0 := fun q => h5 (f1.mp q)
    refine sim_no (c := cI (-103)) (by simp only [fItems_hearClerk_b27, outside_eq, bd1_some, ite_bI, eq_true h3, not_true_eq_false, if_false, hb, if_true, ltI_eq, ix_13, ix_19, Nat.reduceAdd, eq_true h4, eq_false b0]) ?_ hn
    rw [fM_doClerk_h56]
    generalize fM_doClerk_h56 n' = H
    simp only [hb, if_true, eq_false nlt, if_false, e9, eq_true h4, eq_false T0, no3]
  have T0 : T = 0 := y2.mpr ⟨rfl, h5⟩
  have b0 : (s.1 121 (ix a) >>> (w &&& 31)) &&& cI 1 = 0 := f1.mpr h5
  by_cases hF : F = true
  · subst hF
    refine sim_no (c := cI (-104)) (by simp only [fItems_hearClerk_b27, outside_eq, bd1_some, bd2_some, ite_bI, eq_true h3, not_true_eq_false, if_false, hb, if_true, ltI_eq, ix_13, ix_19, Nat.reduceAdd, eq_true h4, eq_true b0, hA.no]) ?_ hn
    rw [fM_doClerk_h56]
    generalize fM_doClerk_h56 n' = H
    simp only [hb, if_true, eq_false nlt, if_false, e9, eq_true h4, eq_true T0, hM.no, bd1_some, bd2_some, no_eq, if_neg (show ¬ (1 : Int32) = 0 by decide)]
  have hF2 : F = false := by cases F <;> simp_all
  subst hF2
  have be : inb (cI 3 * a + t.1 604 (ix a)) 900 = true := inb_iff.mpr ⟨by omega, by rw [te]; have := k3 h4; omega⟩
  have cC : fItems_hearClerk_b27 s a w p = (bd1 (fInt_bitCount (lupd A s) (s.1 121 (ix a))) fun v9 => if v9 < cI 1 then fItems_hearClerk_b115 (lupd A s) a w p (s.1 121 (ix a)) v9 else if inb a 300 = true then (if (lupd A s).1 122 (ix a) = p then fItems_hearClerk_b134 (lupd A s) a w p (s.1 121 (ix a)) v9 else fItems_hearClerk_b115 (lupd A s) a w p (s.1 121 (ix a)) v9) else none) := by
    unfold fItems_hearClerk_b27
    generalize fInt_bitCount = B
    simp only [outside_eq, bd1_some, bd2_some, ite_bI, eq_true h3, not_true_eq_false, if_false, hb, if_true, ltI_eq, ix_13, ix_19, ix_20, Nat.reduceAdd, eq_true h4, eq_true b0, hA.yes, if_neg (show ¬ (1 : Int32) = 0 by decide)]
    rfl
  rw [cC, clk_c hb hm f2]
  have l122 : (lupd A s).1 122 = s.1 122 := lupd_ne (Or.inr (by decide))
  have l123 : (lupd A s).1 123 = s.1 123 := lupd_ne (Or.inr (by decide))
  obtain ⟨c1, c2⟩ := k9 h4
  have S0 : S = 0 ↔ ¬ ((0 < ix (t.1 604 (ix a)) ∧ (lupd A s).1 122 (ix a) = p) ∨ (1 < ix (t.1 604 (ix a)) ∧ (lupd A s).1 123 (ix a) = p)) := by
    rw [y3, l122, l123]
    constructor
    · rintro ⟨-, q1, q2⟩ z
      rcases z with ⟨z1, z2⟩ | ⟨z1, z2⟩
      · exact q1 z1 (by rw [← c1 z1]; exact z2)
      · exact q2 z1 (by rw [← c2 z1]; exact z2)
    · intro z
      exact ⟨rfl, fun q1 q2 => z (Or.inl ⟨q1, by rw [c1 q1]; exact q2⟩), fun q1 q2 => z (Or.inr ⟨q1, by rw [c2 q1]; exact q2⟩)⟩
  have z13 : (t.1 604 (ix a) + cI 1 = cI 3) ↔ ix (t.1 604 (ix a)) = 2 := by
    have q2 := ix_toNat (t.1 604 (ix a))
    rw [eq_i, inc_i (by omega), show (cI 3).toInt = 3 from rfl]
    omega
  have cM : fM_doClerk_h56 (n' + 1) t a w p T S (cI 3 * a + t.1 604 (ix a)) = (let t9 := wI (wI (wI t 605 (ix (cI 3 * a + t.1 604 (ix a))) w) 606 (ix (cI 3 * a + t.1 604 (ix a))) p) 604 (ix a) (t.1 604 (ix a) + cI 1); if S = 0 then (if ix (t.1 604 (ix a)) = 2 then some (wI t9 601 (ix a) (cI 2), cI 2) else some (t9, cI 0)) else if p = cI (-1) then some (wI t9 601 (ix a) (cI 2), cI 2) else some (wI (wI t9 590 (ix a) p) 601 (ix a) (cI 0), cI 1)) := by
    rw [fM_doClerk_h56]
    generalize fM_doClerk_h56 n' = H
    rcases Classical.propComplete (S = 0) with q | q
    · rcases Classical.propComplete (ix (t.1 604 (ix a)) = 2) with r | r <;> simp (disch := decide) only [hb, if_true, eq_false nlt, if_false, e9, eq_true h4, eq_true T0, hM.yes, bd1_some, be, ltM_eq, ix_0, ix_1, ix_2, ix_3, ix_4, ix_5, ix_6, ix_7, ix_8, ix_9, ix_10, ix_11, ix_12, ix_13, ix_14, ix_15, ix_16, ix_17, ix_18, ix_19, ix_20, ix_21, Nat.reduceAdd, wI_c, wI_ne, wL_1, lupd_ne, up1_eq, up1_ne, q, fM_doClerk_b219, fM_doClerk_b234, z13, r]
    · rcases Classical.propComplete (p = cI (-1)) with r | r <;> simp (disch := decide) only [hb, if_true, eq_false nlt, if_false, e9, eq_true h4, eq_true T0, hM.yes, bd1_some, be, ltM_eq, ix_0, ix_1, ix_2, ix_3, ix_4, ix_5, ix_6, ix_7, ix_8, ix_9, ix_10, ix_11, ix_12, ix_13, ix_14, ix_15, ix_16, ix_17, ix_18, ix_19, ix_20, ix_21, Nat.reduceAdd, wI_c, wI_ne, wL_1, lupd_ne, up1_eq, up1_ne, q, fM_doClerk_b219, fM_doClerk_b234, r, fM_settle]
  rw [cM]
  have wx : w &&& 31 = w &&& 31 := rfl
  have f3' := f3 h5
  have tb : fr [(605, 605, 0), (606, 606, 0), (604, 604, 0)] t (wI (wI (wI t 605 (ix (cI 3 * a + t.1 604 (ix a))) w) 606 (ix (cI 3 * a + t.1 604 (ix a))) p) 604 (ix a) (t.1 604 (ix a) + cI 1)) := ((fr.rf.wI rfl).wI rfl).wI rfl
  have sb : fr [(121, 121, 0)] (lupd A s) (wI (lupd A s) 121 (ix a) (s.1 121 (ix a) ||| (cI 1 <<< (w &&& 31)))) := fr.rf.wI rfl
  have uI : RIt (wI (lupd A s) 121 (ix a) (s.1 121 (ix a) ||| (cI 1 <<< (w &&& 31)))) (wI (wI (wI t 605 (ix (cI 3 * a + t.1 604 (ix a))) w) 606 (ix (cI 3 * a + t.1 604 (ix a))) p) 604 (ix a) (t.1 604 (ix a) + cI 1)) := (hI.keep lupd_fr rf_fr rfl rfl).keep sb tb rfl rfl
  have uS : RSx (wI (lupd A s) 121 (ix a) (s.1 121 (ix a) ||| (cI 1 <<< (w &&& 31)))) (wI (wI (wI t 605 (ix (cI 3 * a + t.1 604 (ix a))) w) 606 (ix (cI 3 * a + t.1 604 (ix a))) p) 604 (ix a) (t.1 604 (ix a) + cI 1)) := (hS.keep lupd_fr rf_fr rfl rfl).keep sb tb rfl rfl
  have o0 : ∀ x y : ev_M × Int32, x.1.1 549 15 = x.1.1 549 15 := fun _ _ => rfl
  have l115 : (lupd A s).1 115 = s.1 115 := lupd_ne (Or.inr (by decide))
  have l109 : (lupd A s).1 109 = s.1 109 := lupd_ne (Or.inr (by decide))
  have l121 : (lupd A s).1 121 = s.1 121 := lupd_ne (Or.inr (by decide))
  have l100 : (lupd A s).1 100 = s.1 100 := lupd_ne (Or.inr (by decide))
  by_cases hg : (0 < ix (t.1 604 (ix a)) ∧ (lupd A s).1 122 (ix a) = p) ∨ (1 < ix (t.1 604 (ix a)) ∧ (lupd A s).1 123 (ix a) = p)
  · have S1 : ¬ S = 0 := fun q => S0.mp q hg
    rw [if_pos hg]
    simp only [if_neg S1]
    by_cases hq : p = cI (-1)
    · rw [if_pos hq, if_pos hq, ok_some, ok_some]
      refine ⟨rfl, Or.inr ⟨?_, rfl, (lgS.rf.wI (by decide) (by decide)).wI (by decide) (by decide), ⟨uI.dbt (by decide), ?_, uS.keep (F := [(115, 115, 0)]) (G := [(601, 601, 0)]) (fr.rf.wI rfl) (fr.rf.wI rfl) rfl rfl⟩, (fr.rf.wI rfl).wI rfl⟩⟩
      · simp (disch := decide) only [ix_0, ix_1, ix_2, ix_3, ix_4, ix_5, ix_6, ix_7, ix_8, ix_9, ix_10, ix_11, ix_12, ix_13, ix_14, ix_15, ix_16, ix_17, ix_18, ix_19, ix_20, ix_21, Nat.reduceAdd, wI_c, wI_ne, wL_1, lupd_ne, up1_eq, up1_ne]; exact h0
      · refine hK.tell (i := a) (w := w) (p := p) (y := cI 2) (z := s.1 109 (ix a)) (u2 := s.1 122 (ix a)) (u3 := s.1 123 (ix a)) h1 n3 hm rfl xe hw h5 f3' (fun q => absurd q (by decide)) (fun q => absurd q (by decide)) ?_ ?_ ?_ ?_ ?_ ?_ ?_ ?_ ?_ <;> simp (disch := decide) only [ix_0, ix_1, ix_2, ix_3, ix_4, ix_5, ix_6, ix_7, ix_8, ix_9, ix_10, ix_11, ix_12, ix_13, ix_14, ix_15, ix_16, ix_17, ix_18, ix_19, ix_20, ix_21, Nat.reduceAdd, wI_c, wI_ne, wL_1, lupd_ne, up1_eq, up1_ne, up1_sf]
    · rw [if_neg hq, if_neg hq, ok_some, ok_some]
      have hpp := h2.resolve_left hq
      refine ⟨rfl, Or.inr ⟨?_, rfl, ((lgS.rf.wI (by decide) (by decide)).wI (by decide) (by decide)).wI (by decide) (by decide), ⟨uI.adr ⟨by have := hpp.1; omega, by simp (disch := decide) only [ix_0, ix_1, ix_2, ix_3, ix_4, ix_5, ix_6, ix_7, ix_8, ix_9, ix_10, ix_11, ix_12, ix_13, ix_14, ix_15, ix_16, ix_17, ix_18, ix_19, ix_20, ix_21, Nat.reduceAdd, wI_c, wI_ne, wL_1, lupd_ne, up1_eq, up1_ne]; have := hpp.2; omega⟩ (by decide), ?_, uS.adr hpp.1⟩, ((fr.rf.wI rfl).wI rfl).wI rfl⟩⟩
      · simp (disch := decide) only [ix_0, ix_1, ix_2, ix_3, ix_4, ix_5, ix_6, ix_7, ix_8, ix_9, ix_10, ix_11, ix_12, ix_13, ix_14, ix_15, ix_16, ix_17, ix_18, ix_19, ix_20, ix_21, Nat.reduceAdd, wI_c, wI_ne, wL_1, lupd_ne, up1_eq, up1_ne]; exact h0
      · refine hK.tell (i := a) (w := w) (p := p) (y := cI 0) (z := p) (u2 := s.1 122 (ix a)) (u3 := s.1 123 (ix a)) h1 n3 hm rfl xe hw h5 f3' (fun q => absurd q (by decide)) (fun _ => hq) ?_ ?_ ?_ ?_ ?_ ?_ ?_ ?_ ?_ <;> simp (disch := decide) only [ix_0, ix_1, ix_2, ix_3, ix_4, ix_5, ix_6, ix_7, ix_8, ix_9, ix_10, ix_11, ix_12, ix_13, ix_14, ix_15, ix_16, ix_17, ix_18, ix_19, ix_20, ix_21, Nat.reduceAdd, wI_c, wI_ne, wL_1, lupd_ne, up1_eq, up1_ne, up1_sf]
  · have S1 : S = 0 := S0.mpr hg
    rw [if_neg hg]
    simp only [if_pos S1]
    by_cases hq : ix (t.1 604 (ix a)) = 2
    · rw [if_pos hq, if_pos hq, ok_some, ok_some]
      refine ⟨rfl, Or.inr ⟨?_, rfl, (lgS.rf.wI (by decide) (by decide)).wI (by decide) (by decide), ⟨uI.dbt (by decide), ?_, uS.keep (F := [(115, 115, 0)]) (G := [(601, 601, 0)]) (fr.rf.wI rfl) (fr.rf.wI rfl) rfl rfl⟩, (fr.rf.wI rfl).wI rfl⟩⟩
      · simp (disch := decide) only [ix_0, ix_1, ix_2, ix_3, ix_4, ix_5, ix_6, ix_7, ix_8, ix_9, ix_10, ix_11, ix_12, ix_13, ix_14, ix_15, ix_16, ix_17, ix_18, ix_19, ix_20, ix_21, Nat.reduceAdd, wI_c, wI_ne, wL_1, lupd_ne, up1_eq, up1_ne]; exact h0
      · refine hK.tell (i := a) (w := w) (p := p) (y := cI 2) (z := s.1 109 (ix a)) (u2 := s.1 122 (ix a)) (u3 := s.1 123 (ix a)) h1 n3 hm rfl xe hw h5 f3' (fun q => absurd q (by decide)) (fun q => absurd q (by decide)) ?_ ?_ ?_ ?_ ?_ ?_ ?_ ?_ ?_ <;> simp (disch := decide) only [ix_0, ix_1, ix_2, ix_3, ix_4, ix_5, ix_6, ix_7, ix_8, ix_9, ix_10, ix_11, ix_12, ix_13, ix_14, ix_15, ix_16, ix_17, ix_18, ix_19, ix_20, ix_21, Nat.reduceAdd, wI_c, wI_ne, wL_1, lupd_ne, up1_eq, up1_ne, up1_sf]
    · rw [if_neg hq, if_neg hq, ok_some, ok_some]
      have xe0 := xe
      rcases (by omega : ix (t.1 604 (ix a)) = 0 ∨ ix (t.1 604 (ix a)) = 1) with hz | hz
      · rw [hz]
        refine ⟨rfl, Or.inr ⟨?_, rfl, (lgS.rf.wI (by decide) (by decide)).wI (by decide) (by decide), ⟨uI.keep (F := [(122, 122, 0)]) (fr.rf.wI rfl) rf_fr rfl rfl, ?_, uS.keep (F := [(122, 122, 0)]) (fr.rf.wI rfl) rf_fr rfl rfl⟩, (fr.rf.wI rfl).wI rfl⟩⟩
        · simp (disch := decide) only [ix_0, ix_1, ix_2, ix_3, ix_4, ix_5, ix_6, ix_7, ix_8, ix_9, ix_10, ix_11, ix_12, ix_13, ix_14, ix_15, ix_16, ix_17, ix_18, ix_19, ix_20, ix_21, Nat.reduceAdd, wI_c, wI_ne, wL_1, lupd_ne, up1_eq, up1_ne]; exact h0
        · refine hK.tell (i := a) (w := w) (p := p) (y := s.1 115 (ix a)) (z := s.1 109 (ix a)) (u2 := p) (u3 := s.1 123 (ix a)) h1 n3 hm rfl xe hw h5 f3' (fun _ => ⟨by omega, by rw [xe, hz, Nat.add_zero, up1_eq], fun q => absurd q (by omega)⟩) (fun q => by rw [h4] at q; exact absurd q (by decide)) ?_ ?_ ?_ ?_ ?_ ?_ ?_ ?_ ?_ <;> simp (disch := decide) only [ix_0, ix_1, ix_2, ix_3, ix_4, ix_5, ix_6, ix_7, ix_8, ix_9, ix_10, ix_11, ix_12, ix_13, ix_14, ix_15, ix_16, ix_17, ix_18, ix_19, ix_20, ix_21, Nat.reduceAdd, wI_c, wI_ne, wL_1, lupd_ne, up1_eq, up1_ne, up1_sf]
      · rw [hz]
        refine ⟨rfl, Or.inr ⟨?_, rfl, (lgS.rf.wI (by decide) (by decide)).wI (by decide) (by decide), ⟨uI.keep (F := [(123, 123, 0)]) (fr.rf.wI rfl) rf_fr rfl rfl, ?_, uS.keep (F := [(123, 123, 0)]) (fr.rf.wI rfl) rf_fr rfl rfl⟩, (fr.rf.wI rfl).wI rfl⟩⟩
        · simp (disch := decide) only [ix_0, ix_1, ix_2, ix_3, ix_4, ix_5, ix_6, ix_7, ix_8, ix_9, ix_10, ix_11, ix_12, ix_13, ix_14, ix_15, ix_16, ix_17, ix_18, ix_19, ix_20, ix_21, Nat.reduceAdd, wI_c, wI_ne, wL_1, lupd_ne, up1_eq, up1_ne]; exact h0
        · refine hK.tell (i := a) (w := w) (p := p) (y := s.1 115 (ix a)) (z := s.1 109 (ix a)) (u2 := s.1 122 (ix a)) (u3 := p) h1 n3 hm rfl xe hw h5 f3' (fun _ => ⟨by omega, by rw [xe, hz, up1_ne (by omega)]; exact c1 (by omega), fun _ => by rw [xe, hz, up1_eq]⟩) (fun q => by rw [h4] at q; exact absurd q (by decide)) ?_ ?_ ?_ ?_ ?_ ?_ ?_ ?_ ?_ <;> simp (disch := decide) only [ix_0, ix_1, ix_2, ix_3, ix_4, ix_5, ix_6, ix_7, ix_8, ix_9, ix_10, ix_11, ix_12, ix_13, ix_14, ix_15, ix_16, ix_17, ix_18, ix_19, ix_20, ix_21, Nat.reduceAdd, wI_c, wI_ne, wL_1, lupd_ne, up1_eq, up1_ne, up1_sf]
end
