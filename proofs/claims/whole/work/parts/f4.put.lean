/-! ===== LEVEL 3: the acts put and key, whole ===== -/
def serOk (x : Nat) : Bool := let X := cI (x : Int); decide ((X &&& cI 5 = 0) ↔ (X &&& cI 4 = 0 ∧ X &&& cI 1 = 0))
theorem ser_all : ((List.range 8).all fun x => serOk x) = true := by decide +kernel
theorem ser_b {X : Int32} (h : 0 ≤ X.toInt ∧ X.toInt ≤ 7) : (X &&& cI 5 = 0) ↔ (X &&& cI 4 = 0 ∧ X &&& cI 1 = 0) := by
  have q : serOk (ix X) = true := List.all_eq_true.mp ser_all (ix X) (List.mem_range.mpr (by rw [ix_toNat]; omega))
  unfold serOk at q
  rw [cI_ix h.1] at q
  exact of_decide_eq_true q
section
variable {s t : ev_M} {F : Bool} {A : Nat → Nat → Int32} {n : Nat}
theorem a_put {a b : Int32} (hA : AdmC s F A) (hM : FulM t F) (h0 : t.1 549 15 = 0) (h : RV n s t) (hT : RTa s t) (hcu : RCu s t) (ht : RTim s t) (hl : RLk s t) (hn9 : n < 2147483646) : Ok (fLock_fill s a b) fun x => Ok (fM_doPut t a b) fun y => AP (RV n) (RV (n + 1)) F A s x y := by
  obtain ⟨⟨n1, n2, n3⟩, g1, g2, -, g4, -, -, -, -, -, -, -, -, c4, -⟩ := id h.1.1
  obtain ⟨⟨c1, c2⟩, -⟩ := id ht
  obtain ⟨⟨m1, m2, m3⟩, k1, k2, -, -, d2, -⟩ := id hl
  have hn : RV n s (wI t 549 15 (cI 1)) := h.no
  by_cases h1 : Has a (s.1 100 5)
  rotate_left
  · exact sim_no (c := cI (-101)) (by simp only [fLock_fill_b60, fLock_fill_b59, fLock_fill, fM_doPut_b16, fM_doPut_b93, fM_doPut_b149, fM_doPut_b131, fM_doPut_b53, fM_doPut_b52, fM_doPut, fItems_is, fItems_isFreeForLocker_b35, fItems_isFreeForLocker_b34, fItems_isFreeForLocker, fItems_serves, e_itemsHas n2, e_isItem (by rw [n1]; exact n2), n1, e_lockHas m2, e_isLocker (by rw [m1]; exact m2), m1, ltM_eq, ltI_eq, ltL_eq, bd1_some, bd2_some, ite_bI, if_true, if_false, ite_true, ite_false, eq_self, not_true_eq_false, not_false_eq_true, i10, outside_eq, in_eq, no_eq, eq_false h1]) (by simp only [fLock_fill_b60, fLock_fill_b59, fLock_fill, fM_doPut_b16, fM_doPut_b93, fM_doPut_b149, fM_doPut_b131, fM_doPut_b53, fM_doPut_b52, fM_doPut, fItems_is, fItems_isFreeForLocker_b35, fItems_isFreeForLocker_b34, fItems_isFreeForLocker, fItems_serves, e_itemsHas n2, e_isItem (by rw [n1]; exact n2), n1, e_lockHas m2, e_isLocker (by rw [m1]; exact m2), m1, ltM_eq, ltI_eq, ltL_eq, bd1_some, bd2_some, ite_bI, if_true, if_false, ite_true, ite_false, eq_self, not_true_eq_false, not_false_eq_true, i10, outside_eq, in_eq, no_eq, eq_false h1]) hn
  by_cases h2 : Has b (s.1 125 3)
  rotate_left
  · exact sim_no (c := cI (-101)) (by simp only [fLock_fill_b60, fLock_fill_b59, fLock_fill, fM_doPut_b16, fM_doPut_b93, fM_doPut_b149, fM_doPut_b131, fM_doPut_b53, fM_doPut_b52, fM_doPut, fItems_is, fItems_isFreeForLocker_b35, fItems_isFreeForLocker_b34, fItems_isFreeForLocker, fItems_serves, e_itemsHas n2, e_isItem (by rw [n1]; exact n2), n1, e_lockHas m2, e_isLocker (by rw [m1]; exact m2), m1, ltM_eq, ltI_eq, ltL_eq, bd1_some, bd2_some, ite_bI, if_true, if_false, ite_true, ite_false, eq_self, not_true_eq_false, not_false_eq_true, i10, outside_eq, in_eq, no_eq, eq_true h1, eq_false h2]) (by simp only [fLock_fill_b60, fLock_fill_b59, fLock_fill, fM_doPut_b16, fM_doPut_b93, fM_doPut_b149, fM_doPut_b131, fM_doPut_b53, fM_doPut_b52, fM_doPut, fItems_is, fItems_isFreeForLocker_b35, fItems_isFreeForLocker_b34, fItems_isFreeForLocker, fItems_serves, e_itemsHas n2, e_isItem (by rw [n1]; exact n2), n1, e_lockHas m2, e_isLocker (by rw [m1]; exact m2), m1, ltM_eq, ltI_eq, ltL_eq, bd1_some, bd2_some, ite_bI, if_true, if_false, ite_true, ite_false, eq_self, not_true_eq_false, not_false_eq_true, i10, outside_eq, in_eq, no_eq, eq_true h1, eq_false h2]) hn
  have hb : inb a 300 = true := h1.inb n3
  have hc : inb b 8 = true := h2.inb m3
  have w := h1.ix
  have v := h2.ix
  have e1 := g1 _ w
  have e2 := g2 _ w
  have e4 := g4 _ w
  have e10 := h.1.2.1.1 _ w
  have f1 := k1 _ v
  have f2 := k2 _ v
  have dd := d2 _ v
  have z10 : ¬ cI 1 = 0 := by decide
  have z00 : cI 0 = 0 := rfl
  obtain ⟨p, c, y1, y2, y3, y4, p0, p1, q0, q1⟩ := hT.due h.1.1 h.1.2.1 h1
  have L5 : (s.1 105 (ix a) &&& cI 5 ≤ 0) ↔ (s.1 105 (ix a) &&& cI 4 = 0 ∧ s.1 105 (ix a) &&& cI 1 = 0) := (and_le (c4 _ w) (by decide)).trans (ser_b (c4 _ w))
  have epc : (p + c).toInt = p.toInt + c.toInt := add_toInt (by omega) (by omega)
  have Lp : p + c ≤ 0 ↔ p + c = 0 := by rw [le_i, eq_i, i32_0]; omega
  have kC : fLock_fill s a b = if (s.1 102 (ix a) = cI 4 ∧ s.1 110 (ix a) = s.1 126 (ix b)) ∧ (s.1 103 (ix a) ≤ cI 1 ∧ (s.1 105 (ix a) &&& cI 4 = 0 ∧ s.1 105 (ix a) &&& cI 1 = 0) ∧ p + c = 0) then (bd1 (fLock_boxWith s b (cI (-1))) fun v2 => if v2 = cI (-1) then some (s, cI (-104)) else bd2 (fLog_admits s) fun s3 v4 => if v4 = 0 then some (s3, cI (-104)) else if inb v2 10 = true then bd1 (fItems_keepFor (wI s3 (130 + ix b) (ix v2) a) a (cI 3)) fun s6 => some (wI s6 117 (ix a) b, v2) else none) else some (s, cI (-103)) := by
    rcases Classical.propComplete (s.1 102 (ix a) = cI 4) with x1 | x1 <;> rcases Classical.propComplete (s.1 110 (ix a) = s.1 126 (ix b)) with x2 | x2 <;> rcases Classical.propComplete (s.1 103 (ix a) ≤ cI 1) with x3 | x3 <;> rcases Classical.propComplete (s.1 105 (ix a) &&& cI 4 = 0) with x4 | x4 <;> rcases Classical.propComplete (s.1 105 (ix a) &&& cI 1 = 0) with x5 | x5 <;> rcases Classical.propComplete (p + c = 0) with x6 | x6 <;> simp only [fLock_fill_b60, fLock_fill_b59, fLock_fill, fM_doPut_b16, fM_doPut_b93, fM_doPut_b149, fM_doPut_b131, fM_doPut_b53, fM_doPut_b52, fM_doPut, fItems_is, fItems_isFreeForLocker_b35, fItems_isFreeForLocker_b34, fItems_isFreeForLocker, fItems_serves, e_itemsHas n2, e_isItem (by rw [n1]; exact n2), n1, e_lockHas m2, e_isLocker (by rw [m1]; exact m2), m1, ltM_eq, ltI_eq, ltL_eq, bd1_some, bd2_some, ite_bI, if_true, if_false, ite_true, ite_false, eq_self, not_true_eq_false, not_false_eq_true, i10, outside_eq, in_eq, no_eq, eq_true h1, eq_true h2, hb, hc, ix_0, ix_1, ix_2, ix_3, ix_4, ix_5, ix_6, ix_7, ix_8, ix_9, ix_10, ix_11, ix_12, ix_13, ix_14, ix_15, ix_16, ix_17, ix_18, ix_19, ix_20, ix_21, Nat.reduceAdd, wI_c, wI_ne, wL_1, lupd_ne, up1_eq, up1_ne, y1, y3, x1, x2, x3, x4, x5, x6, eq_false z10, eq_true z00, eq_true h1, eq_true h2, and_true, true_and, and_false, false_and]
  have kM : fM_doPut t a b = if (s.1 102 (ix a) = cI 4 ∧ s.1 110 (ix a) = s.1 126 (ix b)) ∧ (s.1 103 (ix a) ≤ cI 1 ∧ (s.1 105 (ix a) &&& cI 4 = 0 ∧ s.1 105 (ix a) &&& cI 1 = 0) ∧ p + c = 0) then fM_doPut_h103 1048576 t a b (cI 0) else some (wI t 549 15 (cI 1), cI (-103)) := by
    have sw : t.1 623 (ix b) = t.1 591 (ix a) ↔ s.1 110 (ix a) = s.1 126 (ix b) := by rw [f1, e10]; exact eq_comm
    rcases Classical.propComplete (s.1 102 (ix a) = cI 4) with x1 | x1 <;> rcases Classical.propComplete (s.1 110 (ix a) = s.1 126 (ix b)) with x2 | x2 <;> rcases Classical.propComplete (s.1 103 (ix a) ≤ cI 1) with x3 | x3 <;> rcases Classical.propComplete ((s.1 105 (ix a) &&& cI 4 = 0 ∧ s.1 105 (ix a) &&& cI 1 = 0)) with x4 | x4 <;> rcases Classical.propComplete (p + c = 0) with x6 | x6 <;> simp only [fM_doPut, fM_doPut_b52, fM_doPut_b53, fM_doPut_b93, e_isItem (show 0 ≤ (t.1 549 58).toInt by rw [n1]; exact n2), n1, e_isLocker (show 0 ≤ (t.1 549 107).toInt by rw [m1]; exact m2), m1, ltM_eq, ltI_eq, ltL_eq, bd1_some, bd2_some, ite_bI, if_true, if_false, ite_true, ite_false, eq_self, not_true_eq_false, not_false_eq_true, i10, no_eq, hb, hc, e1, e2, e4, L5, Lp, sw, y2, y4, x1, x2, x3, x4, x6, eq_false z10, eq_true z00, eq_true h1, eq_true h2, and_true, true_and, and_false, false_and]
  by_cases K : (s.1 102 (ix a) = cI 4 ∧ s.1 110 (ix a) = s.1 126 (ix b)) ∧ (s.1 103 (ix a) ≤ cI 1 ∧ (s.1 105 (ix a) &&& cI 4 = 0 ∧ s.1 105 (ix a) &&& cI 1 = 0) ∧ p + c = 0)
  rotate_left
  · exact sim_no (c := cI (-103)) (by rw [kC, if_neg K]) (by rw [kM, if_neg K]) hn
  rw [if_pos K] at kC kM
  have x1 := K.1.1
  obtain ⟨bx, b1, b2⟩ := pb_lp h.2.2.2.2 hl (i := a) n1 n2 n3 h2 (ix (s.1 127 (ix b))) 1048576 1048576 (cI 0) (by decide) (by rw [ix_toNat, show (cI 0).toInt = 0 from rfl]; omega) (by rw [ix_toNat]; omega) (by rw [ix_toNat]; omega)
  have b1 : fLock_boxWith s b (cI (-1)) = some bx := b1
  rw [b1, bd1_some] at kC
  rcases b2 with ⟨b2, b3⟩ | ⟨b2, b3, b4⟩
  · rw [if_pos b2] at kC
    rw [b3] at kM
    exact sim_no (c := cI (-104)) kC (by rw [kM]; simp only [fM_doPut_b131, fM_doPut_b149, hc, f2, if_true, no_eq, bd2_some]) hn
  have nx : ¬ bx = cI (-1) := fun q => by rw [q] at b2; exact absurd b2.1 (by decide)
  have nx2 : ¬ bx = s.1 127 (ix b) := fun q => by have := b2.2; rw [q] at this; omega
  have i10 : inb bx 10 = true := inb_iff.mpr ⟨b2.1, by have := b2.2; omega⟩
  rw [if_neg nx] at kC
  rw [b4] at kM
  by_cases hF : F = true
  · subst hF
    exact sim_no (c := cI (-104)) (by rw [kC, hA.no, bd2_some, if_pos rfl]) (by rw [kM]; simp only [fM_doPut_b131, fM_doPut_b149, hc, f2, if_neg nx2, hM.no, bd1_some, if_true, if_neg (show ¬ (1 : Int32) = 0 by decide), no_eq, bd2_some]) hn
  have hF2 : F = false := by cases F <;> simp_all
  subst hF2
  rw [hA.yes, bd2_some, if_neg (show ¬ (1 : Int32) = 0 by decide), if_pos i10] at kC
  obtain ⟨k1', k2', k3'⟩ := day_b c2
  have ex3 : (s.1 15 1 / cI 1440 + cI 3).toInt = (s.1 15 1 / cI 1440).toInt + 3 := by
    rw [add_toInt (by rw [show (cI 3).toInt = 3 from rfl]; omega) (by rw [show (cI 3).toInt = 3 from rfl]; omega)]
    rfl
  have a8 : ix b < 8 := by have := h2.1; have := h2.2; rw [ix_toNat]; omega
  have fS : fr [(130, 137, 0)] (lupd A s) (wI (lupd A s) (130 + ix b) (ix bx) a) := fr.rf.wI (inF_row (lo := 130) (hi := 137) rfl (Nat.le_add_right _ _) (by omega))
  have u15 : (wI (lupd A s) (130 + ix b) (ix bx) a).1 15 = s.1 15 := (wI_ne (by omega)).trans (lupd_ne (Or.inr (by decide)))
  have u100 : (wI (lupd A s) (130 + ix b) (ix bx) a).1 100 = s.1 100 := (wI_ne (by omega)).trans (lupd_ne (Or.inr (by decide)))
  have u102 : (wI (lupd A s) (130 + ix b) (ix bx) a).1 102 = s.1 102 := (wI_ne (by omega)).trans (lupd_ne (Or.inr (by decide)))
  have u125 : (wI (lupd A s) (130 + ix b) (ix bx) a).1 125 = s.1 125 := (wI_ne (by omega)).trans (lupd_ne (Or.inr (by decide)))
  have u127 : (wI (lupd A s) (130 + ix b) (ix bx) a).1 127 = s.1 127 := (wI_ne (by omega)).trans (lupd_ne (Or.inr (by decide)))
  have t597 := ((h.1.2.2.2 _ w).2.2.1 (by rw [x1]; decide)).2
  have fT : fr [(597, 597, 0), (598, 598, 0), (602, 602, 0)] t (wI (wI (wI t 597 (ix a) b) 598 (ix a) bx) 602 (ix a) (s.1 15 1 / cI 1440 + cI 3)) := ((fr.rf.wI rfl).wI rfl).wI rfl
  have hBx : RBx (wI (lupd A s) (130 + ix b) (ix bx) a) (wI (wI (wI t 597 (ix a) b) 598 (ix a) bx) 602 (ix a) (s.1 15 1 / cI 1440 + cI 3)) := by
    refine RBx.put (l := b) (b := bx) (i := a) h.2.2.2.2 h2 m3 b2 h1 n3 d2 t597 b3 (by rw [u125]) u127 (fun r hr => ?_) (by rw [u100]) ?_ ?_
    · by_cases z : r = ix b
      · rw [if_pos z, z, wI_c, lupd_ne (by omega)]
      · rw [if_neg z, wI_ne (by omega), lupd_ne (by omega)]
    · simp (disch := decide) only [ix_0, ix_1, ix_2, ix_3, ix_4, ix_5, ix_6, ix_7, ix_8, ix_9, ix_10, ix_11, ix_12, ix_13, ix_14, ix_15, ix_16, ix_17, ix_18, ix_19, ix_20, ix_21, Nat.reduceAdd, wI_c, wI_ne, wL_1, lupd_ne, up1_eq, up1_ne]
    · simp (disch := decide) only [ix_0, ix_1, ix_2, ix_3, ix_4, ix_5, ix_6, ix_7, ix_8, ix_9, ix_10, ix_11, ix_12, ix_13, ix_14, ix_15, ix_16, ix_17, ix_18, ix_19, ix_20, ix_21, Nat.reduceAdd, wI_c, wI_ne, wL_1, lupd_ne, up1_eq, up1_ne]
  obtain ⟨s', t', w1, w2, w3, w4, w5, -, -⟩ := go_h (s := wI (lupd A s) (130 + ix b) (ix bx) a) (t := t) (i := a) (d := cI 3) (x := s.1 15 1 / cI 1440 + cI 3) (l := b) (b := bx) (h.lu.1.keep fS rf_fr (by decide +kernel) (by decide +kernel)) (h.lu.2.1.keep fS rf_fr (by decide +kernel) (by decide +kernel)) ⟨h.lu.2.2.1.keep fS fT (by decide +kernel) (by decide +kernel), h.lu.2.2.2.1.keep fS fT (by decide +kernel) (by decide +kernel), hBx⟩ ((hcu.keep lupd_fr rf_fr (by decide +kernel) (by decide +kernel)).keep fS rf_fr (by decide +kernel) (by decide +kernel)) ((ht.keep lupd_fr rf_fr (by decide +kernel) (by decide +kernel)).keep fS rf_fr (by decide +kernel) (by decide +kernel)) hn9 (by rw [u100]; exact h1) (by rw [u102]; exact x1) (by rw [u15]) ⟨by omega, by omega⟩ (by rw [u125]; have := h2.1; have := h2.2; omega)
  rw [w1, bd1_some] at kC
  have kM2 : fM_doPut t a b = some (t', bx) := by
    rw [kM]
    simp (disch := decide) only [fM_doPut_b131, hc, hb, f2, if_neg nx2, hM.yes, bd1_some, if_true, ltM_eq, fM_today, if_neg (show ¬ cI 1440 = 0 by decide), ix_0, ix_1, ix_2, ix_3, ix_4, ix_5, ix_6, ix_7, ix_8, ix_9, ix_10, ix_11, ix_12, ix_13, ix_14, ix_15, ix_16, ix_17, ix_18, ix_19, ix_20, ix_21, Nat.reduceAdd, wI_c, wI_ne, wL_1, lupd_ne, up1_eq, up1_ne, c1, w2]
  rw [kC, kM2, ok_some, ok_some]
  refine ⟨rfl, Or.inr ⟨?_, rfl, ?_, w3⟩⟩
  · rw [(w5.1 549 15 (by decide +kernel)).1, (fT.1 549 15 (by decide +kernel)).1]; exact h0
  · exact (lgS.fr (F := [(130, 137, 0)] ++ F_Items_keepFor) ((fS.mono (by decide +kernel)).tr (w4.mono (by decide +kernel))) (by decide +kernel) (by decide +kernel)).wI (by decide) (by decide)
def kyf (a : Int32) : Int32 := cI 1000 + irem (iushr ((a + cI 1) * cI 1103515245 + cI 12345) (cI 16)) (cI 9000)
theorem e_keyC {s : ev_M} {a : Int32} : fLock_keyOf s a = some (kyf a) := by
  unfold fLock_keyOf
  rw [if_neg (by decide)]
  rfl
theorem e_keyM {s : ev_M} {a : Int32} : fM_keyOf s a = some (kyf a) := by
  unfold fM_keyOf
  rw [if_neg (by decide)]
  rfl
theorem key_ex : ∃ f : Int32 → Int32, (∀ s a, fLock_keyOf s a = some (f a)) ∧ ∀ s a, fM_keyOf s a = some (f a) := ⟨kyf, fun _ _ => e_keyC, fun _ _ => e_keyM⟩
/-- no box of a locker answers to the key -/
theorem key_end {a : Int32} (h : RV n s t) (hcu : RCu s t) (ht : RTim s t) (hl : RLk s t) (hg : RBg s t) (hn9 : n < 2147483646) (ha : Has a (s.1 125 3)) (h3 : (s.1 128 (ix a)).toInt < 3) : ∃ s' t', wI s 128 (ix a) (s.1 128 (ix a) + cI 1) = s' ∧ wI t 625 (ix a) (s.1 128 (ix a) + cI 1) = t' ∧ RV (n + 1) s' t' ∧ RLk s' t' ∧ fr ([(130, 137, 0), (128, 128, 0)] ++ F_Items_come) s s' ∧ fr ((625, 625, 0) :: (F_M_leaves ++ F_M_comes)) t t' := by
  obtain ⟨⟨m1, m2, m3⟩, k1, k2, k3, d1, d2, d3⟩ := id hl
  have v := ha.ix
  have f2 := k2 _ v
  have f3 := k3 _ v
  have dd := d3 _ v
  have zi : (s.1 128 (ix a) + cI 1).toInt = (s.1 128 (ix a)).toInt + 1 := inc_i (by omega)
  have fA : fr [(128, 128, 0)] s (wI s 128 (ix a) (s.1 128 (ix a) + cI 1)) := fr.rf.wI rfl
  have fB : fr [(625, 625, 0)] t (wI t 625 (ix a) (s.1 128 (ix a) + cI 1)) := fr.rf.wI rfl
  refine ⟨wI s 128 (ix a) (s.1 128 (ix a) + cI 1), wI t 625 (ix a) (s.1 128 (ix a) + cI 1), rfl, rfl, (h.mono (by omega)).kp fA fB (by decide +kernel) (by decide +kernel), ?_, fA.mono (by decide +kernel), fB.mono (by decide +kernel)⟩
  · unfold RLk
    simp (disch := decide) only [ix_0, ix_1, ix_2, ix_3, ix_4, ix_5, ix_6, ix_7, ix_8, ix_9, ix_10, ix_11, ix_12, ix_13, ix_14, ix_15, ix_16, ix_17, ix_18, ix_19, ix_20, ix_21, Nat.reduceAdd, wI_c, wI_ne, wL_1, lupd_ne, up1_eq, up1_ne]
    exact ⟨⟨m1, m2, m3⟩, k1, k2, k3.set rfl, d1, d2, d3.set ⟨by omega, by omega⟩⟩
/-- the item of a box whose key was told -/
theorem key_hit {a j : Int32} (h : RV n s t) (hcu : RCu s t) (ht : RTim s t) (hl : RLk s t) (hg : RBg s t) (hn9 : n < 2147483646) (ha : Has a (s.1 125 3)) (hJ : Has j (s.1 127 (ix a))) (a1 : ¬ s.1 (130 + ix a) (ix j) = cI (-1)) : ∃ s1 t1, fItems_come (wI s (130 + ix a) (ix j) (cI (-1))) (s.1 (130 + ix a) (ix j)) (cI 5) = some s1 ∧ fM_leaves t (s.1 (130 + ix a) (ix j)) = some (lvS t (ix (s.1 (130 + ix a) (ix j)))) ∧ fM_comes (lvS t (ix (s.1 (130 + ix a) (ix j)))) (s.1 (130 + ix a) (ix j)) (cI 5) = some t1 ∧ RV (n + 1) s1 t1 ∧ RLk s1 t1 ∧ fr ([(130, 137, 0), (128, 128, 0)] ++ F_Items_come) s s1 ∧ fr ((625, 625, 0) :: (F_M_leaves ++ F_M_comes)) t t1 := by
  obtain ⟨⟨n1, n2, n3⟩, -⟩ := id h.1.1
  obtain ⟨⟨m1, m2, m3⟩, k1, k2, k3, d1, d2, d3⟩ := id hl
  obtain ⟨w1, w2, w3⟩ := h.2.2.2.2.at n1 n2 n3 ha m3 hJ
  have hI := w2.resolve_left a1
  have hiI := hI.ix
  have me := (w3 _ hiI).mpr (cI_ix hI.1).symm
  have st6 : s.1 102 (ix (s.1 (130 + ix a) (ix j))) = cI 6 := Classical.byContradiction (fun z => by
    have := ((h.1.2.2.2 _ hiI).2.2.1 z).2
    rw [me.1] at this
    have := ha.1
    rw [‹a = cI (-1)›] at this
    exact absurd this (by decide))
  have sx := h.1.2.2.2 _ hiI
  have t593 := sx.1 (by rw [st6]; decide)
  have t595 := sx.2.1 (by rw [st6]; decide)
  have a8 : ix a < 8 := by have := ha.1; have := ha.2; rw [ix_toNat]; omega
  have fS : fr [(130, 137, 0)] s (wI s (130 + ix a) (ix j) (cI (-1))) := fr.rf.wI (inF_row (lo := 130) (hi := 137) rfl (Nat.le_add_right _ _) (by omega))
  have u100 : (wI s (130 + ix a) (ix j) (cI (-1))).1 100 = s.1 100 := wI_ne (by omega)
  have u125 : (wI s (130 + ix a) (ix j) (cI (-1))).1 125 = s.1 125 := wI_ne (by omega)
  have u127 : (wI s (130 + ix a) (ix j) (cI (-1))).1 127 = s.1 127 := wI_ne (by omega)
  have u449 : (wI s (130 + ix a) (ix j) (cI (-1))).1 449 = s.1 449 := wI_ne (by omega)
  have hBx : RBx (wI s (130 + ix a) (ix j) (cI (-1))) (lvS t (ix (s.1 (130 + ix a) (ix j)))) := by
    refine RBx.out (l := a) (b := j) (i := s.1 (130 + ix a) (ix j)) h.2.2.2.2 ha m3 hJ hI n3 d2 rfl (by rw [u125]) u127 (fun r hr => ?_) (by rw [u100]) ?_ ?_
    · by_cases z : r = ix a
      · rw [if_pos z, z, wI_c]
      · rw [if_neg z, wI_ne (by omega)]
    · unfold lvS; simp (disch := decide) only [ix_0, ix_1, ix_2, ix_3, ix_4, ix_5, ix_6, ix_7, ix_8, ix_9, ix_10, ix_11, ix_12, ix_13, ix_14, ix_15, ix_16, ix_17, ix_18, ix_19, ix_20, ix_21, Nat.reduceAdd, wI_c, wI_ne, wL_1, lupd_ne, up1_eq, up1_ne]
    · unfold lvS; simp (disch := decide) only [ix_0, ix_1, ix_2, ix_3, ix_4, ix_5, ix_6, ix_7, ix_8, ix_9, ix_10, ix_11, ix_12, ix_13, ix_14, ix_15, ix_16, ix_17, ix_18, ix_19, ix_20, ix_21, Nat.reduceAdd, wI_c, wI_ne, wL_1, lupd_ne, up1_eq, up1_ne]
  have hRw : RRw (wI s (130 + ix a) (ix j) (cI (-1))) (lvS t (ix (s.1 (130 + ix a) (ix j)))) := (h.2.2.1.lv t595).keep fS rf_fr (by decide +kernel) (by decide +kernel)
  have hBc : RBc (wI s (130 + ix a) (ix j) (cI (-1))) (lvS t (ix (s.1 (130 + ix a) (ix j)))) := by
    have e3 : (lvS t (ix (s.1 (130 + ix a) (ix j)))).1 593 = t.1 593 := by unfold lvS; simp (disch := decide) only [ix_0, ix_1, ix_2, ix_3, ix_4, ix_5, ix_6, ix_7, ix_8, ix_9, ix_10, ix_11, ix_12, ix_13, ix_14, ix_15, ix_16, ix_17, ix_18, ix_19, ix_20, ix_21, Nat.reduceAdd, wI_c, wI_ne, wL_1, lupd_ne, up1_eq, up1_ne]; exact up1_id t593
    have e4 : (lvS t (ix (s.1 (130 + ix a) (ix j)))).1 594 = t.1 594 := by unfold lvS; simp (disch := decide) only [ix_0, ix_1, ix_2, ix_3, ix_4, ix_5, ix_6, ix_7, ix_8, ix_9, ix_10, ix_11, ix_12, ix_13, ix_14, ix_15, ix_16, ix_17, ix_18, ix_19, ix_20, ix_21, Nat.reduceAdd, wI_c, wI_ne, wL_1, lupd_ne, up1_eq, up1_ne]
    have q := h.2.2.2.1.keep fS (rf_fr (s := t)) (by decide +kernel) (by decide +kernel)
    unfold RBc at q ⊢
    rw [e3, e4]
    exact q
  obtain ⟨s1, t1, y1, y2, y3, y4, y5, y6, -⟩ := go_o (c := cI 5) (s := wI s (130 + ix a) (ix j) (cI (-1))) (t := t) (i := s.1 (130 + ix a) (ix j)) (h.1.keep fS rf_fr (by decide +kernel) (by decide +kernel)) (h.2.1.keep fS rf_fr (by decide +kernel) (by decide +kernel)) ⟨hRw, hBc, hBx⟩ (hcu.keep fS rf_fr (by decide +kernel) (by decide +kernel)) (ht.keep fS rf_fr (by decide +kernel) (by decide +kernel)) hn9 (by rw [u100]; exact hI) (by rw [u449]; exact hg.1.2.1) (by rw [u125]; exact m2) (by decide) (by decide) (by decide) (by decide) (fun q => by rcases q with q | q <;> exact absurd q (by decide))
  have fT : fr (F_M_leaves ++ F_M_comes) t t1 := (lvS_fr.mono (by decide +kernel)).tr (y6.mono (by decide +kernel))
  exact ⟨s1, t1, y1, y2, y3, y4, (hl.keep fS rf_fr (by decide +kernel) (by decide +kernel)).keep y5 fT (by decide +kernel) (by decide +kernel), (fS.mono (by decide +kernel)).tr (y5.mono (by decide +kernel)), fT.mono (by decide +kernel)⟩
/-- the boxes of a locker tried with a key, class and reference -/
theorem key_lp {a c : Int32} (h : RV n s t) (hcu : RCu s t) (ht : RTim s t) (hl : RLk s t) (hg : RBg s t) (hn9 : n < 2147483646) (ha : Has a (s.1 125 3)) (h3 : (s.1 128 (ix a)).toInt < 3) (r : Nat) : ∀ (m m' : Nat) (j : Int32), 0 ≤ j.toInt → j.toInt + r = (s.1 127 (ix a)).toInt → r < m → r < m' → ∃ s' t' v, fLock_tryKey_h39 m s a c j = some (s', v) ∧ fM_doBox_h48 m' t a c j = some (t', v) ∧ RV (n + 1) s' t' ∧ RLk s' t' ∧ fr ([(130, 137, 0), (128, 128, 0)] ++ F_Items_come) s s' ∧ fr ((625, 625, 0) :: (F_M_leaves ++ F_M_comes)) t t' := by
  obtain ⟨kf, kC, kM⟩ := key_ex
  obtain ⟨⟨n1, n2, n3⟩, -⟩ := id h.1.1
  obtain ⟨⟨m1, m2, m3⟩, k1, k2, k3, d1, d2, d3⟩ := id hl
  have hc : inb a 8 = true := ha.inb m3
  have v := ha.ix
  have f2 := k2 _ v
  have f3 := k3 _ v
  have dd := d2 _ v
  induction r with
  | zero =>
    intro m m' j j0 j1 hm hm'
    obtain ⟨m, rfl⟩ : ∃ k, m = k + 1 := ⟨m - 1, by omega⟩
    obtain ⟨m', rfl⟩ : ∃ k, m' = k + 1 := ⟨m' - 1, by omega⟩
    have hj : ¬ j < s.1 127 (ix a) := by rw [lt_i]; omega
    obtain ⟨s', t', rfl, rfl, x1⟩ := key_end h hcu ht hl hg hn9 ha h3
    refine ⟨_, _, cI (-1), ?_, ?_, x1⟩
    · rw [fLock_tryKey_h39]
      generalize fLock_keyOf = K at kC ⊢
      simp only [if_pos hc, if_neg hj, ltM_eq]
    · rw [fM_doBox_h48]
      generalize fM_keyOf = K at kM ⊢
      simp only [if_pos hc, f2, if_neg hj, f3, ltM_eq]
  | succ r ih =>
    intro m m' j j0 j1 hm hm'
    obtain ⟨m, rfl⟩ : ∃ k, m = k + 1 := ⟨m - 1, by omega⟩
    obtain ⟨m', rfl⟩ : ∃ k, m' = k + 1 := ⟨m' - 1, by omega⟩
    have hj : j < s.1 127 (ix a) := by rw [lt_i]; omega
    have hi : inb j 10 = true := inb_iff.mpr ⟨j0, by omega⟩
    have et : (j + cI 1).toInt = j.toInt + 1 := inc_i (by omega)
    have hJ : Has j (s.1 127 (ix a)) := ⟨j0, by omega⟩
    obtain ⟨w1, w2, w3⟩ := h.2.2.2.2.at n1 n2 n3 ha m3 hJ
    obtain ⟨s', t', vv, x1, x2, x3⟩ := ih m m' (j + cI 1) (by omega) (by omega) (by omega) (by omega)
    by_cases a1 : s.1 (130 + ix a) (ix j) = cI (-1)
    · refine ⟨s', t', vv, ?_, ?_, x3⟩
      · rw [← x1]
        rw [fLock_tryKey_h39]
        generalize fLock_keyOf = K at kC ⊢
        simp only [fLock_tryKey_b96, if_pos hc, if_pos hj, if_pos hi, a1, ltI_eq, if_true]
      · rw [← x2]
        rw [fM_doBox_h48]
        generalize fM_keyOf = K at kM ⊢
        simp only [fM_doBox_b97, if_pos hc, f2, if_pos hj, w1, bd1_some, a1, if_true]
    · by_cases a2 : kf (s.1 (130 + ix a) (ix j)) = c
      · obtain ⟨s1, t1, y1, y2, y3, y4⟩ := key_hit h hcu ht hl hg hn9 ha hJ a1
        refine ⟨s1, t1, s.1 (130 + ix a) (ix j), ?_, ?_, y4⟩
        · rw [fLock_tryKey_h39]
          generalize fLock_keyOf = K at kC ⊢
          simp only [if_pos hc, if_pos hj, if_pos hi, ltI_eq, if_neg a1, kC, bd1_some, if_pos a2, ltM_eq, y1]
        · rw [fM_doBox_h48]
          generalize fM_keyOf = K at kM ⊢
          simp only [if_pos hc, f2, if_pos hj, w1, bd1_some, if_neg a1, kM, if_pos a2, y2, y3]
      · refine ⟨s', t', vv, ?_, ?_, x3⟩
        · rw [← x1]
          rw [fLock_tryKey_h39]
          generalize fLock_keyOf = K at kC ⊢
          simp only [fLock_tryKey_b96, if_pos hc, if_pos hj, if_pos hi, ltI_eq, if_neg a1, kC, bd1_some, if_neg a2]
        · rw [← x2]
          rw [fM_doBox_h48]
          generalize fM_keyOf = K at kM ⊢
          simp only [fM_doBox_b97, if_pos hc, f2, if_pos hj, w1, bd1_some, if_neg a1, kM, if_neg a2]
theorem a_key {a c : Int32} (hA : AdmC s F A) (hM : FulM t F) (h0 : t.1 549 15 = 0) (h : RV n s t) (hcu : RCu s t) (ht : RTim s t) (hl : RLk s t) (hg : RBg s t) (hn9 : n < 2147483646) : Ok (fLock_tryKey s a c) fun x => Ok (fM_doBox t a c) fun y => AP (fun s t => RV n s t ∧ RLk s t) (fun s t => RV (n + 1) s t ∧ RLk s t) F A s x y := by
  obtain ⟨⟨m1, m2, m3⟩, k1, k2, k3, d1, d2, d3⟩ := id hl
  have hn : (fun s t => RV n s t ∧ RLk s t) s (wI t 549 15 (cI 1)) := ⟨h.no, hl.keep rf_fr no_fr rfl rfl⟩
  by_cases h1 : Has a (s.1 125 3)
  rotate_left
  · exact sim_no (c := cI (-101)) (by simp only [fLock_tryKey_b96, fLock_tryKey, fM_doBox_b97, fM_doBox, e_lockHas m2, e_isLocker (by rw [m1]; exact m2), m1, ltM_eq, ltI_eq, ltL_eq, bd1_some, bd2_some, ite_bI, if_true, if_false, ite_true, ite_false, eq_self, not_true_eq_false, not_false_eq_true, i10, outside_eq, in_eq, no_eq, eq_false h1]) (by simp only [fLock_tryKey_b96, fLock_tryKey, fM_doBox_b97, fM_doBox, e_lockHas m2, e_isLocker (by rw [m1]; exact m2), m1, ltM_eq, ltI_eq, ltL_eq, bd1_some, bd2_some, ite_bI, if_true, if_false, ite_true, ite_false, eq_self, not_true_eq_false, not_false_eq_true, i10, outside_eq, in_eq, no_eq, eq_false h1]) hn
  have hc : inb a 8 = true := h1.inb m3
  have v := h1.ix
  have f3 := k3 _ v
  have dd := d2 _ v
  by_cases h3 : s.1 128 (ix a) < cI 3
  rotate_left
  · exact sim_no (c := cI (-115)) (by simp only [fLock_tryKey, e_lockHas m2, ltM_eq, ltI_eq, ltL_eq, bd1_some, bd2_some, ite_bI, if_true, if_false, ite_true, ite_false, eq_self, not_true_eq_false, not_false_eq_true, i10, hc, eq_true h1, eq_false h3]) (by simp only [fM_doBox, e_isLocker (show 0 ≤ (t.1 549 107).toInt by rw [m1]; exact m2), m1, ltM_eq, ltI_eq, ltL_eq, bd1_some, bd2_some, ite_bI, if_true, if_false, ite_true, ite_false, eq_self, not_true_eq_false, not_false_eq_true, i10, no_eq, hc, eq_true h1, f3, eq_false h3]) hn
  by_cases hF : F = true
  · subst hF
    exact sim_no (c := cI (-104)) (by simp only [fLock_tryKey, e_lockHas m2, ltM_eq, ltI_eq, ltL_eq, bd1_some, bd2_some, ite_bI, if_true, if_false, ite_true, ite_false, eq_self, not_true_eq_false, not_false_eq_true, i10, hc, eq_true h1, eq_true h3, hA.no]) (by simp only [fM_doBox, e_isLocker (show 0 ≤ (t.1 549 107).toInt by rw [m1]; exact m2), m1, ltM_eq, ltI_eq, ltL_eq, bd1_some, bd2_some, ite_bI, if_true, if_false, ite_true, ite_false, eq_self, not_true_eq_false, not_false_eq_true, i10, no_eq, hc, eq_true h1, f3, eq_true h3, hM.no]) hn
  have hF2 : F = false := by cases F <;> simp_all
  subst hF2
  have u128 : (lupd A s).1 128 = s.1 128 := lupd_ne (Or.inr (by decide))
  have u127 : (lupd A s).1 127 = s.1 127 := lupd_ne (Or.inr (by decide))
  have u125 : (lupd A s).1 125 = s.1 125 := lupd_ne (Or.inr (by decide))
  obtain ⟨s', t', vv, x1, x2, x3, x4, x5, x6⟩ := key_lp (s := lupd A s) (t := t) (a := a) (c := c) h.lu (hcu.keep lupd_fr rf_fr (by decide +kernel) (by decide +kernel)) (ht.keep lupd_fr rf_fr (by decide +kernel) (by decide +kernel)) (hl.keep lupd_fr rf_fr (by decide +kernel) (by decide +kernel)) (hg.keep lupd_fr rf_fr (by decide +kernel) (by decide +kernel)) hn9 (by rw [u125]; exact h1) (by rw [u128]; exact lt_n h3) (ix (s.1 127 (ix a))) 1048576 1048576 (cI 0) (by decide) (by rw [u127, ix_toNat, show (cI 0).toInt = 0 from rfl]; omega) (by rw [ix_toNat]; omega) (by rw [ix_toNat]; omega)
  simp only [fLock_tryKey, e_lockHas m2, fM_doBox, e_isLocker (show 0 ≤ (t.1 549 107).toInt by rw [m1]; exact m2), m1, ltM_eq, ltI_eq, ltL_eq, bd1_some, bd2_some, ite_bI, if_true, if_false, ite_true, ite_false, eq_self, not_true_eq_false, not_false_eq_true, i10, no_eq, hc, eq_true h1, f3, eq_true h3, hA.yes, hM.yes, x1, x2, ok_some]
  exact ⟨rfl, Or.inr ⟨by rw [(x6.1 549 15 (by decide +kernel)).1]; exact h0, rfl, lgS.fr x5 (by decide +kernel) (by decide +kernel), x3, x4⟩⟩
end
