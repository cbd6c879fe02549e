/-! ===== LEVEL 3: the acts miss and refuse ===== -/
theorem wI_self {s : ev_M} {c k : Nat} {x : Int32} (h : s.1 c k = x) : wI s c k x = s := by
  refine Prod.ext (funext fun a => ?_) rfl
  by_cases e : a = c
  · rw [e, wI_c, up1_id h]
  · rw [wI_ne e]
theorem lvS_two {F : List (Nat × (Nat × Nat))} {s t : ev_M} {k : Nat} (h : fr F s t) : fr F (lvS s k) (lvS t k) := h.two.two.two.two.two
section
variable {s t : ev_M} {n k : Nat}
theorem RIr.bk {x : Int32} (h : RIr s t) (hp : 0 ≤ x.toInt ∧ x.toInt ≤ 1) : RIr (wI s 112 k x) (wI t 599 k x) := by
  obtain ⟨g1, g2, g3, g4, g5, g6, g7, b1, b2, b3, b4, b5, b6, b7⟩ := h
  unfold RIr
  simp (disch := decide) only [ix_0, ix_1, ix_2, ix_3, ix_4, ix_5, ix_6, ix_7, ix_8, ix_9, ix_10, ix_11, ix_12, ix_13, ix_14, ix_15, ix_16, ix_17, ix_18, ix_19, ix_20, ix_21, Nat.reduceAdd, wI_c, wI_ne, wL_1, lupd_ne, up1_eq, up1_ne]
  exact ⟨g1, g2, g3.set rfl, g4, g5, g6, g7, b1, b2, b3.set hp, b4, b5, b6, b7⟩
theorem RSx.bk {x : Int32} (h : RSx s t) (ha : ¬ s.1 109 k = cI (-1)) : RSx (wI s 112 k x) (wI t 599 k x) := by
  unfold RSx at h ⊢
  simp (disch := decide) only [ix_0, ix_1, ix_2, ix_3, ix_4, ix_5, ix_6, ix_7, ix_8, ix_9, ix_10, ix_11, ix_12, ix_13, ix_14, ix_15, ix_16, ix_17, ix_18, ix_19, ix_20, ix_21, Nat.reduceAdd, wI_c, wI_ne, wL_1, lupd_ne, up1_eq, up1_ne]
  intro i hi
  obtain ⟨h1, h2, h3, h4, h5⟩ := h i hi
  refine ⟨h1, h2, h3, fun q => ?_, h5⟩
  by_cases z : i = k
  · rw [z]; exact ha
  · rw [up1_ne z] at q
    exact h4 q
/-- an item goes back, or is dead if it was going back -/
theorem go_back {i : Int32} (h : RXq n s t) (e : RN n s t) (b : RB s (lvS t (ix i))) (hcu : RCu s t) (ht : RTim s t) (hn : n < 2147483646) (hi : Has i (s.1 100 5)) (z1 : 0 ≤ (s.1 449 6).toInt) (z2 : 0 ≤ (s.1 125 3).toInt) (ha : ¬ s.1 109 (ix i) = cI (-1)) : ∃ s' t' c, fItems_goBack s i = some (s', c) ∧ fM_goesBack t i = some (t', c) ∧ RV (n + 1) s' t' ∧ fr F_Items_goBack s s' ∧ fr F_M_goesBack t t' := by
  obtain ⟨q1, q2, q3, q4⟩ := id h
  have hb : inb i 300 = true := hi.inb q1.1.2.2
  have w := hi.ix
  obtain ⟨g1, -, g3, -, -, -, -, c1, -, c3, -⟩ := id q2
  have e3 := g3 _ w
  have d3 := c3 _ w
  by_cases z : s.1 112 (ix i) = cI 1
  · have z0 : ¬ t.1 599 (ix i) = 0 := by rw [e3, z]; decide
    obtain ⟨s', t', w1, w2, w3, w4, w5, w6, w7⟩ := go_o (c := cI 7) h e b hcu ht hn hi z1 z2 (by decide) (by decide) (by decide) (by decide) (fun q => by rcases q with q | q <;> exact absurd q (by decide))
    have k1 : fItems_goBack s i = some (s', cI 7) := by
      simp only [fItems_goBack, if_pos hb, ix_0, ix_10, Nat.add_zero, Nat.reduceAdd, if_pos z, fItems_goBack_b18, ltM_eq, wI_self z, if_neg (show ¬ cI 1 = 0 by decide), fItems_goBack_b41, w1, bd1_some, w7, up1_eq]
    have k2 : fM_goesBack t i = some (t', cI 7) := by
      simp only [fM_goesBack, if_pos hb, if_neg z0, w2, bd1_some, w3]
    exact ⟨s', t', cI 7, k1, k2, w4, fr_fItems_goBack k1, fr_fM_goesBack k2⟩
  · have z9 : s.1 112 (ix i) = 0 := by
      have z3 : ¬ (s.1 112 (ix i)).toInt = 1 := fun u => z (by rw [eq_i]; exact u)
      rw [eq_i, i32_0]; omega
    have z0 : t.1 599 (ix i) = 0 := by rw [e3, z9]
    have f1 : fr [(112, 112, 0)] s (wI s 112 (ix i) (cI 1)) := fr.rf.wI rfl
    have f2 : fr [(599, 599, 0)] t (wI t 599 (ix i) (cI 1)) := fr.rf.wI rfl
    obtain ⟨s', t', w1, w2, w3, w4, w5, w6⟩ := go_in (s := wI s 112 (ix i) (cI 1)) (t := wI t 599 (ix i) (cI 1)) (p := s.1 110 (ix i)) (i := i) ⟨q1.keep f1 f2 rfl rfl, q2.bk (by decide), q3.keep f1 f2 rfl rfl, q4.bk ha⟩ (e.keep f1 f2 rfl rfl) (b.keep f1 (lvS_two f2) (by decide +kernel) (by decide +kernel)) (hcu.keep f1 f2 rfl rfl) (ht.keep f1 f2 rfl rfl) hn (by simp (disch := decide) only [ix_0, ix_1, ix_2, ix_3, ix_4, ix_5, ix_6, ix_7, ix_8, ix_9, ix_10, ix_11, ix_12, ix_13, ix_14, ix_15, ix_16, ix_17, ix_18, ix_19, ix_20, ix_21, Nat.reduceAdd, wI_c, wI_ne, wL_1, lupd_ne, up1_eq, up1_ne]; exact hi) (by simp (disch := decide) only [ix_0, ix_1, ix_2, ix_3, ix_4, ix_5, ix_6, ix_7, ix_8, ix_9, ix_10, ix_11, ix_12, ix_13, ix_14, ix_15, ix_16, ix_17, ix_18, ix_19, ix_20, ix_21, Nat.reduceAdd, wI_c, wI_ne, wL_1, lupd_ne, up1_eq, up1_ne]; exact z1) (by simp (disch := decide) only [ix_0, ix_1, ix_2, ix_3, ix_4, ix_5, ix_6, ix_7, ix_8, ix_9, ix_10, ix_11, ix_12, ix_13, ix_14, ix_15, ix_16, ix_17, ix_18, ix_19, ix_20, ix_21, Nat.reduceAdd, wI_c, wI_ne, wL_1, lupd_ne, up1_eq, up1_ne]; exact z2) (by simp (disch := decide) only [ix_0, ix_1, ix_2, ix_3, ix_4, ix_5, ix_6, ix_7, ix_8, ix_9, ix_10, ix_11, ix_12, ix_13, ix_14, ix_15, ix_16, ix_17, ix_18, ix_19, ix_20, ix_21, Nat.reduceAdd, wI_c, wI_ne, wL_1, lupd_ne, up1_eq, up1_ne]; exact c1 _ w)
    have s110 : (wI s 112 (ix i) (cI 1)).1 110 = s.1 110 := wI_ne (by decide)
    have t591 : (wI t 599 (ix i) (cI 1)).1 591 (ix i) = s.1 110 (ix i) := by rw [wI_ne (by decide)]; exact g1 _ w
    simp only [fItems_comeInAt, if_pos hb, ix_8, Nat.reduceAdd, ltM_eq, bd1_eta] at w1
    rw [wI_self (by rw [s110])] at w1
    have k1 : fItems_goBack s i = some (s', cI 1) := by
      simp only [fItems_goBack, if_pos hb, ix_0, ix_10, Nat.add_zero, Nat.reduceAdd, if_neg z, fItems_goBack_b18, ltM_eq, if_pos (show cI 0 = 0 from rfl), fItems_goBack_b41, w1, bd1_some, w6, up1_eq]
    have k2 : fM_goesBack t i = some (t', cI 1) := by
      simp only [fM_goesBack, if_pos hb, if_pos z0, show cI 1 &&& 1 = cI 1 by decide, ltM_eq, t591, w2, bd1_some]
    exact ⟨s', t', cI 1, k1, k2, w3, fr_fItems_goBack k1, fr_fM_goesBack k2⟩
/-- an item is kept: what it does to the items' facts -/
theorem RXq.h {x l b : Int32} (h : RXq n s t) (hk : k < ix (s.1 100 5)) (h4 : s.1 102 k = cI 4) (hx : -1 ≤ x.toInt ∧ x.toInt ≤ 1000000) (hl : -1 ≤ l.toInt ∧ l.toInt ≤ (s.1 125 3).toInt - 1) : RXq n (wI (wI (cmH s k) 116 k x) 117 k l) (wI (wI (wI (wI t 597 k l) 598 k b) 602 k x) 583 k (cI 6)) := by
  obtain ⟨q1, q2, q3, q4⟩ := h
  have o1 := (q4 k hk).1 (by rw [h4]; decide)
  have o2 := (q4 k hk).2.1 (by rw [h4]; decide)
  have o3 : s.1 111 k = cI (-1) := by rw [← q2.2.1 k hk]; exact o1
  refine ⟨?_, ?_, ?_, ?_⟩
  · exact (q1.st (k := k) (c := cI 6) (by decide)).keep (F := [(111, 111, 0), (116, 116, 0), (117, 117, 0)]) (G := [(597, 597, 0), (598, 598, 0), (602, 602, 0)]) (((fr.rf.wI rfl).wI rfl).wI rfl) (fr.two (((fr.rf.wI rfl).wI rfl).wI rfl)) rfl rfl
  · obtain ⟨g1, g2, g3, g4, g5, g6, g7, b1, b2, b3, b4, b5, b6, b7⟩ := q2
    unfold RIr cmH
    simp (disch := decide) only [ix_0, ix_1, ix_2, ix_3, ix_4, ix_5, ix_6, ix_7, ix_8, ix_9, ix_10, ix_11, ix_12, ix_13, ix_14, ix_15, ix_16, ix_17, ix_18, ix_19, ix_20, ix_21, Nat.reduceAdd, wI_c, wI_ne, wL_1, lupd_ne, up1_eq, up1_ne, up1_id o3]
    exact ⟨g1, g2, g3, g4, g5.set rfl, g6.set rfl, g7, b1, b2, b3, b4, b5.set hx, b6.set hl, b7⟩
  · exact q3.keep (F := [(102, 102, 0), (111, 111, 0), (116, 116, 0), (117, 117, 0)]) (G := [(597, 597, 0), (598, 598, 0), (602, 602, 0), (583, 583, 0)]) ((((fr.rf.wI rfl).wI rfl).wI rfl).wI rfl) ((((fr.rf.wI rfl).wI rfl).wI rfl).wI rfl) rfl rfl
  · unfold RSx at q4 ⊢
    unfold cmH
    simp (disch := decide) only [ix_0, ix_1, ix_2, ix_3, ix_4, ix_5, ix_6, ix_7, ix_8, ix_9, ix_10, ix_11, ix_12, ix_13, ix_14, ix_15, ix_16, ix_17, ix_18, ix_19, ix_20, ix_21, Nat.reduceAdd, wI_c, wI_ne, wL_1, lupd_ne, up1_eq, up1_ne]
    intro i hi
    by_cases z : i = k
    · rw [z]
      simp only [up1_eq]
      exact ⟨fun _ => o1, fun _ => o2, fun w => absurd rfl w, fun _ => (q4 k hk).2.2.2.1 (Or.inr (Or.inl h4)), fun w => absurd w (by decide), fun w => absurd w (by decide)⟩
    · simp only [up1_ne z]
      exact q4 i hi
theorem go_h {i d x l b : Int32} (h : RXq n s t) (e : RN n s t) (hB : RB s (wI (wI (wI t 597 (ix i) l) 598 (ix i) b) 602 (ix i) x)) (hcu : RCu s t) (ht : RTim s t) (hn : n < 2147483646) (hi : Has i (s.1 100 5)) (h4 : s.1 102 (ix i) = cI 4) (ex : x = s.1 15 1 / cI 1440 + d) (hx : -1 ≤ x.toInt ∧ x.toInt ≤ 1000000) (hl : -1 ≤ l.toInt ∧ l.toInt ≤ (s.1 125 3).toInt - 1) : ∃ s' t', fItems_keepFor s i d = some s' ∧ fM_comes (wI (wI (wI t 597 (ix i) l) 598 (ix i) b) 602 (ix i) x) i (cI 6) = some t' ∧ RV (n + 1) (wI s' 117 (ix i) l) t' ∧ fr F_Items_keepFor s s' ∧ fr F_M_comes (wI (wI (wI t 597 (ix i) l) 598 (ix i) b) 602 (ix i) x) t' ∧ s'.1 116 (ix i) = x ∧ s'.1 117 (ix i) = s.1 117 (ix i) := by
  obtain ⟨q1, q2, q3, q4⟩ := id h
  obtain ⟨⟨n1, n2, n3⟩, -, -, -, -, g5, -, -, -, -, -, -, -, -, b5, -⟩ := id q1
  have hb : inb i 300 = true := hi.inb n3
  have w := hi.ix
  have a1 := b5 _ w
  have a2 := g5 _ w
  have a3 := q2.1 _ w
  have f1 : fr [(102, 102, 0), (111, 111, 0)] s (cmH s (ix i)) := (fr.rf.wI rfl).wI rfl
  have f2 : fr [(597, 597, 0), (598, 598, 0), (602, 602, 0)] t (wI (wI (wI t 597 (ix i) l) 598 (ix i) b) 602 (ix i) x) := ((fr.rf.wI rfl).wI rfl).wI rfl
  have g5' : (cmH s (ix i)).1 100 = s.1 100 := (nof_c f1 (L := [(100, 0)]) rfl (c := 100) rfl).1
  have g78 : (cmH s (ix i)).1 78 = s.1 78 := (nof_c f1 (L := [(78, 0)]) rfl (c := 78) rfl).1
  have g106 : (cmH s (ix i)).1 106 = s.1 106 := (nof_c f1 (L := [(106, 0)]) rfl (c := 106) rfl).1
  have g110 : (cmH s (ix i)).1 110 = s.1 110 := (nof_c f1 (L := [(110, 0)]) rfl (c := 110) rfl).1
  obtain ⟨s', t', w1, w2, w3, w4, w5, w6⟩ := hap (n := n) (s := cmH s (ix i)) (t := wI (wI (wI t 597 (ix i) l) 598 (ix i) b) 602 (ix i) x) (i := i) (c := cI 6) (ac := s.1 106 (ix i)) (pl := s.1 110 (ix i)) (e.1.keep f1 f2 rfl rfl) (e.2.keep f1 f2 rfl rfl) (hcu.keep f1 f2 rfl rfl) (ht.keep f1 f2 rfl rfl) hn (by rw [g5']; exact hi) (by rw [g5']; exact n3) (by rw [g106]) (by simp (disch := decide) only [ix_0, ix_1, ix_2, ix_3, ix_4, ix_5, ix_6, ix_7, ix_8, ix_9, ix_10, ix_11, ix_12, ix_13, ix_14, ix_15, ix_16, ix_17, ix_18, ix_19, ix_20, ix_21, Nat.reduceAdd, wI_c, wI_ne, wL_1, lupd_ne, up1_eq, up1_ne]; exact a2) (by rw [g78]; exact ⟨a1.1, by omega⟩) (by simp (disch := decide) only [ix_0, ix_1, ix_2, ix_3, ix_4, ix_5, ix_6, ix_7, ix_8, ix_9, ix_10, ix_11, ix_12, ix_13, ix_14, ix_15, ix_16, ix_17, ix_18, ix_19, ix_20, ix_21, Nat.reduceAdd, wI_c, wI_ne, wL_1, lupd_ne, up1_eq, up1_ne]; exact a3) (by decide)
  have c1 : fItems_come s i (cI 6) = some s' := by
    rw [e_comeH hb, g106, g110]; exact w1
  have u0 := fr_fItems_come c1
  have s15 : s'.1 15 1 = s.1 15 1 := (u0.1 15 1 rfl).1
  have c2 : fItems_keepFor s i d = some (wI s' 116 (ix i) x) := by
    simp only [fItems_keepFor, c1, bd1_some, fChron_today, if_neg (show ¬ cI 1440 = 0 by decide), if_pos hb, ix_14, Nat.reduceAdd, ltM_eq, s15, ex]
  have v1 : RXq n (wI (wI s' 116 (ix i) x) 117 (ix i) l) t' := (h.h (b := b) w h4 hx hl).keep w5.two.two w6 (by decide +kernel) (by decide +kernel)
  have u3 : fr [(15, 15, 3), (15, 15, 8), (17, 17, 0), (18, 18, 0), (19, 19, 0), (20, 20, 0), (21, 21, 0), (22, 22, 0), (24, 24, 0), (25, 25, 0), (26, 26, 0), (27, 27, 0), (100, 100, 7), (102, 102, 0), (111, 111, 0), (116, 116, 0), (117, 117, 0), (119, 119, 0)] s (wI (wI s' 116 (ix i) x) 117 (ix i) l) := ((u0.mono (by decide +kernel)).wI rfl).wI rfl
  have u4 : fr [(116, 116, 0), (117, 117, 0)] s' (wI (wI s' 116 (ix i) x) 117 (ix i) l) := (fr.rf.wI rfl).wI rfl
  refine ⟨wI s' 116 (ix i) x, t', c2, w2, ⟨⟨v1.1, v1.2.1, v1.2.2.1.up, v1.2.2.2⟩, ⟨w3.keep u4 rf_fr rfl rfl, w4.keep u4 rf_fr rfl rfl⟩, hB.keep u3 (fr_fM_comes w2) (by decide +kernel) (by decide +kernel)⟩, fr_fItems_keepFor c2, fr_fM_comes w2, ?_, ?_⟩
  · simp (disch := decide) only [ix_0, ix_1, ix_2, ix_3, ix_4, ix_5, ix_6, ix_7, ix_8, ix_9, ix_10, ix_11, ix_12, ix_13, ix_14, ix_15, ix_16, ix_17, ix_18, ix_19, ix_20, ix_21, Nat.reduceAdd, wI_c, wI_ne, wL_1, lupd_ne, up1_eq, up1_ne]
  · rw [wI_ne (by decide), (nof_c w5 (L := [(117, 0)]) rfl (c := 117) rfl).1]
    unfold cmH
    simp (disch := decide) only [ix_0, ix_1, ix_2, ix_3, ix_4, ix_5, ix_6, ix_7, ix_8, ix_9, ix_10, ix_11, ix_12, ix_13, ix_14, ix_15, ix_16, ix_17, ix_18, ix_19, ix_20, ix_21, Nat.reduceAdd, wI_c, wI_ne, wL_1, lupd_ne, up1_eq, up1_ne]
end
section
variable {s t : ev_M} {F : Bool} {A : Nat → Nat → Int32} {n : Nat}
/-- an item that is out or IN or told lies in nothing -/
theorem RV.c117 (h : RV n s t) {i : Int32} (hi : Has i (s.1 100 5)) (h6 : ¬ s.1 102 (ix i) = cI 6) : s.1 117 (ix i) = cI (-1) := by
  have := ((h.1.2.2.2 _ hi.ix).2.2.1 h6).2
  rw [h.1.2.1.2.2.2.2.2.1 _ hi.ix] at this
  exact this
theorem a_miss {a : Int32} (hA : AdmC s F A) (hM : FulM t F) (h0 : t.1 549 15 = 0) (h : RV n s t) (hcu : RCu s t) (ht : RTim s t) (hl : RLk s t) (hn9 : n < 2147483646) : Ok (fItems_missAtDoor s a) fun x => Ok (fM_doMiss t a) fun y => AP (RV n) (RV (n + 1)) F A s x y := by
  obtain ⟨⟨n1, n2, n3⟩, g1, -⟩ := id h.1.1
  obtain ⟨⟨c1, c2⟩, -⟩ := id ht
  have hn : RV n s (wI t 549 15 (cI 1)) := h.no
  have z0 : ¬ cI 1440 = 0 := by decide
  by_cases h1 : Has a (s.1 100 5)
  rotate_left
  · exact sim_no (c := cI (-101)) (by simp only [fItems_missAtDoor, fM_doMiss, e_itemsHas n2, e_isItem (by rw [n1]; exact n2), n1, fM_today, if_neg z0, c1, ltM_eq, ltI_eq, ltL_eq, bd1_some, bd2_some, ite_bI, if_true, if_false, ite_true, ite_false, eq_self, not_true_eq_false, not_false_eq_true, i10, outside_eq, in_eq, no_eq, eq_false h1]) (by simp only [fItems_missAtDoor, fM_doMiss, e_itemsHas n2, e_isItem (by rw [n1]; exact n2), n1, fM_today, if_neg z0, c1, ltM_eq, ltI_eq, ltL_eq, bd1_some, bd2_some, ite_bI, if_true, if_false, ite_true, ite_false, eq_self, not_true_eq_false, not_false_eq_true, i10, outside_eq, in_eq, no_eq, eq_false h1]) hn
  have hb : inb a 300 = true := h1.inb n3
  have hi := h1.ix
  have e1 := g1 _ hi
  have z00 : cI 0 = 0 := rfl
  have z10 : ¬ cI 1 = 0 := by decide
  by_cases h3 : s.1 102 (ix a) = cI 4
  rotate_left
  · exact sim_no (c := cI (-103)) (by simp only [fItems_missAtDoor, fM_doMiss, e_itemsHas n2, e_isItem (by rw [n1]; exact n2), n1, fM_today, if_neg z0, c1, ltM_eq, ltI_eq, ltL_eq, bd1_some, bd2_some, ite_bI, if_true, if_false, ite_true, ite_false, eq_self, not_true_eq_false, not_false_eq_true, i10, outside_eq, in_eq, no_eq, eq_true h1, fItems_is, hb, ix_0, ix_1, ix_2, ix_3, ix_4, ix_5, ix_6, ix_7, ix_8, ix_9, ix_10, ix_11, ix_12, ix_13, ix_14, ix_15, ix_16, ix_17, ix_18, ix_19, ix_20, ix_21, Nat.reduceAdd, wI_c, wI_ne, wL_1, lupd_ne, up1_eq, up1_ne, eq_false h3, eq_true z00]) (by simp only [fItems_missAtDoor, fM_doMiss, e_itemsHas n2, e_isItem (by rw [n1]; exact n2), n1, fM_today, if_neg z0, c1, ltM_eq, ltI_eq, ltL_eq, bd1_some, bd2_some, ite_bI, if_true, if_false, ite_true, ite_false, eq_self, not_true_eq_false, not_false_eq_true, i10, outside_eq, in_eq, no_eq, eq_true h1, hb, e1, eq_false h3]) hn
  by_cases hF : F = true
  · subst hF
    exact sim_no (c := cI (-104)) (by simp only [fItems_missAtDoor, fM_doMiss, e_itemsHas n2, e_isItem (by rw [n1]; exact n2), n1, fM_today, if_neg z0, c1, ltM_eq, ltI_eq, ltL_eq, bd1_some, bd2_some, ite_bI, if_true, if_false, ite_true, ite_false, eq_self, not_true_eq_false, not_false_eq_true, i10, outside_eq, in_eq, no_eq, eq_true h1, fItems_is, hb, ix_0, ix_1, ix_2, ix_3, ix_4, ix_5, ix_6, ix_7, ix_8, ix_9, ix_10, ix_11, ix_12, ix_13, ix_14, ix_15, ix_16, ix_17, ix_18, ix_19, ix_20, ix_21, Nat.reduceAdd, wI_c, wI_ne, wL_1, lupd_ne, up1_eq, up1_ne, eq_true h3, eq_false z10, hA.no]) (by simp only [fItems_missAtDoor, fM_doMiss, e_itemsHas n2, e_isItem (by rw [n1]; exact n2), n1, fM_today, if_neg z0, c1, ltM_eq, ltI_eq, ltL_eq, bd1_some, bd2_some, ite_bI, if_true, if_false, ite_true, ite_false, eq_self, not_true_eq_false, not_false_eq_true, i10, outside_eq, in_eq, no_eq, eq_true h1, hb, e1, eq_true h3, hM.no]) hn
  have hF2 : F = false := by cases F <;> simp_all
  subst hF2
  have h117 := h.c117 h1 (by rw [h3]; decide)
  obtain ⟨k1, k2, k3⟩ := day_b c2
  have ex7 : (s.1 15 1 / cI 1440 + cI 7).toInt = (s.1 15 1 / cI 1440).toInt + 7 := by
    rw [add_toInt (by rw [show (cI 7).toInt = 7 from rfl]; omega) (by rw [show (cI 7).toInt = 7 from rfl]; omega)]
    rfl
  have t597 : t.1 597 (ix a) = cI (-1) := by rw [h.1.2.1.2.2.2.2.2.1 _ hi]; exact h117
  have t598 : t.1 598 (ix a) = cI (-1) := by
    rcases h.2.2.2.2.2.1 _ hi with z | z
    · exact z.2
    · have := z.1.1
      rw [t597] at this
      exact absurd this (by decide)
  have et : wI (wI t 597 (ix a) (cI (-1))) 598 (ix a) (cI (-1)) = t := by
    rw [wI_self t597, wI_self t598]
  have s15 : (lupd A s).1 15 = s.1 15 := lupd_ne (Or.inr (by decide))
  have s102 : (lupd A s).1 102 = s.1 102 := lupd_ne (Or.inr (by decide))
  have s100 : (lupd A s).1 100 = s.1 100 := lupd_ne (Or.inr (by decide))
  have s117 : (lupd A s).1 117 = s.1 117 := lupd_ne (Or.inr (by decide))
  have s125 : (lupd A s).1 125 = s.1 125 := lupd_ne (Or.inr (by decide))
  have hl2 := hl.1.2.1
  obtain ⟨s', t', w1, w2, w3, w4, w5, w6, w7⟩ := go_h (s := lupd A s) (t := t) (i := a) (d := cI 7) (x := s.1 15 1 / cI 1440 + cI 7) (l := cI (-1)) (b := cI (-1)) h.lu.1 h.lu.2.1 (by
    rw [et]
    exact h.lu.2.2.keep rf_fr (G := [(602, 602, 0)]) (fr.rf.wI rfl) (by decide +kernel) (by decide +kernel)) (hcu.keep lupd_fr rf_fr rfl rfl) (ht.keep lupd_fr rf_fr rfl rfl) hn9 (by rw [s100]; exact h1) (by rw [s102]; exact h3) (by rw [s15]) ⟨by omega, by omega⟩ (by rw [s125]; exact ⟨by decide, by show (-1 : Int) ≤ _; omega⟩)
  rw [et] at w2 w5
  rw [wI_self (by rw [w7, s117]; exact h117)] at w3
  have t602 : t'.1 602 (ix a) = s.1 15 1 / cI 1440 + cI 7 := by
    rw [(nof_c w5 (L := [(602, 0)]) rfl (c := 602) rfl).1, wI_c, up1_eq]
  simp only [fItems_missAtDoor, fM_doMiss, e_itemsHas n2, e_isItem (by rw [n1]; exact n2), n1, fM_today, if_neg z0, c1, ltM_eq, ltI_eq, ltL_eq, bd1_some, bd2_some, ite_bI, if_true, if_false, ite_true, ite_false, eq_self, not_true_eq_false, not_false_eq_true, i10, outside_eq, in_eq, no_eq, eq_true h1, fItems_is, hb, ix_0, ix_1, ix_2, ix_3, ix_4, ix_5, ix_6, ix_7, ix_8, ix_9, ix_10, ix_11, ix_12, ix_13, ix_14, ix_15, ix_16, ix_17, ix_18, ix_19, ix_20, ix_21, Nat.reduceAdd, wI_c, wI_ne, wL_1, lupd_ne, up1_eq, up1_ne, eq_true h3, e1, eq_false z10, hA.yes, hM.yes, w1, w2, w6, t602, ok_some]
  refine ⟨rfl, Or.inr ⟨?_, rfl, lgS.fr w4 (by decide +kernel) (by decide), w3⟩⟩
  rw [(w5.1 549 15 rfl).1, wI_ne (by decide)]; exact h0
theorem a_refuse {a : Int32} (hA : AdmC s F A) (hM : FulM t F) (h0 : t.1 549 15 = 0) (h : RV n s t) (hcu : RCu s t) (ht : RTim s t) (hg : RBg s t) (hl : RLk s t) (hn9 : n < 2147483646) : Ok (fItems_refuseItem s a) fun x => Ok (fM_doRefuse t a) fun y => AP (RV n) (RV (n + 1)) F A s x y := by
  obtain ⟨⟨n1, n2, n3⟩, g1, -⟩ := id h.1.1
  have hn : RV n s (wI t 549 15 (cI 1)) := h.no
  by_cases h1 : Has a (s.1 100 5)
  rotate_left
  · exact sim_no (c := cI (-101)) (by simp only [fItems_refuseItem_b31, fItems_refuseItem, fM_doRefuse_b46, fM_doRefuse_b53, fM_doRefuse, e_itemsHas n2, e_isItem (by rw [n1]; exact n2), n1, ltM_eq, ltI_eq, ltL_eq, bd1_some, bd2_some, ite_bI, if_true, if_false, ite_true, ite_false, eq_self, not_true_eq_false, not_false_eq_true, i10, outside_eq, in_eq, no_eq, eq_false h1]) (by simp only [fItems_refuseItem_b31, fItems_refuseItem, fM_doRefuse_b46, fM_doRefuse_b53, fM_doRefuse, e_itemsHas n2, e_isItem (by rw [n1]; exact n2), n1, ltM_eq, ltI_eq, ltL_eq, bd1_some, bd2_some, ite_bI, if_true, if_false, ite_true, ite_false, eq_self, not_true_eq_false, not_false_eq_true, i10, outside_eq, in_eq, no_eq, eq_false h1]) hn
  have hb : inb a 300 = true := h1.inb n3
  have hi := h1.ix
  have e1 := g1 _ hi
  have e7 := h.1.2.1.2.2.2.2.2.1 _ hi
  have z00 : cI 0 = 0 := rfl
  have z10 : ¬ cI 1 = 0 := by decide
  have z64 : ¬ cI 6 = cI 4 := by decide
  by_cases h3 : s.1 102 (ix a) = cI 4 ∨ (s.1 102 (ix a) = cI 6 ∧ s.1 117 (ix a) = cI (-1))
  rotate_left
  · obtain ⟨h31, h32⟩ := not_or.mp h3
    by_cases h33 : s.1 102 (ix a) = cI 6
    · have h34 := fun q => h32 ⟨h33, q⟩
      exact sim_no (c := cI (-103)) (by simp only [fItems_refuseItem_b31, fItems_refuseItem, fM_doRefuse_b46, fM_doRefuse_b53, fM_doRefuse, e_itemsHas n2, e_isItem (by rw [n1]; exact n2), n1, ltM_eq, ltI_eq, ltL_eq, bd1_some, bd2_some, ite_bI, if_true, if_false, ite_true, ite_false, eq_self, not_true_eq_false, not_false_eq_true, i10, outside_eq, in_eq, no_eq, eq_true h1, fItems_is, fItems_isHeldAtPost, hb, ix_0, ix_1, ix_2, ix_3, ix_4, ix_5, ix_6, ix_7, ix_8, ix_9, ix_10, ix_11, ix_12, ix_13, ix_14, ix_15, ix_16, ix_17, ix_18, ix_19, ix_20, ix_21, Nat.reduceAdd, wI_c, wI_ne, wL_1, lupd_ne, up1_eq, up1_ne, h33, eq_false z64, eq_false z10, eq_false h34, eq_true z00]) (by simp only [fItems_refuseItem_b31, fItems_refuseItem, fM_doRefuse_b46, fM_doRefuse_b53, fM_doRefuse, e_itemsHas n2, e_isItem (by rw [n1]; exact n2), n1, ltM_eq, ltI_eq, ltL_eq, bd1_some, bd2_some, ite_bI, if_true, if_false, ite_true, ite_false, eq_self, not_true_eq_false, not_false_eq_true, i10, outside_eq, in_eq, no_eq, eq_true h1, hb, e1, h33, eq_false z64, e7, eq_false h34]) hn
    · exact sim_no (c := cI (-103)) (by simp only [fItems_refuseItem_b31, fItems_refuseItem, fM_doRefuse_b46, fM_doRefuse_b53, fM_doRefuse, e_itemsHas n2, e_isItem (by rw [n1]; exact n2), n1, ltM_eq, ltI_eq, ltL_eq, bd1_some, bd2_some, ite_bI, if_true, if_false, ite_true, ite_false, eq_self, not_true_eq_false, not_false_eq_true, i10, outside_eq, in_eq, no_eq, eq_true h1, fItems_is, fItems_isHeldAtPost, hb, ix_0, ix_1, ix_2, ix_3, ix_4, ix_5, ix_6, ix_7, ix_8, ix_9, ix_10, ix_11, ix_12, ix_13, ix_14, ix_15, ix_16, ix_17, ix_18, ix_19, ix_20, ix_21, Nat.reduceAdd, wI_c, wI_ne, wL_1, lupd_ne, up1_eq, up1_ne, eq_false h31, eq_false h33, eq_true z00]) (by simp only [fItems_refuseItem_b31, fItems_refuseItem, fM_doRefuse_b46, fM_doRefuse_b53, fM_doRefuse, e_itemsHas n2, e_isItem (by rw [n1]; exact n2), n1, ltM_eq, ltI_eq, ltL_eq, bd1_some, bd2_some, ite_bI, if_true, if_false, ite_true, ite_false, eq_self, not_true_eq_false, not_false_eq_true, i10, outside_eq, in_eq, no_eq, eq_true h1, hb, e1, eq_false h31, eq_false h33]) hn
  have k1 : fItems_refuseItem s a = fItems_refuseItem_b31 s a := by
    rcases h3 with h3 | ⟨h3, h4⟩
    · simp only [fItems_refuseItem_b31, fItems_refuseItem, fM_doRefuse_b46, fM_doRefuse_b53, fM_doRefuse, e_itemsHas n2, e_isItem (by rw [n1]; exact n2), n1, ltM_eq, ltI_eq, ltL_eq, bd1_some, bd2_some, ite_bI, if_true, if_false, ite_true, ite_false, eq_self, not_true_eq_false, not_false_eq_true, i10, outside_eq, in_eq, no_eq, eq_true h1, fItems_is, hb, ix_0, ix_1, ix_2, ix_3, ix_4, ix_5, ix_6, ix_7, ix_8, ix_9, ix_10, ix_11, ix_12, ix_13, ix_14, ix_15, ix_16, ix_17, ix_18, ix_19, ix_20, ix_21, Nat.reduceAdd, wI_c, wI_ne, wL_1, lupd_ne, up1_eq, up1_ne, eq_true h3, eq_false z10]
    · simp only [fItems_refuseItem_b31, fItems_refuseItem, fM_doRefuse_b46, fM_doRefuse_b53, fM_doRefuse, e_itemsHas n2, e_isItem (by rw [n1]; exact n2), n1, ltM_eq, ltI_eq, ltL_eq, bd1_some, bd2_some, ite_bI, if_true, if_false, ite_true, ite_false, eq_self, not_true_eq_false, not_false_eq_true, i10, outside_eq, in_eq, no_eq, eq_true h1, fItems_is, fItems_isHeldAtPost, hb, ix_0, ix_1, ix_2, ix_3, ix_4, ix_5, ix_6, ix_7, ix_8, ix_9, ix_10, ix_11, ix_12, ix_13, ix_14, ix_15, ix_16, ix_17, ix_18, ix_19, ix_20, ix_21, Nat.reduceAdd, wI_c, wI_ne, wL_1, lupd_ne, up1_eq, up1_ne, h3, eq_false z64, eq_false z10, eq_true h4, eq_true z00]
  have k2 : fM_doRefuse t a = fM_doRefuse_b53 t a := by
    rcases h3 with h3 | ⟨h3, h4⟩
    · simp only [fItems_refuseItem_b31, fItems_refuseItem, fM_doRefuse_b46, fM_doRefuse_b53, fM_doRefuse, e_itemsHas n2, e_isItem (by rw [n1]; exact n2), n1, ltM_eq, ltI_eq, ltL_eq, bd1_some, bd2_some, ite_bI, if_true, if_false, ite_true, ite_false, eq_self, not_true_eq_false, not_false_eq_true, i10, outside_eq, in_eq, no_eq, eq_true h1, hb, e1, eq_true h3]
    · simp only [fItems_refuseItem_b31, fItems_refuseItem, fM_doRefuse_b46, fM_doRefuse_b53, fM_doRefuse, e_itemsHas n2, e_isItem (by rw [n1]; exact n2), n1, ltM_eq, ltI_eq, ltL_eq, bd1_some, bd2_some, ite_bI, if_true, if_false, ite_true, ite_false, eq_self, not_true_eq_false, not_false_eq_true, i10, outside_eq, in_eq, no_eq, eq_true h1, hb, e1, h3, eq_false z64, e7, eq_true h4]
  rw [k1, k2]
  by_cases hF : F = true
  · subst hF
    exact sim_no (c := cI (-104)) (by simp only [fItems_refuseItem_b31, fItems_refuseItem, fM_doRefuse_b46, fM_doRefuse_b53, fM_doRefuse, e_itemsHas n2, e_isItem (by rw [n1]; exact n2), n1, ltM_eq, ltI_eq, ltL_eq, bd1_some, bd2_some, ite_bI, if_true, if_false, ite_true, ite_false, eq_self, not_true_eq_false, not_false_eq_true, i10, outside_eq, in_eq, no_eq, eq_true h1, hA.no]) (by simp only [fItems_refuseItem_b31, fItems_refuseItem, fM_doRefuse_b46, fM_doRefuse_b53, fM_doRefuse, e_itemsHas n2, e_isItem (by rw [n1]; exact n2), n1, ltM_eq, ltI_eq, ltL_eq, bd1_some, bd2_some, ite_bI, if_true, if_false, ite_true, ite_false, eq_self, not_true_eq_false, not_false_eq_true, i10, outside_eq, in_eq, no_eq, eq_true h1, hM.no]) hn
  have hF2 : F = false := by cases F <;> simp_all
  subst hF2
  have hB : RB s (lvS t (ix a)) := RB.lv2 h hi (by rcases h3 with q | q; rw [q]; decide; rw [q.1]; decide) (by rcases h3 with q | q; rw [q]; decide; rw [q.1]; decide) (by
    rcases h3 with q | q
    · exact h.c117 h1 (by rw [q]; decide)
    · exact q.2)
  obtain ⟨s', t', c, w1, w2, w3, w4, w5⟩ := go_back (s := lupd A s) (t := t) (i := a) h.lu.1 h.lu.2.1 (hB.keep lupd_fr rf_fr (by decide +kernel) (by decide +kernel)) (hcu.keep lupd_fr rf_fr rfl rfl) (ht.keep lupd_fr rf_fr rfl rfl) hn9 (by simp (disch := decide) only [ix_0, ix_1, ix_2, ix_3, ix_4, ix_5, ix_6, ix_7, ix_8, ix_9, ix_10, ix_11, ix_12, ix_13, ix_14, ix_15, ix_16, ix_17, ix_18, ix_19, ix_20, ix_21, Nat.reduceAdd, wI_c, wI_ne, wL_1, lupd_ne, up1_eq, up1_ne]; exact h1) (by simp (disch := decide) only [ix_0, ix_1, ix_2, ix_3, ix_4, ix_5, ix_6, ix_7, ix_8, ix_9, ix_10, ix_11, ix_12, ix_13, ix_14, ix_15, ix_16, ix_17, ix_18, ix_19, ix_20, ix_21, Nat.reduceAdd, wI_c, wI_ne, wL_1, lupd_ne, up1_eq, up1_ne]; exact hg.1.2.1) (by simp (disch := decide) only [ix_0, ix_1, ix_2, ix_3, ix_4, ix_5, ix_6, ix_7, ix_8, ix_9, ix_10, ix_11, ix_12, ix_13, ix_14, ix_15, ix_16, ix_17, ix_18, ix_19, ix_20, ix_21, Nat.reduceAdd, wI_c, wI_ne, wL_1, lupd_ne, up1_eq, up1_ne]; exact hl.1.2.1) (by
    simp (disch := decide) only [ix_0, ix_1, ix_2, ix_3, ix_4, ix_5, ix_6, ix_7, ix_8, ix_9, ix_10, ix_11, ix_12, ix_13, ix_14, ix_15, ix_16, ix_17, ix_18, ix_19, ix_20, ix_21, Nat.reduceAdd, wI_c, wI_ne, wL_1, lupd_ne, up1_eq, up1_ne]
    rcases h3 with q | q
    · exact (h.1.2.2.2 _ hi).2.2.2.1 (Or.inr (Or.inl q))
    · exact (h.1.2.2.2 _ hi).2.2.2.1 (Or.inr (Or.inr (Or.inl q.1))))
  simp only [fItems_refuseItem_b31, fItems_refuseItem, fM_doRefuse_b46, fM_doRefuse_b53, fM_doRefuse, e_itemsHas n2, e_isItem (by rw [n1]; exact n2), n1, ltM_eq, ltI_eq, ltL_eq, bd1_some, bd2_some, ite_bI, if_true, if_false, ite_true, ite_false, eq_self, not_true_eq_false, not_false_eq_true, i10, outside_eq, in_eq, no_eq, eq_true h1, hA.yes, hM.yes, w1, w2, ok_some]
  exact ⟨rfl, Or.inr ⟨by rw [(w5.1 549 15 rfl).1]; exact h0, rfl, lgS.fr w4 (by decide +kernel) (by decide), w3⟩⟩
end
