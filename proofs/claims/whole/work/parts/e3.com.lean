/-! ===== LEVEL 3: an item comes to a state: all that it changes ===== -/
theorem up1_id {f : Nat → Int32} {k : Nat} {x : Int32} (h : f k = x) : up1 f k x = f := by
  funext b
  unfold up1
  split
  · next q => rw [q, h]
  · rfl
theorem bd1_eta {α : Type} {o : Option α} : (bd1 o fun x => some x) = o := by cases o <;> rfl
theorem fr_two {F : List (Nat × (Nat × Nat))} {s t : ev_M} {c k : Nat} {x : Int32} (h : fr F s t) : fr F (wI s c k x) (wI t c k x) := by
  refine ⟨fun a b hh => ⟨?_, (h.1 a b hh).2⟩, h.2⟩
  show (wI t c k x).1 a b = (wI s c k x).1 a b
  by_cases e : a = c
  · rw [e, wI_c, wI_c]
    unfold up1
    split
    · rfl
    · rw [← e]; exact (h.1 a b hh).1
  · rw [wI_ne e, wI_ne e]; exact (h.1 a b hh).1
abbrev wJ : ev_M → Nat → Nat → Int32 → ev_M := wI
theorem fr.two {F : List (Nat × (Nat × Nat))} {s t : ev_M} {c k : Nat} {x : Int32} (h : fr F s t) : fr F (wJ s c k x) (wJ t c k x) := fr_two h
/-- the item's facts in the reference that leave it -/
def lvS (t : ev_M) (k : Nat) : ev_M := wI (wI (wI (wI (wI t 593 k (cI (-1))) 595 k (cI (-1))) 597 k (cI (-1))) 598 k (cI (-1))) 602 k (cI (-1))
theorem e_leaves {t : ev_M} {i : Int32} (hb : inb i 300 = true) : fM_leaves t i = some (lvS t (ix i)) := by
  simp only [fM_leaves, if_pos hb, ltM_eq, lvS]
theorem lvS_fr {t : ev_M} {k : Nat} : fr F_M_leaves t (lvS t k) := ((((fr.rf.wI rfl).wI rfl).wI rfl).wI rfl).wI rfl
/-- what comes to the item's facts in the class, but arrivals -/
def cmO (s : ev_M) (k : Nat) (c : Int32) : ev_M := wI (wI (wI (wI s 102 k c) 111 k (cI (-1))) 116 k (cI (-1))) 117 k (cI (-1))
theorem lvS_ne {t : ev_M} {k c : Nat} (h : c ≠ 593 ∧ c ≠ 595 ∧ c ≠ 597 ∧ c ≠ 598 ∧ c ≠ 602) : (lvS t k).1 c = t.1 c := by
  unfold lvS
  rw [wI_ne h.2.2.2.2, wI_ne h.2.2.2.1, wI_ne h.2.2.1, wI_ne h.2.1, wI_ne h.1]
theorem e_comeO {s : ev_M} {i c : Int32} (hb : inb i 300 = true) (h1 : ¬ c = cI 1) (h2 : ¬ c = cI 2) (h6 : ¬ c = cI 6) : fItems_come s i c = fChron_happen (cmO s (ix i) c) i ((cmO s (ix i) c).1 106 (ix i)) c ((cmO s (ix i) c).1 110 (ix i)) := by
  simp (disch := decide) only [fItems_come, fItems_come_b34, fItems_come_b49, fItems_come_b75, if_pos hb, if_neg h1, if_neg h2, if_neg h6, ltM_eq, ix_0, ix_1, ix_2, ix_3, ix_4, ix_5, ix_6, ix_7, ix_8, ix_9, ix_10, ix_11, ix_12, ix_13, ix_14, ix_15, ix_16, ix_17, ix_18, ix_19, ix_20, ix_21, Nat.reduceAdd, wI_c, wI_ne, wL_1, lupd_ne, up1_eq, up1_ne, cmO, bd1_eta]
def cmI (s : ev_M) (k : Nat) : ev_M := wI (wI (wI (wI (wI (wI s 102 k (cI 1)) 100 6 (s.1 100 6 + cI 1)) 119 k (s.1 100 6)) 111 k (cI (-1))) 116 k (cI (-1))) 117 k (cI (-1))
theorem e_comeI {s : ev_M} {i : Int32} (hb : inb i 300 = true) : fItems_come s i (cI 1) = fChron_happen (cmI s (ix i)) i ((cmI s (ix i)).1 106 (ix i)) (cI 1) ((cmI s (ix i)).1 110 (ix i)) := by
  simp (disch := decide) only [fItems_come, fItems_come_b34, fItems_come_b49, fItems_come_b75, if_pos hb, if_neg (show ¬ cI 1 = cI 2 by decide), if_neg (show ¬ cI 1 = cI 6 by decide), if_true, ltM_eq, ix_0, ix_1, ix_2, ix_3, ix_4, ix_5, ix_6, ix_7, ix_8, ix_9, ix_10, ix_11, ix_12, ix_13, ix_14, ix_15, ix_16, ix_17, ix_18, ix_19, ix_20, ix_21, Nat.reduceAdd, wI_c, wI_ne, wL_1, lupd_ne, up1_eq, up1_ne, cmI, bd1_eta]
def cmB (s : ev_M) (k : Nat) : ev_M := wI (wI (wI s 102 k (cI 2)) 116 k (cI (-1))) 117 k (cI (-1))
theorem e_comeB {s : ev_M} {i : Int32} (hb : inb i 300 = true) : fItems_come s i (cI 2) = fChron_happen (cmB s (ix i)) i ((cmB s (ix i)).1 106 (ix i)) (cI 2) ((cmB s (ix i)).1 110 (ix i)) := by
  simp (disch := decide) only [fItems_come, fItems_come_b34, fItems_come_b49, fItems_come_b75, if_pos hb, if_neg (show ¬ cI 2 = cI 1 by decide), if_neg (show ¬ cI 2 = cI 6 by decide), if_true, ltM_eq, ix_0, ix_1, ix_2, ix_3, ix_4, ix_5, ix_6, ix_7, ix_8, ix_9, ix_10, ix_11, ix_12, ix_13, ix_14, ix_15, ix_16, ix_17, ix_18, ix_19, ix_20, ix_21, Nat.reduceAdd, wI_c, wI_ne, wL_1, lupd_ne, up1_eq, up1_ne, cmB, bd1_eta]
def cmH (s : ev_M) (k : Nat) : ev_M := wI (wI s 102 k (cI 6)) 111 k (cI (-1))
theorem e_comeH {s : ev_M} {i : Int32} (hb : inb i 300 = true) : fItems_come s i (cI 6) = fChron_happen (cmH s (ix i)) i ((cmH s (ix i)).1 106 (ix i)) (cI 6) ((cmH s (ix i)).1 110 (ix i)) := by
  simp (disch := decide) only [fItems_come, fItems_come_b34, fItems_come_b49, fItems_come_b75, if_pos hb, if_neg (show ¬ cI 6 = cI 1 by decide), if_neg (show ¬ cI 6 = cI 2 by decide), if_true, ltM_eq, ix_0, ix_1, ix_2, ix_3, ix_4, ix_5, ix_6, ix_7, ix_8, ix_9, ix_10, ix_11, ix_12, ix_13, ix_14, ix_15, ix_16, ix_17, ix_18, ix_19, ix_20, ix_21, Nat.reduceAdd, wI_c, wI_ne, wL_1, lupd_ne, up1_eq, up1_ne, cmH, bd1_eta]
theorem e_comesIn {t : ev_M} {i p : Int32} (hb : inb i 300 = true) : fM_comesIn t i p = fM_comes (wI (wI (wI (lvS t (ix i)) 591 (ix i) p) 549 23 (t.1 549 23 + cI 1)) 592 (ix i) (t.1 549 23 + cI 1)) i (cI 1) := by
  have e : (lvS t (ix i)).1 549 = t.1 549 := lvS_ne (by decide)
  simp (disch := decide) only [fM_comesIn, e_leaves hb, bd1_some, if_pos hb, ltM_eq, ix_0, ix_1, ix_2, ix_3, ix_4, ix_5, ix_6, ix_7, ix_8, ix_9, ix_10, ix_11, ix_12, ix_13, ix_14, ix_15, ix_16, ix_17, ix_18, ix_19, ix_20, ix_21, Nat.reduceAdd, wI_c, wI_ne, wL_1, lupd_ne, up1_eq, up1_ne, e, bd1_eta]
section
variable {s t : ev_M} {n : Nat} {k : Nat} {c : Int32}
theorem RIt.st (h : RIt s t) (hc : 0 ≤ c.toInt ∧ c.toInt ≤ 8) : RIt (wI s 102 k c) (wI t 583 k c) := by
  obtain ⟨n1, g1, g2, g3, g4, g5, g6, g7, g8, g9, b1, b2, b3, b4, b5, b6, b7, b8, b9⟩ := h
  unfold RIt
  simp (disch := decide) only [ix_0, ix_1, ix_2, ix_3, ix_4, ix_5, ix_6, ix_7, ix_8, ix_9, ix_10, ix_11, ix_12, ix_13, ix_14, ix_15, ix_16, ix_17, ix_18, ix_19, ix_20, ix_21, Nat.reduceAdd, wI_c, wI_ne, wL_1, lupd_ne, up1_eq, up1_ne]
  exact ⟨n1, g1.set rfl, g2, g3, g4, g5, g6, g7, g8, g9, b1.set hc, b2, b3, b4, b5, b6, b7, b8, b9⟩
theorem RIr.o (h : RIr s t) (z1 : 0 ≤ (s.1 449 6).toInt) (z2 : 0 ≤ (s.1 125 3).toInt) : RIr (cmO s k c) (wI (lvS t k) 583 k c) := by
  obtain ⟨g1, g2, g3, g4, g5, g6, g7, b1, b2, b3, b4, b5, b6, b7⟩ := h
  unfold RIr cmO lvS
  simp (disch := decide) only [ix_0, ix_1, ix_2, ix_3, ix_4, ix_5, ix_6, ix_7, ix_8, ix_9, ix_10, ix_11, ix_12, ix_13, ix_14, ix_15, ix_16, ix_17, ix_18, ix_19, ix_20, ix_21, Nat.reduceAdd, wI_c, wI_ne, wL_1, lupd_ne, up1_eq, up1_ne]
  exact ⟨g1, g2.set rfl, g3, g4, g5.set rfl, g6.set rfl, g7, b1, b2.set ⟨by decide, by show (-1 : Int) ≤ _; omega⟩, b3, b4, b5.set (by decide), b6.set ⟨by decide, by show (-1 : Int) ≤ _; omega⟩, b7⟩
theorem RIr.i {p m : Int32} (h : RIr s t) (z1 : 0 ≤ (s.1 449 6).toInt) (z2 : 0 ≤ (s.1 125 3).toInt) (hp : -1 ≤ p.toInt ∧ p.toInt ≤ (s.1 30 2).toInt - 1) : RIr (cmI (wI s 110 k p) k) (wI (wI (wI (wI (lvS t k) 591 k p) 549 23 m) 592 k m) 583 k (cI 1)) := by
  obtain ⟨g1, g2, g3, g4, g5, g6, g7, b1, b2, b3, b4, b5, b6, b7⟩ := h
  unfold RIr cmI lvS
  simp (disch := decide) only [ix_0, ix_1, ix_2, ix_3, ix_4, ix_5, ix_6, ix_7, ix_8, ix_9, ix_10, ix_11, ix_12, ix_13, ix_14, ix_15, ix_16, ix_17, ix_18, ix_19, ix_20, ix_21, Nat.reduceAdd, wI_c, wI_ne, wL_1, lupd_ne, up1_eq, up1_ne]
  exact ⟨g1.set rfl, g2.set rfl, g3, g4, g5.set rfl, g6.set rfl, g7, b1.set hp, b2.set ⟨by decide, by show (-1 : Int) ≤ _; omega⟩, b3, b4, b5.set (by decide), b6.set ⟨by decide, by show (-1 : Int) ≤ _; omega⟩, b7⟩
theorem RSx.o (h : RSx s t) (hk : k < ix (s.1 100 5)) (ha : c = cI 3 ∨ c = cI 4 ∨ c = cI 6 → ¬ s.1 109 k = cI (-1)) (h2 : ¬ c = cI 2) (h3 : ¬ c = cI 3) : RSx (cmO s k c) (wI (lvS t k) 583 k c) := by
  unfold RSx at h ⊢
  unfold cmO lvS
  simp (disch := decide) only [ix_0, ix_1, ix_2, ix_3, ix_4, ix_5, ix_6, ix_7, ix_8, ix_9, ix_10, ix_11, ix_12, ix_13, ix_14, ix_15, ix_16, ix_17, ix_18, ix_19, ix_20, ix_21, Nat.reduceAdd, wI_c, wI_ne, wL_1, lupd_ne, up1_eq, up1_ne]
  intro i hi
  by_cases z : i = k
  · rw [z]
    simp only [up1_eq]
    refine ⟨fun _ => trivial, fun _ => trivial, fun _ => ⟨trivial, trivial⟩, fun q => ?_, fun q => absurd q h2, fun q => absurd q h3⟩
    rcases q with q | q | q | q
    · exact ha (Or.inl q)
    · exact ha (Or.inr (Or.inl q))
    · exact ha (Or.inr (Or.inr q))
    · exact (h k hk).2.2.2.1 (Or.inr (Or.inr (Or.inr q)))
  · simp only [up1_ne z]
    exact h i hi
theorem RSx.i {p m : Int32} (h : RSx s t) (hk : k < ix (s.1 100 5)) : RSx (cmI (wI s 110 k p) k) (wI (wI (wI (wI (lvS t k) 591 k p) 549 23 m) 592 k m) 583 k (cI 1)) := by
  unfold RSx at h ⊢
  unfold cmI lvS
  simp (disch := decide) only [ix_0, ix_1, ix_2, ix_3, ix_4, ix_5, ix_6, ix_7, ix_8, ix_9, ix_10, ix_11, ix_12, ix_13, ix_14, ix_15, ix_16, ix_17, ix_18, ix_19, ix_20, ix_21, Nat.reduceAdd, wI_c, wI_ne, wL_1, lupd_ne, up1_eq, up1_ne]
  intro i hi
  by_cases z : i = k
  · rw [z]
    simp only [up1_eq]
    refine ⟨fun _ => trivial, fun _ => trivial, fun _ => ⟨trivial, trivial⟩, fun q => ?_, fun q => absurd q (by decide), fun q => absurd q (by decide)⟩
    rcases q with q | q | q | q
    · exact absurd q (by decide)
    · exact absurd q (by decide)
    · exact absurd q (by decide)
    · exact (h k hk).2.2.2.1 (Or.inr (Or.inr (Or.inr q)))
  · simp only [up1_ne z]
    exact h i hi
theorem RCo.o (h : RCo n s t) : RCo n (cmO s k c) (wI (lvS t k) 583 k c) := by
  obtain ⟨g1, g2, g3, g4, g5, g6, g7⟩ := h
  unfold RCo cmO lvS
  simp (disch := decide) only [ix_0, ix_1, ix_2, ix_3, ix_4, ix_5, ix_6, ix_7, ix_8, ix_9, ix_10, ix_11, ix_12, ix_13, ix_14, ix_15, ix_16, ix_17, ix_18, ix_19, ix_20, ix_21, Nat.reduceAdd, wI_c, wI_ne, wL_1, lupd_ne, up1_eq, up1_ne]
  refine ⟨g1, g2, g3, g4, g5, fun i hi hne => ?_, fun i hi hne => ?_⟩
  · by_cases z : i = k
    · rw [z, up1_eq] at hne; exact absurd rfl hne
    · rw [up1_ne z] at hne; exact g6 i hi hne
  · by_cases z : i = k
    · rw [z, up1_eq] at hne; exact absurd rfl hne
    · rw [up1_ne z] at hne; exact g7 i hi hne
theorem RCo.i {p : Int32} (h : RCo n s t) (hn : n < 2147483647) : RCo (n + 1) (cmI (wI s 110 k p) k) (wI (wI (wI (wI (lvS t k) 591 k p) 549 23 (t.1 549 23 + cI 1)) 592 k (t.1 549 23 + cI 1)) 583 k (cI 1)) := by
  obtain ⟨⟨⟨a1, a2⟩, ⟨a3, a4⟩⟩, g2, g3, g4, g5, g6, g7⟩ := h
  have e1 : (t.1 549 23 + cI 1).toInt = (t.1 549 23).toInt + 1 := inc_i (by omega)
  have e2 : (s.1 100 6 + cI 1).toInt = (s.1 100 6).toInt + 1 := inc_i (by omega)
  unfold RCo cmI lvS
  simp (disch := decide) only [ix_0, ix_1, ix_2, ix_3, ix_4, ix_5, ix_6, ix_7, ix_8, ix_9, ix_10, ix_11, ix_12, ix_13, ix_14, ix_15, ix_16, ix_17, ix_18, ix_19, ix_20, ix_21, Nat.reduceAdd, wI_c, wI_ne, wL_1, lupd_ne, up1_eq, up1_ne]
  refine ⟨⟨⟨by omega, by omega⟩, by omega, by omega⟩, g2.set ⟨by omega, by omega⟩, g3.set ⟨by omega, by omega⟩, fun i hi => ?_, fun i j hi hj => ?_, fun i hi hne => ?_, fun i hi hne => ?_⟩
  · by_cases z : i = k
    · rw [z, up1_eq, up1_eq, eq_i, eq_i, e1, i32_0, show (cI (-1)).toInt = -1 from rfl]
      omega
    · rw [up1_ne z, up1_ne z]; exact g4 i hi
  · have := g2 i
    have := g2 j
    have := g3 i
    have := g3 j
    by_cases z : i = k
    · by_cases w : j = k
      · rw [z, w, up1_eq, up1_eq]; omega
      · rw [z, up1_eq, up1_eq, up1_ne w, up1_ne w]; omega
    · by_cases w : j = k
      · rw [w, up1_eq, up1_eq, up1_ne z, up1_ne z]; omega
      · rw [up1_ne z, up1_ne z, up1_ne w, up1_ne w]; exact g5 i j hi hj
  · by_cases z : i = k
    · rw [z, up1_eq] at hne; exact absurd rfl hne
    · rw [up1_ne z] at hne; have := g6 i hi hne; omega
  · by_cases z : i = k
    · rw [z, up1_eq] at hne; exact absurd rfl hne
    · rw [up1_ne z] at hne; have := g7 i hi hne; omega
theorem RCo.up (h : RCo n s t) : RCo (n + 1) s t := ⟨⟨⟨h.1.1.1, by have := h.1.1.2; omega⟩, h.1.2.1, by have := h.1.2.2; omega⟩, h.2⟩
/-- the items' facts -/
def RXq (n : Nat) (s t : ev_M) : Prop := RIt s t ∧ RIr s t ∧ RCo n s t ∧ RSx s t
/-- events and notices -/
def RN (n : Nat) (s t : ev_M) : Prop := REv n s t ∧ RNt n s t
/-- rows, bags, boxes -/
def RB (s t : ev_M) : Prop := RRw s t ∧ RBc s t ∧ RBx s t
/-- all that an item's coming changes -/
def RV (n : Nat) (s t : ev_M) : Prop := RXq n s t ∧ RN n s t ∧ RB s t
theorem RV.no (h : RV n s t) {x : Int32} : RV n s (wI t 549 15 x) := ⟨⟨h.1.1.keep rf_fr no_fr rfl rfl, h.1.2.1.keep rf_fr no_fr rfl rfl, h.1.2.2.1.keep rf_fr no_fr rfl rfl, h.1.2.2.2.keep rf_fr no_fr rfl rfl⟩, ⟨h.2.1.1.keep rf_fr no_fr rfl rfl, h.2.1.2.keep rf_fr no_fr rfl rfl⟩, h.2.2.1.keep rf_fr no_fr rfl rfl, h.2.2.2.1.keep rf_fr no_fr rfl rfl, h.2.2.2.2.keep rf_fr no_fr rfl rfl⟩
theorem RV.lu (h : RV n s t) {A : Nat → Nat → Int32} : RV n (lupd A s) t := ⟨⟨h.1.1.keep lupd_fr rf_fr rfl rfl, h.1.2.1.keep lupd_fr rf_fr rfl rfl, h.1.2.2.1.keep lupd_fr rf_fr rfl rfl, h.1.2.2.2.keep lupd_fr rf_fr rfl rfl⟩, ⟨h.2.1.1.keep lupd_fr rf_fr rfl rfl, h.2.1.2.keep lupd_fr rf_fr rfl rfl⟩, h.2.2.1.keep lupd_fr rf_fr rfl rfl, h.2.2.2.1.keep lupd_fr rf_fr rfl rfl, h.2.2.2.2.keep lupd_fr rf_fr rfl rfl⟩
theorem RXq.keep {s' t' : ev_M} {F G : List (Nat × (Nat × Nat))} (h : RXq n s t) (hs : fr F s s') (ht : fr G t t') (d1 : (nof F RIt_C && (nof F RIr_C && (nof F RCo_C && nof F RSx_C))) = true) (d2 : (nof G RIt_M && (nof G RIr_M && (nof G RCo_M && nof G RSx_M))) = true) : RXq n s' t' := by
  simp only [Bool.and_eq_true] at d1 d2
  exact ⟨h.1.keep hs ht d1.1 d2.1, h.2.1.keep hs ht d1.2.1 d2.2.1, h.2.2.1.keep hs ht d1.2.2.1 d2.2.2.1, h.2.2.2.keep hs ht d1.2.2.2 d2.2.2.2⟩
theorem RN.keep {s' t' : ev_M} {F G : List (Nat × (Nat × Nat))} (h : RN n s t) (hs : fr F s s') (ht : fr G t t') (d1 : (nof F REv_C && nof F RNt_C) = true) (d2 : (nof G REv_M && nof G RNt_M) = true) : RN n s' t' := by
  simp only [Bool.and_eq_true] at d1 d2
  exact ⟨h.1.keep hs ht d1.1 d2.1, h.2.keep hs ht d1.2 d2.2⟩
theorem RB.keep {s' t' : ev_M} {F G : List (Nat × (Nat × Nat))} (h : RB s t) (hs : fr F s s') (ht : fr G t t') (d1 : (nof F RRw_C && (nof F RBc_C && nof F RBx_C)) = true) (d2 : (nof G RRw_M && (nof G RBc_M && nof G RBx_M)) = true) : RB s' t' := by
  simp only [Bool.and_eq_true] at d1 d2
  exact ⟨h.1.keep hs ht d1.1 d2.1, h.2.1.keep hs ht d1.2.1 d2.2.1, h.2.2.keep hs ht d1.2.2 d2.2.2⟩
/-- who is in no row, no bag and no box leaves nothing -/
theorem RB.lv (h : RB s t) (h1 : t.1 593 k = cI (-1)) (h2 : t.1 595 k = cI (-1)) (h3 : t.1 597 k = cI (-1)) (h4 : t.1 598 k = cI (-1)) : RB s (lvS t k) := by
  obtain ⟨q1, q2, q3⟩ := h
  have e1 : (lvS t k).1 593 = t.1 593 := by unfold lvS; simp (disch := decide) only [ix_0, ix_1, ix_2, ix_3, ix_4, ix_5, ix_6, ix_7, ix_8, ix_9, ix_10, ix_11, ix_12, ix_13, ix_14, ix_15, ix_16, ix_17, ix_18, ix_19, ix_20, ix_21, Nat.reduceAdd, wI_c, wI_ne, wL_1, lupd_ne, up1_eq, up1_ne]; exact up1_id h1
  have e2 : (lvS t k).1 594 = t.1 594 := by unfold lvS; simp (disch := decide) only [ix_0, ix_1, ix_2, ix_3, ix_4, ix_5, ix_6, ix_7, ix_8, ix_9, ix_10, ix_11, ix_12, ix_13, ix_14, ix_15, ix_16, ix_17, ix_18, ix_19, ix_20, ix_21, Nat.reduceAdd, wI_c, wI_ne, wL_1, lupd_ne, up1_eq, up1_ne]
  have e3 : (lvS t k).1 595 = t.1 595 := by unfold lvS; simp (disch := decide) only [ix_0, ix_1, ix_2, ix_3, ix_4, ix_5, ix_6, ix_7, ix_8, ix_9, ix_10, ix_11, ix_12, ix_13, ix_14, ix_15, ix_16, ix_17, ix_18, ix_19, ix_20, ix_21, Nat.reduceAdd, wI_c, wI_ne, wL_1, lupd_ne, up1_eq, up1_ne]; exact up1_id h2
  have e4 : (lvS t k).1 596 = t.1 596 := by unfold lvS; simp (disch := decide) only [ix_0, ix_1, ix_2, ix_3, ix_4, ix_5, ix_6, ix_7, ix_8, ix_9, ix_10, ix_11, ix_12, ix_13, ix_14, ix_15, ix_16, ix_17, ix_18, ix_19, ix_20, ix_21, Nat.reduceAdd, wI_c, wI_ne, wL_1, lupd_ne, up1_eq, up1_ne]
  have e5 : (lvS t k).1 597 = t.1 597 := by unfold lvS; simp (disch := decide) only [ix_0, ix_1, ix_2, ix_3, ix_4, ix_5, ix_6, ix_7, ix_8, ix_9, ix_10, ix_11, ix_12, ix_13, ix_14, ix_15, ix_16, ix_17, ix_18, ix_19, ix_20, ix_21, Nat.reduceAdd, wI_c, wI_ne, wL_1, lupd_ne, up1_eq, up1_ne]; exact up1_id h3
  have e6 : (lvS t k).1 598 = t.1 598 := by unfold lvS; simp (disch := decide) only [ix_0, ix_1, ix_2, ix_3, ix_4, ix_5, ix_6, ix_7, ix_8, ix_9, ix_10, ix_11, ix_12, ix_13, ix_14, ix_15, ix_16, ix_17, ix_18, ix_19, ix_20, ix_21, Nat.reduceAdd, wI_c, wI_ne, wL_1, lupd_ne, up1_eq, up1_ne]; exact up1_id h4
  refine ⟨?_, ?_, ?_⟩
  · unfold RRw at q1 ⊢; rw [e3, e4]; exact q1
  · unfold RBc at q2 ⊢; rw [e1, e2]; exact q2
  · unfold RBx at q3 ⊢; rw [e5, e6]; exact q3
/-- an item comes, class and reference, when its facts are written -/
theorem hapQ {m : Nat} {i : Int32} (q : RXq m s (wI t 583 (ix i) c)) (e : RN n s t) (hcu : RCu s t) (ht : RTim s t) (hn : n < 2147483646) (hi : Has i (s.1 100 5)) (hc : InR c (cI 0) (cI 8)) : ∃ s' t', fChron_happen s i (s.1 106 (ix i)) c (s.1 110 (ix i)) = some s' ∧ fM_comes t i c = some t' ∧ RXq m s' t' ∧ RN (n + 1) s' t' ∧ fr F_Chron_happen s s' ∧ fr F_evno (wI t 583 (ix i) c) t' := by
  obtain ⟨⟨⟨n1, n2, n3⟩, -, -, -, -, g5, -, -, -, -, -, -, -, -, b5, -⟩, ⟨p1, -⟩, -⟩ := id q
  have w := hi.ix
  have a1 := b5 _ w
  have a2 := g5 _ w
  have a3 := p1 _ w
  rw [wI_ne (by decide)] at a2 a3
  obtain ⟨s', t', f1, f2, f3, f4, f5, f6⟩ := hap (ac := s.1 106 (ix i)) (pl := s.1 110 (ix i)) e.1 e.2 hcu ht hn hi n3 rfl a2 ⟨a1.1, by omega⟩ a3 hc
  exact ⟨s', t', f1, f2, q.keep f5 f6 (by decide +kernel) (by decide +kernel), ⟨f3, f4⟩, f5, f6⟩
theorem RB.lv2 (h : RV n s t) (hi : k < ix (s.1 100 5)) (h1 : ¬ s.1 102 k = cI 2) (h2 : ¬ s.1 102 k = cI 3) (h3 : s.1 117 k = cI (-1)) : RB s (lvS t k) := by
  obtain ⟨⟨-, ⟨-, -, -, -, -, g6, -⟩, -, q⟩, -, b⟩ := h
  have e := g6 k hi
  rw [h3] at e
  refine b.lv ((q k hi).1 h1) ((q k hi).2.1 h2) e ?_
  rcases b.2.2.2.1 k hi with z | z
  · exact z.2
  · have := z.1.1
    rw [e] at this
    exact absurd this (by decide)
/-- the cells of the reference when an item has left and comes IN -/
def F_cin : List (Nat × (Nat × Nat)) := [(591, 591, 0), (549, 549, 24), (592, 592, 0), (583, 583, 0), (549, 549, 130), (640, 640, 0), (641, 641, 0), (642, 642, 0), (643, 643, 0), (549, 549, 135), (644, 644, 0), (645, 645, 0), (646, 646, 0)]
/-- an item comes IN at a place -/
theorem go_in0 {i p : Int32} (h : RXq n s t) (e : RN n s t) (hcu : RCu s t) (ht : RTim s t) (hn : n < 2147483646) (hi : Has i (s.1 100 5)) (z1 : 0 ≤ (s.1 449 6).toInt) (z2 : 0 ≤ (s.1 125 3).toInt) (hp : -1 ≤ p.toInt ∧ p.toInt ≤ (s.1 30 2).toInt - 1) : ∃ s' t', fItems_comeInAt s i p = some s' ∧ fM_comesIn t i p = some t' ∧ RXq (n + 1) s' t' ∧ RN (n + 1) s' t' ∧ fr F_Items_comeInAt s s' ∧ fr F_M_comesIn t t' ∧ fr F_cin (lvS t (ix i)) t' ∧ s'.1 102 = up1 (s.1 102) (ix i) (cI 1) := by
  obtain ⟨q1, q2, q3, q4⟩ := h
  have hb : inb i 300 = true := hi.inb q1.1.2.2
  have f1 : fr [(110, 110, 0), (102, 102, 0), (100, 100, 7), (119, 119, 0), (111, 111, 0), (116, 116, 0), (117, 117, 0)] s (cmI (wI s 110 (ix i) p) (ix i)) := ((((((fr.rf.wI rfl).wI rfl).wI rfl).wI rfl).wI rfl).wI rfl).wI rfl
  have f2 : fr [(593, 593, 0), (595, 595, 0), (597, 597, 0), (598, 598, 0), (602, 602, 0), (591, 591, 0), (549, 549, 24), (592, 592, 0)] t (wI (wI (wI (lvS t (ix i)) 591 (ix i) p) 549 23 (t.1 549 23 + cI 1)) 592 (ix i) (t.1 549 23 + cI 1)) := (((lvS_fr.mono (by decide +kernel)).wI rfl).wI rfl).wI rfl
  have r1 : RIt (cmI (wI s 110 (ix i) p) (ix i)) (wI (wI (wI (wI (lvS t (ix i)) 591 (ix i) p) 549 23 (t.1 549 23 + cI 1)) 592 (ix i) (t.1 549 23 + cI 1)) 583 (ix i) (cI 1)) := ((q1.keep (s' := wI s 110 (ix i) p) (F := [(110, 110, 0)]) (fr.rf.wI rfl) rf_fr rfl rfl).st (k := ix i) (c := cI 1) (by decide)).keep (((((fr.rf (F := [(100, 100, 7), (119, 119, 0), (111, 111, 0), (116, 116, 0), (117, 117, 0)]).wI rfl).wI rfl).wI rfl).wI rfl).wI rfl) f2.two rfl rfl
  obtain ⟨s', t', w1, w2, w3, w4, w5, w6⟩ := hapQ (n := n) (m := n + 1) (c := cI 1) (i := i) ⟨r1, q2.i z1 z2 hp, q3.i (by omega), q4.i hi.ix⟩ (e.keep f1 f2 rfl rfl) (hcu.keep f1 f2 rfl rfl) (ht.keep f1 f2 rfl rfl) hn (by
    have : (cmI (wI s 110 (ix i) p) (ix i)).1 100 5 = s.1 100 5 := by unfold cmI; simp (disch := decide) only [ix_0, ix_1, ix_2, ix_3, ix_4, ix_5, ix_6, ix_7, ix_8, ix_9, ix_10, ix_11, ix_12, ix_13, ix_14, ix_15, ix_16, ix_17, ix_18, ix_19, ix_20, ix_21, Nat.reduceAdd, wI_c, wI_ne, wL_1, lupd_ne, up1_eq, up1_ne]
    rw [this]; exact hi) (by decide)
  have c1 : fItems_comeInAt s i p = some s' := by
    simp only [fItems_comeInAt, if_pos hb, ltM_eq, ix_8, Nat.reduceAdd, e_comeI hb, bd1_eta]
    exact w1
  have c2 : fM_comesIn t i p = some t' := by rw [e_comesIn hb]; exact w2
  have u1 := fr_fItems_comeInAt c1
  have u2 : fr F_cin (lvS t (ix i)) t' := ((((fr.rf.wI rfl).wI rfl).wI rfl).wI rfl).tr (w6.mono (by decide +kernel))
  refine ⟨s', t', c1, c2, w3, w4, u1, fr_fM_comesIn c2, u2, ?_⟩
  rw [(nof_c w5 (L := [(102, 0)]) rfl (c := 102) rfl).1]
  unfold cmI
  simp (disch := decide) only [ix_0, ix_1, ix_2, ix_3, ix_4, ix_5, ix_6, ix_7, ix_8, ix_9, ix_10, ix_11, ix_12, ix_13, ix_14, ix_15, ix_16, ix_17, ix_18, ix_19, ix_20, ix_21, Nat.reduceAdd, wI_c, wI_ne, wL_1, lupd_ne, up1_eq, up1_ne]
/-- an item comes IN at a place -/
theorem go_in {i p : Int32} (h : RXq n s t) (e : RN n s t) (b : RB s (lvS t (ix i))) (hcu : RCu s t) (ht : RTim s t) (hn : n < 2147483646) (hi : Has i (s.1 100 5)) (z1 : 0 ≤ (s.1 449 6).toInt) (z2 : 0 ≤ (s.1 125 3).toInt) (hp : -1 ≤ p.toInt ∧ p.toInt ≤ (s.1 30 2).toInt - 1) : ∃ s' t', fItems_comeInAt s i p = some s' ∧ fM_comesIn t i p = some t' ∧ RV (n + 1) s' t' ∧ fr F_Items_comeInAt s s' ∧ fr F_M_comesIn t t' ∧ s'.1 102 = up1 (s.1 102) (ix i) (cI 1) := by
  obtain ⟨s', t', c1, c2, q, r, u1, u2, u3, u4⟩ := go_in0 h e hcu ht hn hi z1 z2 hp
  exact ⟨s', t', c1, c2, ⟨q, r, b.keep u1 u3 (by decide +kernel) (by decide +kernel)⟩, u1, u2, u4⟩
/-- an item comes to another state and leaves what it was in -/
theorem go_o0 {i : Int32} (h : RXq n s t) (e : RN n s t) (hcu : RCu s t) (ht : RTim s t) (hn : n < 2147483646) (hi : Has i (s.1 100 5)) (z1 : 0 ≤ (s.1 449 6).toInt) (z2 : 0 ≤ (s.1 125 3).toInt) (hc : InR c (cI 0) (cI 8)) (k1 : ¬ c = cI 1) (k2 : ¬ c = cI 2) (k6 : ¬ c = cI 6) (ha : c = cI 3 ∨ c = cI 4 → ¬ s.1 109 (ix i) = cI (-1)) (k3 : ¬ c = cI 3 := by decide) : ∃ s' t', fItems_come s i c = some s' ∧ fM_leaves t i = some (lvS t (ix i)) ∧ fM_comes (lvS t (ix i)) i c = some t' ∧ RXq (n + 1) s' t' ∧ RN (n + 1) s' t' ∧ fr F_Items_come s s' ∧ fr F_M_comes (lvS t (ix i)) t' ∧ s'.1 102 = up1 (s.1 102) (ix i) c := by
  obtain ⟨q1, q2, q3, q4⟩ := h
  have hb : inb i 300 = true := hi.inb q1.1.2.2
  have f1 : fr [(102, 102, 0), (111, 111, 0), (116, 116, 0), (117, 117, 0)] s (cmO s (ix i) c) := (((fr.rf.wI rfl).wI rfl).wI rfl).wI rfl
  have r1 : RIt (cmO s (ix i) c) (wI (lvS t (ix i)) 583 (ix i) c) := (q1.st (k := ix i) hc).keep (((fr.rf (F := [(111, 111, 0), (116, 116, 0), (117, 117, 0)]).wI rfl).wI rfl).wI rfl) lvS_fr.two rfl rfl
  obtain ⟨s', t', w1, w2, w3, w4, w5, w6⟩ := hapQ (n := n) (m := n + 1) (c := c) (i := i) ⟨r1, q2.o z1 z2, q3.o.up, q4.o hi.ix (fun q => by
    rcases q with q | q | q
    · exact ha (Or.inl q)
    · exact ha (Or.inr q)
    · exact absurd q k6) k2 k3⟩ (e.keep f1 lvS_fr rfl rfl) (hcu.keep f1 lvS_fr rfl rfl) (ht.keep f1 lvS_fr rfl rfl) hn (by
    have : (cmO s (ix i) c).1 100 5 = s.1 100 5 := by unfold cmO; simp (disch := decide) only [ix_0, ix_1, ix_2, ix_3, ix_4, ix_5, ix_6, ix_7, ix_8, ix_9, ix_10, ix_11, ix_12, ix_13, ix_14, ix_15, ix_16, ix_17, ix_18, ix_19, ix_20, ix_21, Nat.reduceAdd, wI_c, wI_ne, wL_1, lupd_ne, up1_eq, up1_ne]
    rw [this]; exact hi) hc
  have c1 : fItems_come s i c = some s' := by rw [e_comeO hb k1 k2 k6]; exact w1
  have u1 := fr_fItems_come c1
  have u2 := fr_fM_comes w2
  refine ⟨s', t', c1, e_leaves hb, w2, w3, w4, u1, u2, ?_⟩
  rw [(nof_c w5 (L := [(102, 0)]) rfl (c := 102) rfl).1]
  unfold cmO
  simp (disch := decide) only [ix_0, ix_1, ix_2, ix_3, ix_4, ix_5, ix_6, ix_7, ix_8, ix_9, ix_10, ix_11, ix_12, ix_13, ix_14, ix_15, ix_16, ix_17, ix_18, ix_19, ix_20, ix_21, Nat.reduceAdd, wI_c, wI_ne, wL_1, lupd_ne, up1_eq, up1_ne]
theorem go_o {i : Int32} (h : RXq n s t) (e : RN n s t) (b : RB s (lvS t (ix i))) (hcu : RCu s t) (ht : RTim s t) (hn : n < 2147483646) (hi : Has i (s.1 100 5)) (z1 : 0 ≤ (s.1 449 6).toInt) (z2 : 0 ≤ (s.1 125 3).toInt) (hc : InR c (cI 0) (cI 8)) (k1 : ¬ c = cI 1) (k2 : ¬ c = cI 2) (k6 : ¬ c = cI 6) (ha : c = cI 3 ∨ c = cI 4 → ¬ s.1 109 (ix i) = cI (-1)) (k3 : ¬ c = cI 3 := by decide) : ∃ s' t', fItems_come s i c = some s' ∧ fM_leaves t i = some (lvS t (ix i)) ∧ fM_comes (lvS t (ix i)) i c = some t' ∧ RV (n + 1) s' t' ∧ fr F_Items_come s s' ∧ fr F_M_comes (lvS t (ix i)) t' ∧ s'.1 102 = up1 (s.1 102) (ix i) c := by
  obtain ⟨s', t', c1, c2, c3, q, r, u1, u2, u3⟩ := go_o0 h e hcu ht hn hi z1 z2 hc k1 k2 k6 ha k3
  exact ⟨s', t', c1, c2, c3, ⟨q, r, b.keep u1 u2 (by decide +kernel) (by decide +kernel)⟩, u1, u2, u3⟩
end
