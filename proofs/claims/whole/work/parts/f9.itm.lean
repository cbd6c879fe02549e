/-! ===== LEVEL 3: the act item, whole ===== -/
section
variable {s t s' t' : ev_M} {n : Nat}
theorem RCo.add (h : RCo n s t) (n2 : 0 ≤ (s.1 100 5).toInt) (n3 : (s.1 100 5).toInt < 300) (e1 : s'.1 100 5 = s.1 100 5 + cI 1) (e2 : s'.1 100 6 = s.1 100 6) (e3 : s'.1 119 = up1 (s.1 119) (ix (s.1 100 5)) (cI (-1))) (e4 : t'.1 549 23 = t.1 549 23) (e5 : t'.1 592 = up1 (t.1 592) (ix (s.1 100 5)) (cI 0)) (e6 : t'.1 593 = up1 (t.1 593) (ix (s.1 100 5)) (cI (-1))) (e7 : t'.1 594 = t.1 594) (e8 : t'.1 595 = up1 (t.1 595) (ix (s.1 100 5)) (cI (-1))) (e9 : t'.1 596 = t.1 596) : RCo n s' t' := by
  obtain ⟨⟨⟨a1, a2⟩, ⟨a3, a4⟩⟩, g2, g3, g4, g5, g6, g7⟩ := h
  have xi : ix (s.1 100 5 + cI 1) = ix (s.1 100 5) + 1 := ix_inc n2 (by omega)
  have m1 : (cI (-1)).toInt = -1 := rfl
  have m0 : (cI 0).toInt = 0 := rfl
  unfold RCo
  rw [e1, e2, e3, e4, e5, e6, e7, e8, e9, xi]
  refine ⟨⟨⟨a1, a2⟩, ⟨a3, a4⟩⟩, g2.ext ⟨by omega, by omega⟩ rfl, g3.ext ⟨by omega, by omega⟩ rfl, fun i hi => ?_, fun i j hi hj => ?_, fun i hi hne => ?_, fun i hi hne => ?_⟩
  · by_cases z : i = ix (s.1 100 5)
    · rw [z, up1_eq, up1_eq]; exact ⟨fun _ => rfl, fun _ => rfl⟩
    · rw [up1_ne z, up1_ne z]; exact g4 i (by omega)
  · have := g2 i
    have := g2 j
    have := g3 i
    have := g3 j
    have g4i := g4 i
    have g4j := g4 j
    by_cases z : i = ix (s.1 100 5)
    · by_cases w : j = ix (s.1 100 5)
      · rw [z, w, up1_eq, up1_eq]; omega
      · have q := g4j (by omega)
        rw [eq_i, eq_i, i32_0, m1] at q
        rw [z, up1_eq, up1_eq, up1_ne w, up1_ne w, m1, m0]; omega
    · by_cases w : j = ix (s.1 100 5)
      · rw [w, up1_eq, up1_eq, up1_ne z, up1_ne z, m1, m0]; omega
      · rw [up1_ne z, up1_ne z, up1_ne w, up1_ne w]; exact g5 i j (by omega) (by omega)
  · by_cases z : i = ix (s.1 100 5)
    · rw [z, up1_eq] at hne; exact absurd rfl hne
    · rw [up1_ne z] at hne; exact g6 i (by omega) hne
  · by_cases z : i = ix (s.1 100 5)
    · rw [z, up1_eq] at hne; exact absurd rfl hne
    · rw [up1_ne z] at hne; exact g7 i (by omega) hne
theorem RSx.add (h : RSx s t) (n2 : 0 ≤ (s.1 100 5).toInt) (n3 : (s.1 100 5).toInt < 300) {x : Int32} (e1 : s'.1 100 5 = s.1 100 5 + cI 1) (e2 : s'.1 102 = up1 (s.1 102) (ix (s.1 100 5)) (cI 0)) (e3 : s'.1 112 = up1 (s.1 112) (ix (s.1 100 5)) (cI 0)) (e4 : s'.1 109 = up1 (s.1 109) (ix (s.1 100 5)) x) (e5 : t'.1 593 = up1 (t.1 593) (ix (s.1 100 5)) (cI (-1))) (e6 : t'.1 595 = up1 (t.1 595) (ix (s.1 100 5)) (cI (-1))) (e7 : t'.1 602 = up1 (t.1 602) (ix (s.1 100 5)) (cI (-1))) (e8 : t'.1 597 = up1 (t.1 597) (ix (s.1 100 5)) (cI (-1))) : RSx s' t' := by
  have xi : ix (s.1 100 5 + cI 1) = ix (s.1 100 5) + 1 := ix_inc n2 (by omega)
  unfold RSx at h ⊢
  rw [e1, e2, e3, e4, e5, e6, e7, e8, xi]
  intro i hi
  by_cases z : i = ix (s.1 100 5)
  · rw [z]
    simp only [up1_eq]
    refine ⟨fun _ => trivial, fun _ => trivial, fun _ => ⟨trivial, trivial⟩, fun q => ?_, fun q => absurd q (by decide), fun q => absurd q (by decide)⟩
    rcases q with q | q | q | q <;> exact absurd q (by decide)
  · simp only [up1_ne z]
    exact h i (by omega)
end
section
variable {s t : ev_M} {F : Bool} {A : Nat → Nat → Int32} {n : Nat}
/-- the reference's facts of a new item -/
def nwM (t : ev_M) (k : Nat) (m x1 x2 x3 x4 x5 x6 : Int32) : ev_M := wI (wI (wI (wI (wI (wI (wI (wI (wI (wI (wI (wI (wI (wI (wI t 549 58 m) 584 k x1) 585 k x2) 586 k x3) 587 k x4) 588 k x5) 589 k x6) 590 k (cI (-1))) 591 k (cI (-1))) 592 k (cI 0)) 599 k (cI 0)) 600 k (cI (-1))) 601 k (cI 0)) 603 k (cI 0)) 604 k (cI 0)
/-- what a new item's facts are, class and reference -/
theorem new_item {w : ev_M} {x1 x2 x3 x4 x5 x6 : Int32} (h : RV n s t) (hk : RCk s t) (hl : RLk s t) (hg : RBg s t) (hr : RRo s t) (n3 : (s.1 100 5).toInt < 300) (hw : ∀ q, q < 22 → w.1 (102 + q) = up1 (s.1 (102 + q)) (ix (s.1 100 5)) (cI (-1))) (hf : ∀ c, (c < 102 ∨ 124 ≤ c) → c ≠ 100 → w.1 c = (lupd A s).1 c) (h1 : w.1 100 5 = s.1 100 5 + cI 1) (h6 : w.1 100 6 = s.1 100 6) (i1 : 0 ≤ x1.toInt ∧ x1.toInt ≤ 3) (i2 : 1 ≤ x2.toInt ∧ x2.toInt ≤ 30000) (i3 : 0 ≤ x3.toInt ∧ x3.toInt ≤ 7) (i4 : Cus x4 (s.1 78 3)) (i5 : 1 ≤ x5.toInt ∧ x5.toInt ≤ 99) (i6 : 0 ≤ x6.toInt ∧ x6.toInt ≤ 100000) (z9 : 0 ≤ (s.1 30 9).toInt) (z2 : 0 ≤ (s.1 30 2).toInt) : RXq n (cmO (tlS w (ix (s.1 100 5)) x1 x2 x3 x4 x5 x6) (ix (s.1 100 5)) (cI 0)) (wI (lvS (nwM t (ix (s.1 100 5)) (s.1 100 5 + cI 1) x1 x2 x3 x4 x5 x6) (ix (s.1 100 5))) 583 (ix (s.1 100 5)) (cI 0)) ∧ RN n (cmO (tlS w (ix (s.1 100 5)) x1 x2 x3 x4 x5 x6) (ix (s.1 100 5)) (cI 0)) (lvS (nwM t (ix (s.1 100 5)) (s.1 100 5 + cI 1) x1 x2 x3 x4 x5 x6) (ix (s.1 100 5))) ∧ RB (cmO (tlS w (ix (s.1 100 5)) x1 x2 x3 x4 x5 x6) (ix (s.1 100 5)) (cI 0)) (lvS (nwM t (ix (s.1 100 5)) (s.1 100 5 + cI 1) x1 x2 x3 x4 x5 x6) (ix (s.1 100 5))) ∧ RCk (cmO (tlS w (ix (s.1 100 5)) x1 x2 x3 x4 x5 x6) (ix (s.1 100 5)) (cI 0)) (lvS (nwM t (ix (s.1 100 5)) (s.1 100 5 + cI 1) x1 x2 x3 x4 x5 x6) (ix (s.1 100 5))) := by
  obtain ⟨⟨n1, n2, -⟩, g1, g2, g3, g4, g5, g6, g7, g8, g9, b1, b2, b3, b4, b5, b6, b7, b8, b9⟩ := id h.1.1
  have ei : ix (s.1 100 5 + cI 1) = ix (s.1 100 5) + 1 := ix_inc n2 (by omega)
  have e4 : (s.1 100 5 + cI 1).toInt = (s.1 100 5).toInt + 1 := inc_i (by omega)
  have m1 : (cI (-1)).toInt = -1 := rfl
  have m0 : (cI 0).toInt = 0 := rfl
  have y1 := i4.1
  have y2 := i4.2
  have w102 : w.1 102 = up1 (s.1 102) (ix (s.1 100 5)) (cI (-1)) := hw 0 (by decide)
  have w103 : w.1 103 = up1 (s.1 103) (ix (s.1 100 5)) (cI (-1)) := hw 1 (by decide)
  have w104 : w.1 104 = up1 (s.1 104) (ix (s.1 100 5)) (cI (-1)) := hw 2 (by decide)
  have w105 : w.1 105 = up1 (s.1 105) (ix (s.1 100 5)) (cI (-1)) := hw 3 (by decide)
  have w106 : w.1 106 = up1 (s.1 106) (ix (s.1 100 5)) (cI (-1)) := hw 4 (by decide)
  have w107 : w.1 107 = up1 (s.1 107) (ix (s.1 100 5)) (cI (-1)) := hw 5 (by decide)
  have w108 : w.1 108 = up1 (s.1 108) (ix (s.1 100 5)) (cI (-1)) := hw 6 (by decide)
  have w109 : w.1 109 = up1 (s.1 109) (ix (s.1 100 5)) (cI (-1)) := hw 7 (by decide)
  have w110 : w.1 110 = up1 (s.1 110) (ix (s.1 100 5)) (cI (-1)) := hw 8 (by decide)
  have w111 : w.1 111 = up1 (s.1 111) (ix (s.1 100 5)) (cI (-1)) := hw 9 (by decide)
  have w112 : w.1 112 = up1 (s.1 112) (ix (s.1 100 5)) (cI (-1)) := hw 10 (by decide)
  have w113 : w.1 113 = up1 (s.1 113) (ix (s.1 100 5)) (cI (-1)) := hw 11 (by decide)
  have w114 : w.1 114 = up1 (s.1 114) (ix (s.1 100 5)) (cI (-1)) := hw 12 (by decide)
  have w115 : w.1 115 = up1 (s.1 115) (ix (s.1 100 5)) (cI (-1)) := hw 13 (by decide)
  have w116 : w.1 116 = up1 (s.1 116) (ix (s.1 100 5)) (cI (-1)) := hw 14 (by decide)
  have w117 : w.1 117 = up1 (s.1 117) (ix (s.1 100 5)) (cI (-1)) := hw 15 (by decide)
  have w118 : w.1 118 = up1 (s.1 118) (ix (s.1 100 5)) (cI (-1)) := hw 16 (by decide)
  have w119 : w.1 119 = up1 (s.1 119) (ix (s.1 100 5)) (cI (-1)) := hw 17 (by decide)
  have w120 : w.1 120 = up1 (s.1 120) (ix (s.1 100 5)) (cI (-1)) := hw 18 (by decide)
  have w121 : w.1 121 = up1 (s.1 121) (ix (s.1 100 5)) (cI (-1)) := hw 19 (by decide)
  have w122 : w.1 122 = up1 (s.1 122) (ix (s.1 100 5)) (cI (-1)) := hw 20 (by decide)
  have w123 : w.1 123 = up1 (s.1 123) (ix (s.1 100 5)) (cI (-1)) := hw 21 (by decide)
  have z102 : (cmO (tlS w (ix (s.1 100 5)) x1 x2 x3 x4 x5 x6) (ix (s.1 100 5)) (cI 0)).1 102 = up1 (s.1 102) (ix (s.1 100 5)) (cI 0) := by unfold cmO tlS; simp (disch := decide) only [ix_0, ix_1, ix_2, ix_3, ix_4, ix_5, ix_6, ix_7, ix_8, ix_9, ix_10, ix_11, ix_12, ix_13, ix_14, ix_15, ix_16, ix_17, ix_18, ix_19, ix_20, ix_21, Nat.reduceAdd, wI_c, wI_ne, wL_1, lupd_ne, up1_eq, up1_ne, w102, up1_up1]
  have z103 : (cmO (tlS w (ix (s.1 100 5)) x1 x2 x3 x4 x5 x6) (ix (s.1 100 5)) (cI 0)).1 103 = up1 (s.1 103) (ix (s.1 100 5)) x1 := by unfold cmO tlS; simp (disch := decide) only [ix_0, ix_1, ix_2, ix_3, ix_4, ix_5, ix_6, ix_7, ix_8, ix_9, ix_10, ix_11, ix_12, ix_13, ix_14, ix_15, ix_16, ix_17, ix_18, ix_19, ix_20, ix_21, Nat.reduceAdd, wI_c, wI_ne, wL_1, lupd_ne, up1_eq, up1_ne, w103, up1_up1]
  have z104 : (cmO (tlS w (ix (s.1 100 5)) x1 x2 x3 x4 x5 x6) (ix (s.1 100 5)) (cI 0)).1 104 = up1 (s.1 104) (ix (s.1 100 5)) x2 := by unfold cmO tlS; simp (disch := decide) only [ix_0, ix_1, ix_2, ix_3, ix_4, ix_5, ix_6, ix_7, ix_8, ix_9, ix_10, ix_11, ix_12, ix_13, ix_14, ix_15, ix_16, ix_17, ix_18, ix_19, ix_20, ix_21, Nat.reduceAdd, wI_c, wI_ne, wL_1, lupd_ne, up1_eq, up1_ne, w104, up1_up1]
  have z105 : (cmO (tlS w (ix (s.1 100 5)) x1 x2 x3 x4 x5 x6) (ix (s.1 100 5)) (cI 0)).1 105 = up1 (s.1 105) (ix (s.1 100 5)) x3 := by unfold cmO tlS; simp (disch := decide) only [ix_0, ix_1, ix_2, ix_3, ix_4, ix_5, ix_6, ix_7, ix_8, ix_9, ix_10, ix_11, ix_12, ix_13, ix_14, ix_15, ix_16, ix_17, ix_18, ix_19, ix_20, ix_21, Nat.reduceAdd, wI_c, wI_ne, wL_1, lupd_ne, up1_eq, up1_ne, w105, up1_up1]
  have z106 : (cmO (tlS w (ix (s.1 100 5)) x1 x2 x3 x4 x5 x6) (ix (s.1 100 5)) (cI 0)).1 106 = up1 (s.1 106) (ix (s.1 100 5)) x4 := by unfold cmO tlS; simp (disch := decide) only [ix_0, ix_1, ix_2, ix_3, ix_4, ix_5, ix_6, ix_7, ix_8, ix_9, ix_10, ix_11, ix_12, ix_13, ix_14, ix_15, ix_16, ix_17, ix_18, ix_19, ix_20, ix_21, Nat.reduceAdd, wI_c, wI_ne, wL_1, lupd_ne, up1_eq, up1_ne, w106, up1_up1]
  have z107 : (cmO (tlS w (ix (s.1 100 5)) x1 x2 x3 x4 x5 x6) (ix (s.1 100 5)) (cI 0)).1 107 = up1 (s.1 107) (ix (s.1 100 5)) x5 := by unfold cmO tlS; simp (disch := decide) only [ix_0, ix_1, ix_2, ix_3, ix_4, ix_5, ix_6, ix_7, ix_8, ix_9, ix_10, ix_11, ix_12, ix_13, ix_14, ix_15, ix_16, ix_17, ix_18, ix_19, ix_20, ix_21, Nat.reduceAdd, wI_c, wI_ne, wL_1, lupd_ne, up1_eq, up1_ne, w107, up1_up1]
  have z108 : (cmO (tlS w (ix (s.1 100 5)) x1 x2 x3 x4 x5 x6) (ix (s.1 100 5)) (cI 0)).1 108 = up1 (s.1 108) (ix (s.1 100 5)) x6 := by unfold cmO tlS; simp (disch := decide) only [ix_0, ix_1, ix_2, ix_3, ix_4, ix_5, ix_6, ix_7, ix_8, ix_9, ix_10, ix_11, ix_12, ix_13, ix_14, ix_15, ix_16, ix_17, ix_18, ix_19, ix_20, ix_21, Nat.reduceAdd, wI_c, wI_ne, wL_1, lupd_ne, up1_eq, up1_ne, w108, up1_up1]
  have z109 : (cmO (tlS w (ix (s.1 100 5)) x1 x2 x3 x4 x5 x6) (ix (s.1 100 5)) (cI 0)).1 109 = up1 (s.1 109) (ix (s.1 100 5)) (cI (-1)) := by unfold cmO tlS; simp (disch := decide) only [ix_0, ix_1, ix_2, ix_3, ix_4, ix_5, ix_6, ix_7, ix_8, ix_9, ix_10, ix_11, ix_12, ix_13, ix_14, ix_15, ix_16, ix_17, ix_18, ix_19, ix_20, ix_21, Nat.reduceAdd, wI_c, wI_ne, wL_1, lupd_ne, up1_eq, up1_ne, w109, up1_up1]
  have z110 : (cmO (tlS w (ix (s.1 100 5)) x1 x2 x3 x4 x5 x6) (ix (s.1 100 5)) (cI 0)).1 110 = up1 (s.1 110) (ix (s.1 100 5)) (cI (-1)) := by unfold cmO tlS; simp (disch := decide) only [ix_0, ix_1, ix_2, ix_3, ix_4, ix_5, ix_6, ix_7, ix_8, ix_9, ix_10, ix_11, ix_12, ix_13, ix_14, ix_15, ix_16, ix_17, ix_18, ix_19, ix_20, ix_21, Nat.reduceAdd, wI_c, wI_ne, wL_1, lupd_ne, up1_eq, up1_ne, w110, up1_up1]
  have z111 : (cmO (tlS w (ix (s.1 100 5)) x1 x2 x3 x4 x5 x6) (ix (s.1 100 5)) (cI 0)).1 111 = up1 (s.1 111) (ix (s.1 100 5)) (cI (-1)) := by unfold cmO tlS; simp (disch := decide) only [ix_0, ix_1, ix_2, ix_3, ix_4, ix_5, ix_6, ix_7, ix_8, ix_9, ix_10, ix_11, ix_12, ix_13, ix_14, ix_15, ix_16, ix_17, ix_18, ix_19, ix_20, ix_21, Nat.reduceAdd, wI_c, wI_ne, wL_1, lupd_ne, up1_eq, up1_ne, w111, up1_up1]
  have z112 : (cmO (tlS w (ix (s.1 100 5)) x1 x2 x3 x4 x5 x6) (ix (s.1 100 5)) (cI 0)).1 112 = up1 (s.1 112) (ix (s.1 100 5)) (cI 0) := by unfold cmO tlS; simp (disch := decide) only [ix_0, ix_1, ix_2, ix_3, ix_4, ix_5, ix_6, ix_7, ix_8, ix_9, ix_10, ix_11, ix_12, ix_13, ix_14, ix_15, ix_16, ix_17, ix_18, ix_19, ix_20, ix_21, Nat.reduceAdd, wI_c, wI_ne, wL_1, lupd_ne, up1_eq, up1_ne, w112, up1_up1]
  have z113 : (cmO (tlS w (ix (s.1 100 5)) x1 x2 x3 x4 x5 x6) (ix (s.1 100 5)) (cI 0)).1 113 = up1 (s.1 113) (ix (s.1 100 5)) (cI (-1)) := by unfold cmO tlS; simp (disch := decide) only [ix_0, ix_1, ix_2, ix_3, ix_4, ix_5, ix_6, ix_7, ix_8, ix_9, ix_10, ix_11, ix_12, ix_13, ix_14, ix_15, ix_16, ix_17, ix_18, ix_19, ix_20, ix_21, Nat.reduceAdd, wI_c, wI_ne, wL_1, lupd_ne, up1_eq, up1_ne, w113, up1_up1]
  have z115 : (cmO (tlS w (ix (s.1 100 5)) x1 x2 x3 x4 x5 x6) (ix (s.1 100 5)) (cI 0)).1 115 = up1 (s.1 115) (ix (s.1 100 5)) (cI 0) := by unfold cmO tlS; simp (disch := decide) only [ix_0, ix_1, ix_2, ix_3, ix_4, ix_5, ix_6, ix_7, ix_8, ix_9, ix_10, ix_11, ix_12, ix_13, ix_14, ix_15, ix_16, ix_17, ix_18, ix_19, ix_20, ix_21, Nat.reduceAdd, wI_c, wI_ne, wL_1, lupd_ne, up1_eq, up1_ne, w115, up1_up1]
  have z116 : (cmO (tlS w (ix (s.1 100 5)) x1 x2 x3 x4 x5 x6) (ix (s.1 100 5)) (cI 0)).1 116 = up1 (s.1 116) (ix (s.1 100 5)) (cI (-1)) := by unfold cmO tlS; simp (disch := decide) only [ix_0, ix_1, ix_2, ix_3, ix_4, ix_5, ix_6, ix_7, ix_8, ix_9, ix_10, ix_11, ix_12, ix_13, ix_14, ix_15, ix_16, ix_17, ix_18, ix_19, ix_20, ix_21, Nat.reduceAdd, wI_c, wI_ne, wL_1, lupd_ne, up1_eq, up1_ne, w116, up1_up1]
  have z117 : (cmO (tlS w (ix (s.1 100 5)) x1 x2 x3 x4 x5 x6) (ix (s.1 100 5)) (cI 0)).1 117 = up1 (s.1 117) (ix (s.1 100 5)) (cI (-1)) := by unfold cmO tlS; simp (disch := decide) only [ix_0, ix_1, ix_2, ix_3, ix_4, ix_5, ix_6, ix_7, ix_8, ix_9, ix_10, ix_11, ix_12, ix_13, ix_14, ix_15, ix_16, ix_17, ix_18, ix_19, ix_20, ix_21, Nat.reduceAdd, wI_c, wI_ne, wL_1, lupd_ne, up1_eq, up1_ne, w117, up1_up1]
  have z119 : (cmO (tlS w (ix (s.1 100 5)) x1 x2 x3 x4 x5 x6) (ix (s.1 100 5)) (cI 0)).1 119 = up1 (s.1 119) (ix (s.1 100 5)) (cI (-1)) := by unfold cmO tlS; simp (disch := decide) only [ix_0, ix_1, ix_2, ix_3, ix_4, ix_5, ix_6, ix_7, ix_8, ix_9, ix_10, ix_11, ix_12, ix_13, ix_14, ix_15, ix_16, ix_17, ix_18, ix_19, ix_20, ix_21, Nat.reduceAdd, wI_c, wI_ne, wL_1, lupd_ne, up1_eq, up1_ne, w119, up1_up1]
  have z120 : (cmO (tlS w (ix (s.1 100 5)) x1 x2 x3 x4 x5 x6) (ix (s.1 100 5)) (cI 0)).1 120 = up1 (s.1 120) (ix (s.1 100 5)) (cI 0) := by unfold cmO tlS; simp (disch := decide) only [ix_0, ix_1, ix_2, ix_3, ix_4, ix_5, ix_6, ix_7, ix_8, ix_9, ix_10, ix_11, ix_12, ix_13, ix_14, ix_15, ix_16, ix_17, ix_18, ix_19, ix_20, ix_21, Nat.reduceAdd, wI_c, wI_ne, wL_1, lupd_ne, up1_eq, up1_ne, w120, up1_up1]
  have z121 : (cmO (tlS w (ix (s.1 100 5)) x1 x2 x3 x4 x5 x6) (ix (s.1 100 5)) (cI 0)).1 121 = up1 (s.1 121) (ix (s.1 100 5)) (cI 0) := by unfold cmO tlS; simp (disch := decide) only [ix_0, ix_1, ix_2, ix_3, ix_4, ix_5, ix_6, ix_7, ix_8, ix_9, ix_10, ix_11, ix_12, ix_13, ix_14, ix_15, ix_16, ix_17, ix_18, ix_19, ix_20, ix_21, Nat.reduceAdd, wI_c, wI_ne, wL_1, lupd_ne, up1_eq, up1_ne, w121, up1_up1]
  have z122 : (cmO (tlS w (ix (s.1 100 5)) x1 x2 x3 x4 x5 x6) (ix (s.1 100 5)) (cI 0)).1 122 = up1 (s.1 122) (ix (s.1 100 5)) (cI (-1)) := by unfold cmO tlS; simp (disch := decide) only [ix_0, ix_1, ix_2, ix_3, ix_4, ix_5, ix_6, ix_7, ix_8, ix_9, ix_10, ix_11, ix_12, ix_13, ix_14, ix_15, ix_16, ix_17, ix_18, ix_19, ix_20, ix_21, Nat.reduceAdd, wI_c, wI_ne, wL_1, lupd_ne, up1_eq, up1_ne, w122, up1_up1]
  have z123 : (cmO (tlS w (ix (s.1 100 5)) x1 x2 x3 x4 x5 x6) (ix (s.1 100 5)) (cI 0)).1 123 = up1 (s.1 123) (ix (s.1 100 5)) (cI (-1)) := by unfold cmO tlS; simp (disch := decide) only [ix_0, ix_1, ix_2, ix_3, ix_4, ix_5, ix_6, ix_7, ix_8, ix_9, ix_10, ix_11, ix_12, ix_13, ix_14, ix_15, ix_16, ix_17, ix_18, ix_19, ix_20, ix_21, Nat.reduceAdd, wI_c, wI_ne, wL_1, lupd_ne, up1_eq, up1_ne, w123, up1_up1]
  have zo : ∀ c, (c < 102 ∨ 124 ≤ c) → c ≠ 100 → (cmO (tlS w (ix (s.1 100 5)) x1 x2 x3 x4 x5 x6) (ix (s.1 100 5)) (cI 0)).1 c = (lupd A s).1 c := fun c hc hc2 => by
    unfold cmO tlS
    rw [wI_ne (by omega), wI_ne (by omega), wI_ne (by omega), wI_ne (by omega), wI_ne (by omega), wI_ne (by omega), wI_ne (by omega), wI_ne (by omega), wI_ne (by omega), wI_ne (by omega), wI_ne (by omega), wI_ne (by omega), wI_ne (by omega), wI_ne (by omega)]
    exact hf c hc hc2
  have zs : ∀ c, (c < 9 ∨ 14 < c) → (c < 102 ∨ 124 ≤ c) → c ≠ 100 → (cmO (tlS w (ix (s.1 100 5)) x1 x2 x3 x4 x5 x6) (ix (s.1 100 5)) (cI 0)).1 c = s.1 c := fun c h9 hc hc2 => (zo c hc hc2).trans (lupd_ne h9)
  have z5 : (cmO (tlS w (ix (s.1 100 5)) x1 x2 x3 x4 x5 x6) (ix (s.1 100 5)) (cI 0)).1 100 5 = s.1 100 5 + cI 1 := by unfold cmO tlS; simp (disch := decide) only [ix_0, ix_1, ix_2, ix_3, ix_4, ix_5, ix_6, ix_7, ix_8, ix_9, ix_10, ix_11, ix_12, ix_13, ix_14, ix_15, ix_16, ix_17, ix_18, ix_19, ix_20, ix_21, Nat.reduceAdd, wI_c, wI_ne, wL_1, lupd_ne, up1_eq, up1_ne, h1]
  have z6 : (cmO (tlS w (ix (s.1 100 5)) x1 x2 x3 x4 x5 x6) (ix (s.1 100 5)) (cI 0)).1 100 6 = s.1 100 6 := by unfold cmO tlS; simp (disch := decide) only [ix_0, ix_1, ix_2, ix_3, ix_4, ix_5, ix_6, ix_7, ix_8, ix_9, ix_10, ix_11, ix_12, ix_13, ix_14, ix_15, ix_16, ix_17, ix_18, ix_19, ix_20, ix_21, Nat.reduceAdd, wI_c, wI_ne, wL_1, lupd_ne, up1_eq, up1_ne, h6]
  have y583 : (wI (lvS (nwM t (ix (s.1 100 5)) (s.1 100 5 + cI 1) x1 x2 x3 x4 x5 x6) (ix (s.1 100 5))) 583 (ix (s.1 100 5)) (cI 0)).1 583 = up1 (t.1 583) (ix (s.1 100 5)) (cI 0) := by unfold lvS nwM; simp (disch := decide) only [ix_0, ix_1, ix_2, ix_3, ix_4, ix_5, ix_6, ix_7, ix_8, ix_9, ix_10, ix_11, ix_12, ix_13, ix_14, ix_15, ix_16, ix_17, ix_18, ix_19, ix_20, ix_21, Nat.reduceAdd, wI_c, wI_ne, wL_1, lupd_ne, up1_eq, up1_ne]
  have y584 : (lvS (nwM t (ix (s.1 100 5)) (s.1 100 5 + cI 1) x1 x2 x3 x4 x5 x6) (ix (s.1 100 5))).1 584 = up1 (t.1 584) (ix (s.1 100 5)) x1 := by unfold lvS nwM; simp (disch := decide) only [ix_0, ix_1, ix_2, ix_3, ix_4, ix_5, ix_6, ix_7, ix_8, ix_9, ix_10, ix_11, ix_12, ix_13, ix_14, ix_15, ix_16, ix_17, ix_18, ix_19, ix_20, ix_21, Nat.reduceAdd, wI_c, wI_ne, wL_1, lupd_ne, up1_eq, up1_ne, up1_up1]
  have v584 : (wI (lvS (nwM t (ix (s.1 100 5)) (s.1 100 5 + cI 1) x1 x2 x3 x4 x5 x6) (ix (s.1 100 5))) 583 (ix (s.1 100 5)) (cI 0)).1 584 = up1 (t.1 584) (ix (s.1 100 5)) x1 := by rw [wI_ne (by decide)]; exact y584
  have y585 : (lvS (nwM t (ix (s.1 100 5)) (s.1 100 5 + cI 1) x1 x2 x3 x4 x5 x6) (ix (s.1 100 5))).1 585 = up1 (t.1 585) (ix (s.1 100 5)) x2 := by unfold lvS nwM; simp (disch := decide) only [ix_0, ix_1, ix_2, ix_3, ix_4, ix_5, ix_6, ix_7, ix_8, ix_9, ix_10, ix_11, ix_12, ix_13, ix_14, ix_15, ix_16, ix_17, ix_18, ix_19, ix_20, ix_21, Nat.reduceAdd, wI_c, wI_ne, wL_1, lupd_ne, up1_eq, up1_ne, up1_up1]
  have v585 : (wI (lvS (nwM t (ix (s.1 100 5)) (s.1 100 5 + cI 1) x1 x2 x3 x4 x5 x6) (ix (s.1 100 5))) 583 (ix (s.1 100 5)) (cI 0)).1 585 = up1 (t.1 585) (ix (s.1 100 5)) x2 := by rw [wI_ne (by decide)]; exact y585
  have y586 : (lvS (nwM t (ix (s.1 100 5)) (s.1 100 5 + cI 1) x1 x2 x3 x4 x5 x6) (ix (s.1 100 5))).1 586 = up1 (t.1 586) (ix (s.1 100 5)) x3 := by unfold lvS nwM; simp (disch := decide) only [ix_0, ix_1, ix_2, ix_3, ix_4, ix_5, ix_6, ix_7, ix_8, ix_9, ix_10, ix_11, ix_12, ix_13, ix_14, ix_15, ix_16, ix_17, ix_18, ix_19, ix_20, ix_21, Nat.reduceAdd, wI_c, wI_ne, wL_1, lupd_ne, up1_eq, up1_ne, up1_up1]
  have v586 : (wI (lvS (nwM t (ix (s.1 100 5)) (s.1 100 5 + cI 1) x1 x2 x3 x4 x5 x6) (ix (s.1 100 5))) 583 (ix (s.1 100 5)) (cI 0)).1 586 = up1 (t.1 586) (ix (s.1 100 5)) x3 := by rw [wI_ne (by decide)]; exact y586
  have y587 : (lvS (nwM t (ix (s.1 100 5)) (s.1 100 5 + cI 1) x1 x2 x3 x4 x5 x6) (ix (s.1 100 5))).1 587 = up1 (t.1 587) (ix (s.1 100 5)) x4 := by unfold lvS nwM; simp (disch := decide) only [ix_0, ix_1, ix_2, ix_3, ix_4, ix_5, ix_6, ix_7, ix_8, ix_9, ix_10, ix_11, ix_12, ix_13, ix_14, ix_15, ix_16, ix_17, ix_18, ix_19, ix_20, ix_21, Nat.reduceAdd, wI_c, wI_ne, wL_1, lupd_ne, up1_eq, up1_ne, up1_up1]
  have v587 : (wI (lvS (nwM t (ix (s.1 100 5)) (s.1 100 5 + cI 1) x1 x2 x3 x4 x5 x6) (ix (s.1 100 5))) 583 (ix (s.1 100 5)) (cI 0)).1 587 = up1 (t.1 587) (ix (s.1 100 5)) x4 := by rw [wI_ne (by decide)]; exact y587
  have y588 : (lvS (nwM t (ix (s.1 100 5)) (s.1 100 5 + cI 1) x1 x2 x3 x4 x5 x6) (ix (s.1 100 5))).1 588 = up1 (t.1 588) (ix (s.1 100 5)) x5 := by unfold lvS nwM; simp (disch := decide) only [ix_0, ix_1, ix_2, ix_3, ix_4, ix_5, ix_6, ix_7, ix_8, ix_9, ix_10, ix_11, ix_12, ix_13, ix_14, ix_15, ix_16, ix_17, ix_18, ix_19, ix_20, ix_21, Nat.reduceAdd, wI_c, wI_ne, wL_1, lupd_ne, up1_eq, up1_ne, up1_up1]
  have v588 : (wI (lvS (nwM t (ix (s.1 100 5)) (s.1 100 5 + cI 1) x1 x2 x3 x4 x5 x6) (ix (s.1 100 5))) 583 (ix (s.1 100 5)) (cI 0)).1 588 = up1 (t.1 588) (ix (s.1 100 5)) x5 := by rw [wI_ne (by decide)]; exact y588
  have y589 : (lvS (nwM t (ix (s.1 100 5)) (s.1 100 5 + cI 1) x1 x2 x3 x4 x5 x6) (ix (s.1 100 5))).1 589 = up1 (t.1 589) (ix (s.1 100 5)) x6 := by unfold lvS nwM; simp (disch := decide) only [ix_0, ix_1, ix_2, ix_3, ix_4, ix_5, ix_6, ix_7, ix_8, ix_9, ix_10, ix_11, ix_12, ix_13, ix_14, ix_15, ix_16, ix_17, ix_18, ix_19, ix_20, ix_21, Nat.reduceAdd, wI_c, wI_ne, wL_1, lupd_ne, up1_eq, up1_ne, up1_up1]
  have v589 : (wI (lvS (nwM t (ix (s.1 100 5)) (s.1 100 5 + cI 1) x1 x2 x3 x4 x5 x6) (ix (s.1 100 5))) 583 (ix (s.1 100 5)) (cI 0)).1 589 = up1 (t.1 589) (ix (s.1 100 5)) x6 := by rw [wI_ne (by decide)]; exact y589
  have y590 : (lvS (nwM t (ix (s.1 100 5)) (s.1 100 5 + cI 1) x1 x2 x3 x4 x5 x6) (ix (s.1 100 5))).1 590 = up1 (t.1 590) (ix (s.1 100 5)) (cI (-1)) := by unfold lvS nwM; simp (disch := decide) only [ix_0, ix_1, ix_2, ix_3, ix_4, ix_5, ix_6, ix_7, ix_8, ix_9, ix_10, ix_11, ix_12, ix_13, ix_14, ix_15, ix_16, ix_17, ix_18, ix_19, ix_20, ix_21, Nat.reduceAdd, wI_c, wI_ne, wL_1, lupd_ne, up1_eq, up1_ne, up1_up1]
  have v590 : (wI (lvS (nwM t (ix (s.1 100 5)) (s.1 100 5 + cI 1) x1 x2 x3 x4 x5 x6) (ix (s.1 100 5))) 583 (ix (s.1 100 5)) (cI 0)).1 590 = up1 (t.1 590) (ix (s.1 100 5)) (cI (-1)) := by rw [wI_ne (by decide)]; exact y590
  have y591 : (lvS (nwM t (ix (s.1 100 5)) (s.1 100 5 + cI 1) x1 x2 x3 x4 x5 x6) (ix (s.1 100 5))).1 591 = up1 (t.1 591) (ix (s.1 100 5)) (cI (-1)) := by unfold lvS nwM; simp (disch := decide) only [ix_0, ix_1, ix_2, ix_3, ix_4, ix_5, ix_6, ix_7, ix_8, ix_9, ix_10, ix_11, ix_12, ix_13, ix_14, ix_15, ix_16, ix_17, ix_18, ix_19, ix_20, ix_21, Nat.reduceAdd, wI_c, wI_ne, wL_1, lupd_ne, up1_eq, up1_ne, up1_up1]
  have v591 : (wI (lvS (nwM t (ix (s.1 100 5)) (s.1 100 5 + cI 1) x1 x2 x3 x4 x5 x6) (ix (s.1 100 5))) 583 (ix (s.1 100 5)) (cI 0)).1 591 = up1 (t.1 591) (ix (s.1 100 5)) (cI (-1)) := by rw [wI_ne (by decide)]; exact y591
  have y592 : (lvS (nwM t (ix (s.1 100 5)) (s.1 100 5 + cI 1) x1 x2 x3 x4 x5 x6) (ix (s.1 100 5))).1 592 = up1 (t.1 592) (ix (s.1 100 5)) (cI 0) := by unfold lvS nwM; simp (disch := decide) only [ix_0, ix_1, ix_2, ix_3, ix_4, ix_5, ix_6, ix_7, ix_8, ix_9, ix_10, ix_11, ix_12, ix_13, ix_14, ix_15, ix_16, ix_17, ix_18, ix_19, ix_20, ix_21, Nat.reduceAdd, wI_c, wI_ne, wL_1, lupd_ne, up1_eq, up1_ne, up1_up1]
  have v592 : (wI (lvS (nwM t (ix (s.1 100 5)) (s.1 100 5 + cI 1) x1 x2 x3 x4 x5 x6) (ix (s.1 100 5))) 583 (ix (s.1 100 5)) (cI 0)).1 592 = up1 (t.1 592) (ix (s.1 100 5)) (cI 0) := by rw [wI_ne (by decide)]; exact y592
  have y593 : (lvS (nwM t (ix (s.1 100 5)) (s.1 100 5 + cI 1) x1 x2 x3 x4 x5 x6) (ix (s.1 100 5))).1 593 = up1 (t.1 593) (ix (s.1 100 5)) (cI (-1)) := by unfold lvS nwM; simp (disch := decide) only [ix_0, ix_1, ix_2, ix_3, ix_4, ix_5, ix_6, ix_7, ix_8, ix_9, ix_10, ix_11, ix_12, ix_13, ix_14, ix_15, ix_16, ix_17, ix_18, ix_19, ix_20, ix_21, Nat.reduceAdd, wI_c, wI_ne, wL_1, lupd_ne, up1_eq, up1_ne, up1_up1]
  have v593 : (wI (lvS (nwM t (ix (s.1 100 5)) (s.1 100 5 + cI 1) x1 x2 x3 x4 x5 x6) (ix (s.1 100 5))) 583 (ix (s.1 100 5)) (cI 0)).1 593 = up1 (t.1 593) (ix (s.1 100 5)) (cI (-1)) := by rw [wI_ne (by decide)]; exact y593
  have y595 : (lvS (nwM t (ix (s.1 100 5)) (s.1 100 5 + cI 1) x1 x2 x3 x4 x5 x6) (ix (s.1 100 5))).1 595 = up1 (t.1 595) (ix (s.1 100 5)) (cI (-1)) := by unfold lvS nwM; simp (disch := decide) only [ix_0, ix_1, ix_2, ix_3, ix_4, ix_5, ix_6, ix_7, ix_8, ix_9, ix_10, ix_11, ix_12, ix_13, ix_14, ix_15, ix_16, ix_17, ix_18, ix_19, ix_20, ix_21, Nat.reduceAdd, wI_c, wI_ne, wL_1, lupd_ne, up1_eq, up1_ne, up1_up1]
  have v595 : (wI (lvS (nwM t (ix (s.1 100 5)) (s.1 100 5 + cI 1) x1 x2 x3 x4 x5 x6) (ix (s.1 100 5))) 583 (ix (s.1 100 5)) (cI 0)).1 595 = up1 (t.1 595) (ix (s.1 100 5)) (cI (-1)) := by rw [wI_ne (by decide)]; exact y595
  have y597 : (lvS (nwM t (ix (s.1 100 5)) (s.1 100 5 + cI 1) x1 x2 x3 x4 x5 x6) (ix (s.1 100 5))).1 597 = up1 (t.1 597) (ix (s.1 100 5)) (cI (-1)) := by unfold lvS nwM; simp (disch := decide) only [ix_0, ix_1, ix_2, ix_3, ix_4, ix_5, ix_6, ix_7, ix_8, ix_9, ix_10, ix_11, ix_12, ix_13, ix_14, ix_15, ix_16, ix_17, ix_18, ix_19, ix_20, ix_21, Nat.reduceAdd, wI_c, wI_ne, wL_1, lupd_ne, up1_eq, up1_ne, up1_up1]
  have v597 : (wI (lvS (nwM t (ix (s.1 100 5)) (s.1 100 5 + cI 1) x1 x2 x3 x4 x5 x6) (ix (s.1 100 5))) 583 (ix (s.1 100 5)) (cI 0)).1 597 = up1 (t.1 597) (ix (s.1 100 5)) (cI (-1)) := by rw [wI_ne (by decide)]; exact y597
  have y598 : (lvS (nwM t (ix (s.1 100 5)) (s.1 100 5 + cI 1) x1 x2 x3 x4 x5 x6) (ix (s.1 100 5))).1 598 = up1 (t.1 598) (ix (s.1 100 5)) (cI (-1)) := by unfold lvS nwM; simp (disch := decide) only [ix_0, ix_1, ix_2, ix_3, ix_4, ix_5, ix_6, ix_7, ix_8, ix_9, ix_10, ix_11, ix_12, ix_13, ix_14, ix_15, ix_16, ix_17, ix_18, ix_19, ix_20, ix_21, Nat.reduceAdd, wI_c, wI_ne, wL_1, lupd_ne, up1_eq, up1_ne, up1_up1]
  have v598 : (wI (lvS (nwM t (ix (s.1 100 5)) (s.1 100 5 + cI 1) x1 x2 x3 x4 x5 x6) (ix (s.1 100 5))) 583 (ix (s.1 100 5)) (cI 0)).1 598 = up1 (t.1 598) (ix (s.1 100 5)) (cI (-1)) := by rw [wI_ne (by decide)]; exact y598
  have y599 : (lvS (nwM t (ix (s.1 100 5)) (s.1 100 5 + cI 1) x1 x2 x3 x4 x5 x6) (ix (s.1 100 5))).1 599 = up1 (t.1 599) (ix (s.1 100 5)) (cI 0) := by unfold lvS nwM; simp (disch := decide) only [ix_0, ix_1, ix_2, ix_3, ix_4, ix_5, ix_6, ix_7, ix_8, ix_9, ix_10, ix_11, ix_12, ix_13, ix_14, ix_15, ix_16, ix_17, ix_18, ix_19, ix_20, ix_21, Nat.reduceAdd, wI_c, wI_ne, wL_1, lupd_ne, up1_eq, up1_ne, up1_up1]
  have v599 : (wI (lvS (nwM t (ix (s.1 100 5)) (s.1 100 5 + cI 1) x1 x2 x3 x4 x5 x6) (ix (s.1 100 5))) 583 (ix (s.1 100 5)) (cI 0)).1 599 = up1 (t.1 599) (ix (s.1 100 5)) (cI 0) := by rw [wI_ne (by decide)]; exact y599
  have y600 : (lvS (nwM t (ix (s.1 100 5)) (s.1 100 5 + cI 1) x1 x2 x3 x4 x5 x6) (ix (s.1 100 5))).1 600 = up1 (t.1 600) (ix (s.1 100 5)) (cI (-1)) := by unfold lvS nwM; simp (disch := decide) only [ix_0, ix_1, ix_2, ix_3, ix_4, ix_5, ix_6, ix_7, ix_8, ix_9, ix_10, ix_11, ix_12, ix_13, ix_14, ix_15, ix_16, ix_17, ix_18, ix_19, ix_20, ix_21, Nat.reduceAdd, wI_c, wI_ne, wL_1, lupd_ne, up1_eq, up1_ne, up1_up1]
  have v600 : (wI (lvS (nwM t (ix (s.1 100 5)) (s.1 100 5 + cI 1) x1 x2 x3 x4 x5 x6) (ix (s.1 100 5))) 583 (ix (s.1 100 5)) (cI 0)).1 600 = up1 (t.1 600) (ix (s.1 100 5)) (cI (-1)) := by rw [wI_ne (by decide)]; exact y600
  have y601 : (lvS (nwM t (ix (s.1 100 5)) (s.1 100 5 + cI 1) x1 x2 x3 x4 x5 x6) (ix (s.1 100 5))).1 601 = up1 (t.1 601) (ix (s.1 100 5)) (cI 0) := by unfold lvS nwM; simp (disch := decide) only [ix_0, ix_1, ix_2, ix_3, ix_4, ix_5, ix_6, ix_7, ix_8, ix_9, ix_10, ix_11, ix_12, ix_13, ix_14, ix_15, ix_16, ix_17, ix_18, ix_19, ix_20, ix_21, Nat.reduceAdd, wI_c, wI_ne, wL_1, lupd_ne, up1_eq, up1_ne, up1_up1]
  have v601 : (wI (lvS (nwM t (ix (s.1 100 5)) (s.1 100 5 + cI 1) x1 x2 x3 x4 x5 x6) (ix (s.1 100 5))) 583 (ix (s.1 100 5)) (cI 0)).1 601 = up1 (t.1 601) (ix (s.1 100 5)) (cI 0) := by rw [wI_ne (by decide)]; exact y601
  have y602 : (lvS (nwM t (ix (s.1 100 5)) (s.1 100 5 + cI 1) x1 x2 x3 x4 x5 x6) (ix (s.1 100 5))).1 602 = up1 (t.1 602) (ix (s.1 100 5)) (cI (-1)) := by unfold lvS nwM; simp (disch := decide) only [ix_0, ix_1, ix_2, ix_3, ix_4, ix_5, ix_6, ix_7, ix_8, ix_9, ix_10, ix_11, ix_12, ix_13, ix_14, ix_15, ix_16, ix_17, ix_18, ix_19, ix_20, ix_21, Nat.reduceAdd, wI_c, wI_ne, wL_1, lupd_ne, up1_eq, up1_ne, up1_up1]
  have v602 : (wI (lvS (nwM t (ix (s.1 100 5)) (s.1 100 5 + cI 1) x1 x2 x3 x4 x5 x6) (ix (s.1 100 5))) 583 (ix (s.1 100 5)) (cI 0)).1 602 = up1 (t.1 602) (ix (s.1 100 5)) (cI (-1)) := by rw [wI_ne (by decide)]; exact y602
  have y603 : (lvS (nwM t (ix (s.1 100 5)) (s.1 100 5 + cI 1) x1 x2 x3 x4 x5 x6) (ix (s.1 100 5))).1 603 = up1 (t.1 603) (ix (s.1 100 5)) (cI 0) := by unfold lvS nwM; simp (disch := decide) only [ix_0, ix_1, ix_2, ix_3, ix_4, ix_5, ix_6, ix_7, ix_8, ix_9, ix_10, ix_11, ix_12, ix_13, ix_14, ix_15, ix_16, ix_17, ix_18, ix_19, ix_20, ix_21, Nat.reduceAdd, wI_c, wI_ne, wL_1, lupd_ne, up1_eq, up1_ne, up1_up1]
  have v603 : (wI (lvS (nwM t (ix (s.1 100 5)) (s.1 100 5 + cI 1) x1 x2 x3 x4 x5 x6) (ix (s.1 100 5))) 583 (ix (s.1 100 5)) (cI 0)).1 603 = up1 (t.1 603) (ix (s.1 100 5)) (cI 0) := by rw [wI_ne (by decide)]; exact y603
  have y604 : (lvS (nwM t (ix (s.1 100 5)) (s.1 100 5 + cI 1) x1 x2 x3 x4 x5 x6) (ix (s.1 100 5))).1 604 = up1 (t.1 604) (ix (s.1 100 5)) (cI 0) := by unfold lvS nwM; simp (disch := decide) only [ix_0, ix_1, ix_2, ix_3, ix_4, ix_5, ix_6, ix_7, ix_8, ix_9, ix_10, ix_11, ix_12, ix_13, ix_14, ix_15, ix_16, ix_17, ix_18, ix_19, ix_20, ix_21, Nat.reduceAdd, wI_c, wI_ne, wL_1, lupd_ne, up1_eq, up1_ne, up1_up1]
  have v604 : (wI (lvS (nwM t (ix (s.1 100 5)) (s.1 100 5 + cI 1) x1 x2 x3 x4 x5 x6) (ix (s.1 100 5))) 583 (ix (s.1 100 5)) (cI 0)).1 604 = up1 (t.1 604) (ix (s.1 100 5)) (cI 0) := by rw [wI_ne (by decide)]; exact y604
  have yf : fr [(549, 549, 59), (584, 593, 0), (595, 595, 0), (597, 604, 0)] t (lvS (nwM t (ix (s.1 100 5)) (s.1 100 5 + cI 1) x1 x2 x3 x4 x5 x6) (ix (s.1 100 5))) := by
    unfold lvS nwM
    exact (((((((((((((((((((fr.rf.wI rfl).wI rfl).wI rfl).wI rfl).wI rfl).wI rfl).wI rfl).wI rfl).wI rfl).wI rfl).wI rfl).wI rfl).wI rfl).wI rfl).wI rfl).wI rfl).wI rfl).wI rfl).wI rfl).wI rfl
  have y58 : (wI (lvS (nwM t (ix (s.1 100 5)) (s.1 100 5 + cI 1) x1 x2 x3 x4 x5 x6) (ix (s.1 100 5))) 583 (ix (s.1 100 5)) (cI 0)).1 549 58 = s.1 100 5 + cI 1 := by unfold lvS nwM; simp (disch := decide) only [ix_0, ix_1, ix_2, ix_3, ix_4, ix_5, ix_6, ix_7, ix_8, ix_9, ix_10, ix_11, ix_12, ix_13, ix_14, ix_15, ix_16, ix_17, ix_18, ix_19, ix_20, ix_21, Nat.reduceAdd, wI_c, wI_ne, wL_1, lupd_ne, up1_eq, up1_ne]
  have y23 : (wI (lvS (nwM t (ix (s.1 100 5)) (s.1 100 5 + cI 1) x1 x2 x3 x4 x5 x6) (ix (s.1 100 5))) 583 (ix (s.1 100 5)) (cI 0)).1 549 23 = t.1 549 23 := by rw [wI_ne (by decide)]; exact (yf.1 549 23 rfl).1
  have y594 : (lvS (nwM t (ix (s.1 100 5)) (s.1 100 5 + cI 1) x1 x2 x3 x4 x5 x6) (ix (s.1 100 5))).1 594 = t.1 594 := (nof_c yf (L := [(594, 0)]) rfl (c := 594) rfl).1
  have y596 : (lvS (nwM t (ix (s.1 100 5)) (s.1 100 5 + cI 1) x1 x2 x3 x4 x5 x6) (ix (s.1 100 5))).1 596 = t.1 596 := (nof_c yf (L := [(596, 0)]) rfl (c := 596) rfl).1
  have v594 : (wI (lvS (nwM t (ix (s.1 100 5)) (s.1 100 5 + cI 1) x1 x2 x3 x4 x5 x6) (ix (s.1 100 5))) 583 (ix (s.1 100 5)) (cI 0)).1 594 = t.1 594 := by rw [wI_ne (by decide)]; exact y594
  have v596 : (wI (lvS (nwM t (ix (s.1 100 5)) (s.1 100 5 + cI 1) x1 x2 x3 x4 x5 x6) (ix (s.1 100 5))) 583 (ix (s.1 100 5)) (cI 0)).1 596 = t.1 596 := by rw [wI_ne (by decide)]; exact y596
  have s78 := zs 78 (by decide) (by decide) (by decide)
  have s30 := zs 30 (by decide) (by decide) (by decide)
  have s449 := zs 449 (by decide) (by decide) (by decide)
  have s125 := zs 125 (by decide) (by decide) (by decide)
  have s138 := zs 138 (by decide) (by decide) (by decide)
  refine ⟨⟨?_, ?_, ?_, ?_⟩, ⟨?_, ?_⟩, ⟨?_, ?_, ?_⟩, ?_⟩
  · unfold RIt
    rw [z5, z102, z103, z104, z105, z106, z107, z108, z109, z115, y583, v584, v585, v586, v587, v588, v589, v590, v601, y58, s78, s30]
    exact ⟨⟨rfl, by omega, by omega⟩, g1.ext rfl ei, g2.ext rfl ei, g3.ext rfl ei, g4.ext rfl ei, g5.ext rfl ei, g6.ext rfl ei, g7.ext rfl ei, g8.ext rfl ei, g9.ext rfl ei, b1.ext (by decide) ei, b2.ext i1 ei, b3.ext i2 ei, b4.ext i3 ei, b5.ext ⟨by omega, by omega⟩ ei, b6.ext i5 ei, b7.ext i6 ei, b8.ext ⟨by omega, by omega⟩ ei, b9.ext (by decide) ei⟩
  · obtain ⟨g1, g2, g3, g4, g5, g6, g7, b1, b2, b3, b4, b5, b6, b7⟩ := id h.1.2.1
    have q1 := hg.1.2.1
    have q2 := hl.1.2.1
    unfold RIr
    rw [z5, z110, z111, z112, z113, z116, z117, z120, v591, v593, v599, v600, v602, v597, v603, s449, s30, s125]
    exact ⟨g1.ext rfl ei, g2.ext rfl ei, g3.ext rfl ei, g4.ext rfl ei, g5.ext rfl ei, g6.ext rfl ei, g7.ext rfl ei, b1.ext ⟨by omega, by omega⟩ ei, b2.ext ⟨by omega, by omega⟩ ei, b3.ext (by decide) ei, b4.ext (by decide) ei, b5.ext (by decide) ei, b6.ext ⟨by omega, by omega⟩ ei, b7.ext (by decide) ei⟩
  · exact h.1.2.2.1.add n2 n3 z5 z6 z119 y23 v592 v593 v594 v595 v596
  · exact h.1.2.2.2.add n2 n3 z5 z102 z112 z109 v593 v595 v602 v597
  · have e := h.2.1.1
    unfold REv at e ⊢
    rw [zs 15 (by decide) (by decide) (by decide), zs 17 (by decide) (by decide) (by decide), zs 18 (by decide) (by decide) (by decide), zs 19 (by decide) (by decide) (by decide), zs 20 (by decide) (by decide) (by decide), zs 21 (by decide) (by decide) (by decide), zs 22 (by decide) (by decide) (by decide), (yf.1 549 129 rfl).1, (nof_c yf (L := [(640, 0)]) rfl (c := 640) rfl).1, (nof_c yf (L := [(641, 0)]) rfl (c := 641) rfl).1, (nof_c yf (L := [(642, 0)]) rfl (c := 642) rfl).1, (nof_c yf (L := [(643, 0)]) rfl (c := 643) rfl).1]
    exact e
  · exact h.2.1.2.add n2 n3 (by rw [zs 15 (by decide) (by decide) (by decide)]) (zs 24 (by decide) (by decide) (by decide)) (zs 25 (by decide) (by decide) (by decide)) (zs 26 (by decide) (by decide) (by decide)) (zs 27 (by decide) (by decide) (by decide)) z5 z106 (yf.1 549 134 rfl).1 (nof_c yf (L := [(644, 0)]) rfl (c := 644) rfl).1 (nof_c yf (L := [(645, 0)]) rfl (c := 645) rfl).1 (nof_c yf (L := [(646, 0)]) rfl (c := 646) rfl).1
  · exact h.2.2.1.add n2 n3 hr.1.2.1 hr.1.2.2 (by rw [s138]) (rows_eq (fun r hr2 => zs (160 + r) (by omega) (by omega) (by omega))) (zs 144 (by decide) (by decide) (by decide)) z5 y595 y596
  · exact h.2.2.2.1.add n2 n3 hg.1.2.1 hg.1.2.2 (by rw [s449]) (rows_eq (fun r hr2 => zs (466 + r) (by omega) (by omega) (by omega))) (zs 462 (by decide) (by decide) (by decide)) z5 y593 y594
  · exact h.2.2.2.2.add n2 n3 hl.1.2.1 hl.1.2.2 (by rw [s125]) (rows_eq (fun r hr2 => zs (130 + r) (by omega) (by omega) (by omega))) (zs 127 (by decide) (by decide) (by decide)) z5 y597 y598
  · exact hk.add (y := cI 0) n2 n3 z5 z115 z109 z121 z122 z123 y604 (nof_c yf (L := [(605, 0)]) rfl (c := 605) rfl).1 (nof_c yf (L := [(606, 0)]) rfl (c := 606) rfl).1
end
