/-! ===== LEVEL 3: what the book takes in ===== -/
theorem cFq {F : List (Nat × (Nat × Nat))} {s t : ev_M} {q : Nat} (h : fr F s t) (c : Nat) (d : nof F [(c, 0)] = true) : t.1 c q = s.1 c q := by rw [cF (c := c) h d]
theorem cFL {F : List (Nat × (Nat × Nat))} {s t : ev_M} {q : Nat} (h : fr F s t) (c : Nat) (d : nof F [(c, 0)] = true) : t.2.1 c q = s.2.1 c q := by rw [(nof_c h d (c := c) (by simp)).2]
def RBk (s t : ev_M) : Prop := RPl s t ∧ RSt s t ∧ RRn s t ∧ RPo s t
def FbkC : List (Nat × (Nat × Nat)) := [(30, 30, 3), (30, 30, 5), (30, 30, 8), (30, 30, 10), (31, 31, 0), (33, 37, 0), (39, 42, 0), (44, 45, 0)]
def FbkM : List (Nat × (Nat × Nat)) := [(549, 549, 25), (549, 549, 28), (549, 549, 34), (549, 549, 39), (558, 571, 0)]
/-- what lay in the book lies there still -/
def BxC (a s : ev_M) : Prop := ((a.1 30 2).toInt ≤ (s.1 30 2).toInt ∧ (a.1 30 4).toInt ≤ (s.1 30 4).toInt ∧ (a.1 30 7).toInt ≤ (s.1 30 7).toInt ∧ (a.1 30 9).toInt ≤ (s.1 30 9).toInt) ∧ (∀ q, q < ix (a.1 30 2) → s.1 31 q = a.1 31 q) ∧ (∀ q, q < ix (a.1 30 4) → s.1 33 q = a.1 33 q ∧ s.1 34 q = a.1 34 q ∧ s.1 35 q = a.1 35 q ∧ s.1 36 q = a.1 36 q ∧ s.2.1 37 q = a.2.1 37 q) ∧ (∀ q, q < ix (a.1 30 7) → s.1 39 q = a.1 39 q ∧ s.1 40 q = a.1 40 q ∧ s.1 41 q = a.1 41 q ∧ s.1 42 q = a.1 42 q) ∧ (∀ q, q < ix (a.1 30 9) → s.1 44 q = a.1 44 q ∧ s.1 45 q = a.1 45 q)
def BxM (a b s t : ev_M) : Prop := (∀ q, q < ix (a.1 30 2) → t.1 558 q = b.1 558 q) ∧ (∀ q, q < ix (a.1 30 4) → t.1 562 q = b.1 562 q ∧ t.1 563 q = b.1 563 q ∧ t.1 564 q = b.1 564 q ∧ t.1 560 q = b.1 560 q ∧ t.2.1 561 q = b.2.1 561 q) ∧ (∀ q, q < ix (a.1 30 7) → t.1 565 q = b.1 565 q ∧ t.1 566 q = b.1 566 q ∧ t.1 567 q = b.1 567 q ∧ t.1 568 q = b.1 568 q) ∧ (∀ q, q < ix (a.1 30 9) → t.1 569 q = b.1 569 q ∧ t.1 570 q = b.1 570 q ∧ t.1 571 q = b.1 571 q) ∧ (∀ q, ix (a.1 30 9) ≤ q → q < ix (s.1 30 9) → t.1 571 q = cI (-1))
theorem ix_mono {x y : Int32} (h : x.toInt ≤ y.toInt) : ix x ≤ ix y := by rw [ix_toNat, ix_toNat]; omega
theorem BxC.rf {a : ev_M} : BxC a a := ⟨⟨Int.le_refl _, Int.le_refl _, Int.le_refl _, Int.le_refl _⟩, fun _ _ => rfl, fun _ _ => ⟨rfl, rfl, rfl, rfl, rfl⟩, fun _ _ => ⟨rfl, rfl, rfl, rfl⟩, fun _ _ => ⟨rfl, rfl⟩⟩
theorem BxM.rf {a b : ev_M} : BxM a b a b := ⟨fun _ _ => rfl, fun _ _ => ⟨rfl, rfl, rfl, rfl, rfl⟩, fun _ _ => ⟨rfl, rfl, rfl, rfl⟩, fun _ _ => ⟨rfl, rfl, rfl⟩, fun q h1 h2 => absurd h1 (Nat.not_le.mpr h2)⟩
theorem BxC.tr {a b c : ev_M} (h : BxC a b) (g : BxC b c) : BxC a c := by
  obtain ⟨⟨h1, h2, h3, h4⟩, h5, h6, h7, h8⟩ := h
  obtain ⟨⟨g1, g2, g3, g4⟩, g5, g6, g7, g8⟩ := g
  have m1 := ix_mono h1
  have m2 := ix_mono h2
  have m3 := ix_mono h3
  have m4 := ix_mono h4
  refine ⟨⟨by omega, by omega, by omega, by omega⟩, fun q hq => (g5 q (by omega)).trans (h5 q hq), fun q hq => ?_, fun q hq => ?_, fun q hq => ?_⟩
  · obtain ⟨a1, a2, a3, a4, a5⟩ := g6 q (by omega)
    obtain ⟨b1, b2, b3, b4, b5⟩ := h6 q hq
    exact ⟨a1.trans b1, a2.trans b2, a3.trans b3, a4.trans b4, a5.trans b5⟩
  · obtain ⟨a1, a2, a3, a4⟩ := g7 q (by omega)
    obtain ⟨b1, b2, b3, b4⟩ := h7 q hq
    exact ⟨a1.trans b1, a2.trans b2, a3.trans b3, a4.trans b4⟩
  · obtain ⟨a1, a2⟩ := g8 q (by omega)
    obtain ⟨b1, b2⟩ := h8 q hq
    exact ⟨a1.trans b1, a2.trans b2⟩
theorem BxM.tr {a b c d e f : ev_M} (hc : BxC a c) (h : BxM a b c d) (g : BxM c d e f) : BxM a b e f := by
  obtain ⟨⟨c1, c2, c3, c4⟩, -⟩ := hc
  obtain ⟨h5, h6, h7, h8, h9⟩ := h
  obtain ⟨g5, g6, g7, g8, g9⟩ := g
  have m1 := ix_mono c1
  have m2 := ix_mono c2
  have m3 := ix_mono c3
  have m4 := ix_mono c4
  refine ⟨fun q hq => (g5 q (by omega)).trans (h5 q hq), fun q hq => ?_, fun q hq => ?_, fun q hq => ?_, fun q h1 h2 => ?_⟩
  · obtain ⟨a1, a2, a3, a4, a5⟩ := g6 q (by omega)
    obtain ⟨b1, b2, b3, b4, b5⟩ := h6 q hq
    exact ⟨a1.trans b1, a2.trans b2, a3.trans b3, a4.trans b4, a5.trans b5⟩
  · obtain ⟨a1, a2, a3, a4⟩ := g7 q (by omega)
    obtain ⟨b1, b2, b3, b4⟩ := h7 q hq
    exact ⟨a1.trans b1, a2.trans b2, a3.trans b3, a4.trans b4⟩
  · obtain ⟨a1, a2, a3⟩ := g8 q (by omega)
    obtain ⟨b1, b2, b3⟩ := h8 q hq
    exact ⟨a1.trans b1, a2.trans b2, a3.trans b3⟩
  · by_cases z : q < ix (c.1 30 9)
    · rw [(g8 q z).2.2]; exact h9 q h1 z
    · exact g9 q (by omega) h2
/-- what an addition owes -/
def AdB (s t : ev_M) (fc fm : Option (ev_M × Int32)) : Prop := ∃ s' t' v, fc = some (s', v) ∧ fm = some (t', v) ∧ (v = cI 0 ∨ v = cI 1) ∧ RBk s' t' ∧ BxC s s' ∧ BxM s t s' t' ∧ fr FbkC s s' ∧ fr FbkM t t'
theorem AdB.no {s t : ev_M} {fc fm : Option (ev_M × Int32)} (h : RBk s t) (e1 : fc = some (s, cI 0)) (e2 : fm = some (t, cI 0)) : AdB s t fc fm := ⟨s, t, cI 0, e1, e2, Or.inl rfl, h, BxC.rf, BxM.rf, fr.rf, fr.rf⟩
section
variable {s t : ev_M}
theorem ad_place {c : Int32} {nm : Int64} (h : RBk s t) : AdB s t (fBook_addsPlace s c) (fM_addPlace t c nm) := by
  obtain ⟨hP, hS, hR, hO⟩ := id h
  obtain ⟨⟨n1, n2, n3⟩, g1, g2⟩ := id hP
  have nn := ix_toNat (s.1 30 2)
  obtain ⟨v, v1, v2, v3⟩ := e_placeWith (c := c) hP
  have e12 : (cI 12).toInt = 12 := rfl
  by_cases z : InR c (cI 1) (cI 99999)
  rotate_left
  · refine AdB.no h ?_ ?_
    · unfold fBook_addsPlace
      rw [outside_eq, bd1_some, ite_bI, if_pos z]
    · unfold fM_addPlace
      rw [in_eq, bd1_some, ite_bI, if_neg z]
  have kC : fBook_addsPlace s c = if v = cI (-1) then (if s.1 30 2 < cI 12 then (if inb (s.1 30 2) 12 = true then some (wI (wI s 30 2 (s.1 30 2 + cI 1)) 31 (ix (s.1 30 2)) c, cI 1) else none) else some (s, cI 0)) else some (s, cI 0) := by
    unfold fBook_addsPlace
    rw [outside_eq, bd1_some, ite_bI, if_neg (fun u => u z), v1, bd1_some]
    rfl
  have kM : fM_addPlace t c nm = if v = cI (-1) then (if s.1 30 2 = cI 12 then some (t, cI 0) else if inb (s.1 30 2) 12 = true then some (wI (wL (wI t 558 (ix (s.1 30 2)) c) 559 (ix (s.1 30 2)) nm) 549 24 (s.1 30 2 + cI 1), cI 1) else none) else some (t, cI 0) := by
    unfold fM_addPlace
    rw [in_eq, bd1_some, ite_bI, if_pos z, v2, bd1_some, n1]
    by_cases y : v = cI (-1)
    · rw [if_pos y, if_pos y]
      by_cases w : s.1 30 2 = cI 12
      · rw [if_pos w, if_pos w]
      · have ib : inb (s.1 30 2) 12 = true := inb_iff.mpr ⟨n2, by rw [eq_i] at w; omega⟩
        rw [if_neg w, if_neg w]
        simp (disch := decide) only [ltM_eq, ix_0, ix_1, ix_2, ix_3, ix_4, ix_5, ix_6, ix_7, ix_8, ix_9, ix_10, ix_11, ix_12, ix_13, ix_14, ix_15, ix_16, ix_17, ix_18, ix_19, ix_20, ix_21, Nat.reduceAdd, wI_c, wI_ne, wL_1, lupd_ne, up1_eq, up1_ne, n1, if_pos ib]
    · rw [if_neg y, if_neg y]
  by_cases y : v = cI (-1)
  rotate_left
  · exact AdB.no h (by rw [kC, if_neg y]) (by rw [kM, if_neg y])
  by_cases w : s.1 30 2 = cI 12
  · exact AdB.no h (by rw [kC, if_pos y, if_neg (by rw [w]; decide)]) (by rw [kM, if_pos y, if_pos w])
  have w2 : (s.1 30 2).toInt < 12 := by rw [eq_i] at w; omega
  have ib : inb (s.1 30 2) 12 = true := inb_iff.mpr ⟨n2, by omega⟩
  have e1 : (s.1 30 2 + cI 1).toInt = (s.1 30 2).toInt + 1 := inc_i (by omega)
  have e2 : ix (s.1 30 2 + cI 1) = ix (s.1 30 2) + 1 := ix_inc n2 (by omega)
  have nomt : ∀ q, q < ix (s.1 30 2) → ¬ s.1 31 q = c := by
    rcases v3 with ⟨-, v3⟩ | ⟨q, q1, q2, q3⟩
    · exact v3
    · rw [y] at q2
      exact absurd q2 (neg1_ne (n := q) (by omega))
  have fC : fr FbkC s (wI (wI s 30 2 (s.1 30 2 + cI 1)) 31 (ix (s.1 30 2)) c) := (fr.rf.wI rfl).wI rfl
  have fM : fr FbkM t (wI (wL (wI t 558 (ix (s.1 30 2)) c) 559 (ix (s.1 30 2)) nm) 549 24 (s.1 30 2 + cI 1)) := ((fr.rf.wI rfl).wL rfl).wI rfl
  have fC' : fr [(30, 30, 3), (31, 31, 0)] s (wI (wI s 30 2 (s.1 30 2 + cI 1)) 31 (ix (s.1 30 2)) c) := (fr.rf.wI rfl).wI rfl
  have fM' : fr [(549, 549, 25), (558, 559, 0)] t (wI (wL (wI t 558 (ix (s.1 30 2)) c) 559 (ix (s.1 30 2)) nm) 549 24 (s.1 30 2 + cI 1)) := ((fr.rf.wI rfl).wL rfl).wI rfl
  refine ⟨_, _, cI 1, by rw [kC, if_pos y, if_pos (by rw [lt_i]; omega), if_pos ib], by rw [kM, if_pos y, if_neg w, if_pos ib], Or.inr rfl, ⟨?_, ?_, hR.keep fC' fM' (by decide +kernel) (by decide +kernel), hO.keep fC' fM' (by decide +kernel) (by decide +kernel)⟩, ?_, ?_, fC, fM⟩
  · unfold RPl
    simp (disch := decide) only [ix_0, ix_1, ix_2, ix_3, ix_4, ix_5, ix_6, ix_7, ix_8, ix_9, ix_10, ix_11, ix_12, ix_13, ix_14, ix_15, ix_16, ix_17, ix_18, ix_19, ix_20, ix_21, Nat.reduceAdd, wI_c, wI_ne, wL_1, lupd_ne, up1_eq, up1_ne, e2]
    refine ⟨⟨trivial, by omega, by omega⟩, fun q hq => ?_, fun i j hij hj => ?_⟩
    · show (wL (wI t 558 (ix (s.1 30 2)) c) 559 (ix (s.1 30 2)) nm).1 558 q = _
      show up1 (t.1 558) (ix (s.1 30 2)) c q = up1 (s.1 31) (ix (s.1 30 2)) c q
      by_cases u : q = ix (s.1 30 2)
      · rw [u, up1_eq, up1_eq]
      · rw [up1_ne u, up1_ne u]; exact g1 q (by omega)
    · by_cases u : j = ix (s.1 30 2)
      · rw [u, up1_eq, up1_ne (by omega)]; exact nomt i (by omega)
      · rw [up1_ne u, up1_ne (by omega)]; exact g2 i j hij (by omega)
  · obtain ⟨m1, a1, a2, a3, a4, a5, b1, b2, b3, b4, b5, b6⟩ := hS
    unfold RSt
    simp (disch := decide) only [ix_0, ix_1, ix_2, ix_3, ix_4, ix_5, ix_6, ix_7, ix_8, ix_9, ix_10, ix_11, ix_12, ix_13, ix_14, ix_15, ix_16, ix_17, ix_18, ix_19, ix_20, ix_21, Nat.reduceAdd, wI_c, wI_ne, wL_1, lupd_ne, up1_eq, up1_ne]
    exact ⟨m1, a1, a2, a3, a4, a5, b1, b2, b3, fun q hq => ⟨(b4 q hq).1, by have := (b4 q hq).2; omega⟩, b5, b6⟩
  · unfold BxC
    simp (disch := decide) only [ix_0, ix_1, ix_2, ix_3, ix_4, ix_5, ix_6, ix_7, ix_8, ix_9, ix_10, ix_11, ix_12, ix_13, ix_14, ix_15, ix_16, ix_17, ix_18, ix_19, ix_20, ix_21, Nat.reduceAdd, wI_c, wI_ne, wL_1, lupd_ne, up1_eq, up1_ne]
    exact ⟨⟨by omega, Int.le_refl _, Int.le_refl _, Int.le_refl _⟩, fun q hq => up1_ne (by omega), fun _ _ => ⟨trivial, trivial, trivial, trivial, rfl⟩, fun _ _ => ⟨trivial, trivial, trivial, trivial⟩, fun _ _ => ⟨trivial, trivial⟩⟩
  · refine ⟨fun q hq => ?_, fun q hq => ?_, fun q hq => ⟨cFq fM' 565 (by decide +kernel), cFq fM' 566 (by decide +kernel), cFq fM' 567 (by decide +kernel), cFq fM' 568 (by decide +kernel)⟩, fun q hq => ⟨cFq fM' 569 (by decide +kernel), cFq fM' 570 (by decide +kernel), cFq fM' 571 (by decide +kernel)⟩, fun q h1 h2 => ?_⟩
    · show up1 (t.1 558) (ix (s.1 30 2)) c q = _
      rw [up1_ne (by omega)]
    · refine ⟨cFq fM' 562 (by decide +kernel), cFq fM' 563 (by decide +kernel), cFq fM' 564 (by decide +kernel), cFq fM' 560 (by decide +kernel), ?_⟩
      exact cFL fM' 561 (by decide +kernel)
    · rw [(fC'.1 30 9 rfl).1] at h2
      omega
end
