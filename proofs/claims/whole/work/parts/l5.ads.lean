/-! ===== LEVEL 3: an entry of the book is judged ===== -/
theorem AdB.ret {s t : ev_M} {fc fm : Option (ev_M × Int32)} (h : AdB s t fc fm) : AdB s t (bd2 fc fun a v => if bz v = true then some (a, v) else none) (bd2 fm fun a v => if bz v = true then some (a, v) else none) := by
  obtain ⟨s', t', v, e1, e2, e3, e4⟩ := h
  have b : bz v = true := by rcases e3 with u | u <;> rw [u] <;> decide
  exact ⟨s', t', v, by rw [e1, bd2_some, if_pos b], by rw [e2, bd2_some, if_pos b], e3, e4⟩
/-- a name of one to ten letters -/
def Nm (x : Int64) : Prop := 0 < x.toInt ∧ x.toInt < 205891132094649
/-- what the reference does with an entry of the book once read -/
def RBL (t : ev_M) (x1 x2 : Int32) (x3 : Int64) (x5 x6 y0 : Int32) : Option (ev_M × Int32) := bd1 (fM_placeWith t x2) fun v10 => if v10 = cI (-1) then fM_entryOfBook_b177 t x1 x2 x3 x5 x6 y0 v10 (cI (-1)) else bd1 (fM_streetWith t v10 x3) fun v11 => fM_entryOfBook_b177 t x1 x2 x3 x5 x6 y0 v10 v11
theorem ad_street1 {s t : ev_M} {a x y w : Int32} {nm : Int64} (h : RBk s t) (ha : Has a (s.1 30 2)) (e1 : s.1 3 1 = x) (e2 : s.1 3 2 = y) (e3 : s.1 3 3 = w) (e5 : s.2.1 1 5 = nm) (hn : Nm nm) : AdB s t (fBook_addsStreet_1 s a) (fM_addStreet t a nm x y w) := by
  obtain ⟨hP, hS, hR, hO⟩ := id h
  obtain ⟨⟨n1, n2, n3⟩, g1, g2, g3, g4, g5, b1, b2, b3, b4, b5, b6⟩ := id hS
  have nn := ix_toNat (s.1 30 4)
  have na : ¬ a = cI (-1) := fun u => by rw [u] at ha; exact absurd ha.1 (by decide)
  have e30 : (cI 30).toInt = 30 := rfl
  obtain ⟨v, v1, v2, v3⟩ := e_streetWith (p := a) (nm := nm) hS
  by_cases z0 : v = cI (-1)
  rotate_left
  · refine AdB.no h ?_ ?_
    · unfold fBook_addsStreet_1
      rw [ltI_eq, ltI_eq, ltI_eq, e5, v1, bd1_some, if_neg z0]
    · unfold fM_addStreet
      rw [if_neg na, v2, bd1_some, if_neg z0]
  have nomt : ∀ q, q < ix (s.1 30 4) → ¬ (s.1 36 q = a ∧ s.2.1 37 q = nm) := by
    rcases v3 with ⟨-, v3⟩ | ⟨q, q1, q2, q3⟩
    · exact v3
    · rw [z0] at q2
      exact absurd q2 (neg1_ne (n := q) (by omega))
  -- the class asks for room first, the reference last
  have kC : fBook_addsStreet_1 s a = if s.1 30 4 < cI 30 then (if InR x (cI 0) (cI 999) ∧ InR y (cI 0) (cI 999) ∧ InR w (cI 0) (cI 3) then (if inb (s.1 30 4) 30 = true then some (wL (wI (wI (wI (wI (wI s 36 (ix (s.1 30 4)) a) 33 (ix (s.1 30 4)) x) 34 (ix (s.1 30 4)) y) 35 (ix (s.1 30 4)) w) 30 4 (s.1 30 4 + cI 1)) 37 (ix (s.1 30 4)) nm, cI 1) else none) else some (s, cI 0)) else some (s, cI 0) := by
    unfold fBook_addsStreet_1
    rw [ltI_eq, ltI_eq, ltI_eq, e5, v1, bd1_some, if_pos z0]
    by_cases r : s.1 30 4 < cI 30
    rotate_left
    · rw [if_neg r, if_neg r]
    rw [if_pos r, if_pos r, ix_1, ix_2, ix_3, e1, e2, e3, outside_eq, bd1_some, ite_bI]
    by_cases z1 : InR x (cI 0) (cI 999)
    rotate_left
    · rw [if_pos z1, if_neg (fun u => z1 u.1)]
    rw [if_neg (fun u => u z1), outside_eq, bd1_some, ite_bI]
    by_cases z2 : InR y (cI 0) (cI 999)
    rotate_left
    · rw [if_pos z2, if_neg (fun u => z2 u.2.1)]
    rw [if_neg (fun u => u z2), outside_eq, bd1_some, ite_bI]
    by_cases z3 : InR w (cI 0) (cI 3)
    rotate_left
    · rw [if_pos z3, if_neg (fun u => z3 u.2.2)]
    have ib : inb (s.1 30 4) 30 = true := inb_iff.mpr ⟨n2, by rw [lt_i] at r; omega⟩
    rw [if_neg (fun u => u z3), if_pos (show InR x (cI 0) (cI 999) ∧ InR y (cI 0) (cI 999) ∧ InR w (cI 0) (cI 3) from ⟨z1, z2, z3⟩)]
    have eL : ∀ (u : ev_M) (c k : Nat) (q : Int32), (wI u c k q).2.1 = u.2.1 := fun _ _ _ _ => rfl
    simp (disch := decide) only [ltM_eq, ix_0, ix_1, ix_2, ix_3, ix_4, ix_5, ix_6, ix_7, ix_8, ix_9, ix_10, ix_11, ix_12, ix_13, ix_14, ix_15, ix_16, ix_17, ix_18, ix_19, ix_20, ix_21, Nat.reduceAdd, wI_c, wI_ne, wL_1, lupd_ne, up1_eq, up1_ne, Nat.add_zero, if_pos ib, eL, e5]
  have kM : fM_addStreet t a nm x y w = if InR x (cI 0) (cI 999) ∧ InR y (cI 0) (cI 999) ∧ InR w (cI 0) (cI 3) then (if s.1 30 4 = cI 30 then some (t, cI 0) else if inb (s.1 30 4) 30 = true then some (wI (wI (wI (wI (wL (wI t 560 (ix (s.1 30 4)) a) 561 (ix (s.1 30 4)) nm) 562 (ix (s.1 30 4)) x) 563 (ix (s.1 30 4)) y) 564 (ix (s.1 30 4)) w) 549 27 (s.1 30 4 + cI 1), cI 1) else none) else some (t, cI 0) := by
    unfold fM_addStreet
    rw [if_neg na, v2, bd1_some, if_pos z0, in_eq, bd1_some, ite_bI]
    by_cases z1 : InR x (cI 0) (cI 999)
    rotate_left
    · rw [if_neg z1, if_neg (fun u => z1 u.1)]
    rw [if_pos z1, in_eq, bd1_some, ite_bI]
    by_cases z2 : InR y (cI 0) (cI 999)
    rotate_left
    · rw [if_neg z2, if_neg (fun u => z2 u.2.1)]
    rw [if_pos z2, in_eq, bd1_some, ite_bI]
    by_cases z3 : InR w (cI 0) (cI 3)
    rotate_left
    · rw [if_neg z3, if_neg (fun u => z3 u.2.2)]
    rw [if_pos z3, if_pos (show InR x (cI 0) (cI 999) ∧ InR y (cI 0) (cI 999) ∧ InR w (cI 0) (cI 3) from ⟨z1, z2, z3⟩), n1]
    by_cases r : s.1 30 4 = cI 30
    · rw [if_pos r, if_pos r]
    · have ib : inb (s.1 30 4) 30 = true := inb_iff.mpr ⟨n2, by rw [eq_i] at r; omega⟩
      rw [if_neg r, if_neg r]
      simp (disch := decide) only [ltM_eq, ix_0, ix_1, ix_2, ix_3, ix_4, ix_5, ix_6, ix_7, ix_8, ix_9, ix_10, ix_11, ix_12, ix_13, ix_14, ix_15, ix_16, ix_17, ix_18, ix_19, ix_20, ix_21, Nat.reduceAdd, wI_c, wI_ne, wL_1, lupd_ne, up1_eq, up1_ne, n1, if_pos ib]
  by_cases r : s.1 30 4 = cI 30
  · refine AdB.no h (by rw [kC, if_neg (by rw [r]; decide)]) ?_
    rw [kM, if_pos r, ite_self]
  have wl : (s.1 30 4).toInt < 30 := by rw [eq_i] at r; omega
  have ib : inb (s.1 30 4) 30 = true := inb_iff.mpr ⟨n2, by omega⟩
  rw [if_pos (by rw [lt_i]; omega), if_pos ib] at kC
  rw [if_neg r, if_pos ib] at kM
  by_cases Q : InR x (cI 0) (cI 999) ∧ InR y (cI 0) (cI 999) ∧ InR w (cI 0) (cI 3)
  rotate_left
  · exact AdB.no h (by rw [kC, if_neg Q]) (by rw [kM, if_neg Q])
  rw [if_pos Q] at kC kM
  obtain ⟨⟨x1, x2⟩, ⟨y1, y2⟩, ⟨w1, w2⟩⟩ := Q
  have i0 : (cI 0).toInt = 0 := rfl
  have i3 : (cI 3).toInt = 3 := rfl
  have i9 : (cI 999).toInt = 999 := rfl
  have e7 : (s.1 30 4 + cI 1).toInt = (s.1 30 4).toInt + 1 := inc_i (by omega)
  have e8 : ix (s.1 30 4 + cI 1) = ix (s.1 30 4) + 1 := ix_inc n2 (by omega)
  have fC : fr [(30, 30, 5), (33, 37, 0)] s (wL (wI (wI (wI (wI (wI s 36 (ix (s.1 30 4)) a) 33 (ix (s.1 30 4)) x) 34 (ix (s.1 30 4)) y) 35 (ix (s.1 30 4)) w) 30 4 (s.1 30 4 + cI 1)) 37 (ix (s.1 30 4)) nm) := (((((fr.rf.wI rfl).wI rfl).wI rfl).wI rfl).wI rfl).wL rfl
  have fM : fr [(549, 549, 28), (560, 564, 0)] t (wI (wI (wI (wI (wL (wI t 560 (ix (s.1 30 4)) a) 561 (ix (s.1 30 4)) nm) 562 (ix (s.1 30 4)) x) 563 (ix (s.1 30 4)) y) 564 (ix (s.1 30 4)) w) 549 27 (s.1 30 4 + cI 1)) := (((((fr.rf.wI rfl).wL rfl).wI rfl).wI rfl).wI rfl).wI rfl
  have LC : ∀ q, (wL (wI (wI (wI (wI (wI s 36 (ix (s.1 30 4)) a) 33 (ix (s.1 30 4)) x) 34 (ix (s.1 30 4)) y) 35 (ix (s.1 30 4)) w) 30 4 (s.1 30 4 + cI 1)) 37 (ix (s.1 30 4)) nm).2.1 37 q = if q = ix (s.1 30 4) then nm else s.2.1 37 q := fun q => by
    show u2 s.2.1 37 (ix (s.1 30 4)) nm 37 q = _
    simp only [u2, if_true]
  have LM : ∀ q, (wI (wI (wI (wI (wL (wI t 560 (ix (s.1 30 4)) a) 561 (ix (s.1 30 4)) nm) 562 (ix (s.1 30 4)) x) 563 (ix (s.1 30 4)) y) 564 (ix (s.1 30 4)) w) 549 27 (s.1 30 4 + cI 1)).2.1 561 q = if q = ix (s.1 30 4) then nm else t.2.1 561 q := fun q => by
    show u2 t.2.1 561 (ix (s.1 30 4)) nm 561 q = _
    simp only [u2, if_true]
  refine ⟨_, _, cI 1, kC, kM, Or.inr rfl, ⟨hP.keep fC fM (by decide +kernel) (by decide +kernel), ?_, ?_, ?_⟩, ?_, ?_, (((((fr.rf.wI rfl).wI rfl).wI rfl).wI rfl).wI rfl).wL rfl, (((((fr.rf.wI rfl).wL rfl).wI rfl).wI rfl).wI rfl).wI rfl⟩
  · have spl : ∀ {f g : Nat → Int32} {x : Int32}, Ag (ix (s.1 30 4)) f g → Ag (ix (s.1 30 4) + 1) (up1 f (ix (s.1 30 4)) x) (up1 g (ix (s.1 30 4)) x) := fun {f g x} hA q hq => by
      by_cases u : q = ix (s.1 30 4)
      · rw [u, up1_eq, up1_eq]
      · rw [up1_ne u, up1_ne u]; exact hA q (by omega)
    have spb : ∀ {f : Nat → Int32} {x : Int32} {l u : Int}, Bd (ix (s.1 30 4)) f l u → l ≤ x.toInt ∧ x.toInt ≤ u → Bd (ix (s.1 30 4) + 1) (up1 f (ix (s.1 30 4)) x) l u := fun {f x l u} hB hx q hq => by
      by_cases v : q = ix (s.1 30 4)
      · rw [v, up1_eq]; exact hx
      · rw [up1_ne v]; exact hB q (by omega)
    unfold RSt
    simp only [LC, LM]
    simp (disch := decide) only [ix_0, ix_1, ix_2, ix_3, ix_4, ix_5, ix_6, ix_7, ix_8, ix_9, ix_10, ix_11, ix_12, ix_13, ix_14, ix_15, ix_16, ix_17, ix_18, ix_19, ix_20, ix_21, Nat.reduceAdd, wI_c, wI_ne, wL_1, lupd_ne, up1_eq, up1_ne, e8]
    refine ⟨⟨trivial, by omega, by omega⟩, spl g1, spl g2, spl g3, spl g4, fun q hq => ?_, spb b1 ⟨by omega, by omega⟩, spb b2 ⟨by omega, by omega⟩, spb b3 ⟨by omega, by omega⟩, spb b4 ⟨ha.1, by have := ha.2; omega⟩, fun q hq => ?_, fun i j hij hj => ?_⟩
    · by_cases u : q = ix (s.1 30 4)
      · rw [if_pos u, if_pos u]
      · rw [if_neg u, if_neg u]; exact g5 q (by omega)
    · by_cases u : q = ix (s.1 30 4)
      · rw [if_pos u]; exact hn
      · rw [if_neg u]; exact b5 q (by omega)
    · by_cases u : j = ix (s.1 30 4)
      · rw [u, up1_eq, up1_ne (by omega), if_pos rfl, if_neg (by omega)]
        exact fun p1 p2 => nomt i (by omega) ⟨p1, p2⟩
      · rw [up1_ne u, up1_ne (by omega), if_neg u, if_neg (by omega)]; exact b6 i j hij (by omega)
  · obtain ⟨m1, r1, r2, r3, r4, c1, c2, c3, c4⟩ := hR
    unfold RRn
    simp (disch := decide) only [ix_0, ix_1, ix_2, ix_3, ix_4, ix_5, ix_6, ix_7, ix_8, ix_9, ix_10, ix_11, ix_12, ix_13, ix_14, ix_15, ix_16, ix_17, ix_18, ix_19, ix_20, ix_21, Nat.reduceAdd, wI_c, wI_ne, wL_1, lupd_ne, up1_eq, up1_ne]
    refine ⟨?_, ?_, ?_, ?_, ?_, fun q hq => ⟨(c1 q hq).1, by have := (c1 q hq).2; omega⟩, c2, c3, c4⟩
    · exact m1
    · exact r1
    · exact r2
    · exact r3
    · exact r4
  · obtain ⟨m1, r1, r2, c1, c2, c3⟩ := hO
    unfold RPo
    simp (disch := decide) only [ix_0, ix_1, ix_2, ix_3, ix_4, ix_5, ix_6, ix_7, ix_8, ix_9, ix_10, ix_11, ix_12, ix_13, ix_14, ix_15, ix_16, ix_17, ix_18, ix_19, ix_20, ix_21, Nat.reduceAdd, wI_c, wI_ne, wL_1, lupd_ne, up1_eq, up1_ne]
    refine ⟨?_, ?_, ?_, fun q hq => ⟨(c1 q hq).1, by have := (c1 q hq).2; omega⟩, c2, c3⟩
    · exact m1
    · exact r1
    · exact r2
  · unfold BxC
    simp only [LC]
    simp (disch := decide) only [ix_0, ix_1, ix_2, ix_3, ix_4, ix_5, ix_6, ix_7, ix_8, ix_9, ix_10, ix_11, ix_12, ix_13, ix_14, ix_15, ix_16, ix_17, ix_18, ix_19, ix_20, ix_21, Nat.reduceAdd, wI_c, wI_ne, wL_1, lupd_ne, up1_eq, up1_ne]
    exact ⟨⟨Int.le_refl _, by omega, Int.le_refl _, Int.le_refl _⟩, fun _ _ => trivial, fun q hq => ⟨up1_ne (by omega), up1_ne (by omega), up1_ne (by omega), up1_ne (by omega), if_neg (by omega)⟩, fun _ _ => ⟨trivial, trivial, trivial, trivial⟩, fun _ _ => ⟨trivial, trivial⟩⟩
  · refine ⟨fun q hq => cFq fM 558 (by decide +kernel), fun q hq => ?_, fun q hq => ⟨cFq fM 565 (by decide +kernel), cFq fM 566 (by decide +kernel), cFq fM 567 (by decide +kernel), cFq fM 568 (by decide +kernel)⟩, fun q hq => ⟨cFq fM 569 (by decide +kernel), cFq fM 570 (by decide +kernel), cFq fM 571 (by decide +kernel)⟩, fun q h1 h2 => ?_⟩
    · rw [LM q]
      simp (disch := decide) only [ix_0, ix_1, ix_2, ix_3, ix_4, ix_5, ix_6, ix_7, ix_8, ix_9, ix_10, ix_11, ix_12, ix_13, ix_14, ix_15, ix_16, ix_17, ix_18, ix_19, ix_20, ix_21, Nat.reduceAdd, wI_c, wI_ne, wL_1, lupd_ne, up1_eq, up1_ne]
      exact ⟨up1_ne (by omega), up1_ne (by omega), up1_ne (by omega), up1_ne (by omega), if_neg (by omega)⟩
    · rw [(fC.1 30 9 rfl).1] at h2
      omega
/-- an entry's letter, and what comes of it -/
theorem adds1 {s t : ev_M} {x1 a b c d : Int32} {nm : Int64} (h : RBk s t) (hx : x1 = cI 80 ∨ x1 = cI 83 ∨ x1 = cI 82 ∨ x1 = cI 72) (e0 : s.1 3 0 = a) (e1 : ¬ x1 = cI 80 → s.1 3 1 = b ∧ 0 ≤ b.toInt) (e2 : x1 = cI 83 ∨ x1 = cI 82 → s.1 3 2 = c ∧ s.1 3 3 = d) (e5 : s.2.1 1 5 = nm) (hn : Nm nm) : AdB s t (fBook_adds_1 s x1) (RBL t x1 a nm b c d) := by
  obtain ⟨hP, hS, hR, hO⟩ := id h
  obtain ⟨v, v1, v2, v3⟩ := e_placeWith (c := a) hP
  have n80 : ¬ cI 83 = cI 80 ∧ ¬ cI 82 = cI 80 ∧ ¬ cI 72 = cI 80 ∧ ¬ cI 82 = cI 83 ∧ ¬ cI 72 = cI 83 ∧ ¬ cI 72 = cI 82 ∧ ¬ cI 83 = cI 81 ∧ ¬ cI 82 = cI 81 ∧ ¬ cI 72 = cI 81 ∧ ¬ cI 83 = cI 82 := by decide
  obtain ⟨m1, m2, m3, m4, m5, m6, m7, m8, m9, m10⟩ := n80
  by_cases z80 : x1 = cI 80
  · subst z80
    have kC : fBook_adds_1 s (cI 80) = bd2 (fBook_addsPlace s a) fun a v => if bz v = true then some (a, v) else none := by
      unfold fBook_adds_1
      rw [if_pos rfl, ix_0, e0]
    have kM : RBL t (cI 80) a nm b c d = bd2 (fM_addPlace t a nm) fun a v => if bz v = true then some (a, v) else none := by
      unfold RBL
      rw [v2, bd1_some]
      by_cases y : v = cI (-1)
      · rw [if_pos y]
        unfold fM_entryOfBook_b177
        rw [if_pos rfl]
      · obtain ⟨w, -, w2, -⟩ := e_streetWith (p := v) (nm := nm) hS
        rw [if_neg y, w2, bd1_some]
        unfold fM_entryOfBook_b177
        rw [if_pos rfl]
    rw [kC, kM]
    exact (ad_place h).ret
  have hx : x1 = cI 83 ∨ x1 = cI 82 ∨ x1 = cI 72 := hx.resolve_left z80
  obtain ⟨e1, eb⟩ := e1 z80
  by_cases y : v = cI (-1)
  · refine AdB.no h ?_ ?_
    · unfold fBook_adds_1
      rw [if_neg z80, ix_0, e0, v1, bd1_some, if_pos y]
    · unfold RBL
      rw [v2, bd1_some, if_pos y, y]
      unfold fM_entryOfBook_b177 fM_entryOfBook_b246 fM_addPoint fM_addRange fM_addStreet
      generalize fM_addRange_h51 1048576 = H
      rcases hx with u | u | u
      · rw [u, if_neg m1, if_neg m7, if_neg m10, if_pos rfl, if_pos rfl, bd2_some, if_pos (show bz (cI 0) = true by decide)]
      · rw [u, if_neg m2, if_neg m8, if_pos rfl, if_pos rfl, bd2_some, if_pos (show bz (cI 0) = true by decide)]
      · rw [u, if_neg m3, if_neg m9, if_neg m6, if_neg m5, if_pos rfl, bd2_some, if_pos (show bz (cI 0) = true by decide)]
  have hv : Has v (s.1 30 2) := by
    rcases v3 with ⟨v3, -⟩ | ⟨q, q1, q2, -⟩
    · exact absurd v3 y
    · have n2 := ix_toNat (s.1 30 2)
      have := hP.1.2.2
      rw [q2]
      exact ⟨by rw [k_ti (by omega)]; omega, by rw [k_ti (by omega)]; omega⟩
  obtain ⟨w, w1, w2, w3⟩ := e_streetWith (p := v) (nm := nm) hS
  have kM : RBL t x1 a nm b c d = fM_entryOfBook_b177 t x1 a nm b c d v w := by
    unfold RBL
    rw [v2, bd1_some, if_neg y, w2, bd1_some]
  by_cases z83 : x1 = cI 83
  · obtain ⟨e2, e3⟩ := e2 (Or.inl z83)
    have kC : fBook_adds_1 s x1 = bd2 (fBook_addsStreet_1 s v) fun a v => if bz v = true then some (a, v) else none := by
      unfold fBook_adds_1
      rw [if_neg z80, ix_0, e0, v1, bd1_some, if_neg y, if_pos z83]
    rw [kC, kM, z83]
    unfold fM_entryOfBook_b177
    rw [if_neg m1, if_neg m7, if_neg m10, if_pos rfl]
    exact (ad_street1 h hv e1 e2 e3 e5 hn).ret
  have hx : x1 = cI 82 ∨ x1 = cI 72 := hx.resolve_left z83
  by_cases yw : w = cI (-1)
  · refine AdB.no h ?_ ?_
    · unfold fBook_adds_1
      rw [if_neg z80, ix_0, e0, v1, bd1_some, if_neg y, if_neg z83, e5, w1, bd1_some, if_pos yw]
    · rw [kM, yw]
      unfold fM_entryOfBook_b177 fM_entryOfBook_b246 fM_addPoint fM_addRange
      generalize fM_addRange_h51 1048576 = H
      rcases hx with u | u
      · rw [u, if_neg m2, if_neg m8, if_pos rfl, if_pos rfl, bd2_some, if_pos (show bz (cI 0) = true by decide)]
      · rw [u, if_neg m3, if_neg m9, if_neg m6, if_neg m5, if_pos rfl, bd2_some, if_pos (show bz (cI 0) = true by decide)]
  have hw : Has w (s.1 30 4) := by
    rcases w3 with ⟨w3, -⟩ | ⟨q, q1, q2, -⟩
    · exact absurd w3 yw
    · have n2 := ix_toNat (s.1 30 4)
      have := hS.1.2.2
      rw [q2]
      exact ⟨by rw [k_ti (by omega)]; omega, by rw [k_ti (by omega)]; omega⟩
  have kC : fBook_adds_1 s x1 = if x1 = cI 82 then (bd2 (fBook_addsRange_1 s w) fun a v => if bz v = true then some (a, v) else none) else (bd2 (fBook_addsPoint s w b) fun a v => if bz v = true then some (a, v) else none) := by
    unfold fBook_adds_1
    rw [if_neg z80, ix_0, e0, v1, bd1_some, if_neg y, if_neg z83, e5, w1, bd1_some, if_neg yw, ix_1, e1]
  rcases hx with u | u
  · obtain ⟨e2, e3⟩ := e2 (Or.inr u)
    rw [kC, kM, if_pos u, u]
    unfold fM_entryOfBook_b177
    rw [if_neg m2, if_neg m8, if_pos rfl]
    exact (ad_range1 h hw e1 e2 e3).ret
  · rw [kC, kM, if_neg (by rw [u]; exact m6), u]
    unfold fM_entryOfBook_b177 fM_entryOfBook_b246
    rw [if_neg m3, if_neg m9, if_neg m6, if_neg m5]
    exact (ad_point h hw eb).ret
theorem ad_street4 {s t : ev_M} {a x y w : Int32} {nm : Int64} (h : RBk s t) (ha : Has a (s.1 30 2)) (e1 : s.1 6 1 = x) (e2 : s.1 6 2 = y) (e3 : s.1 6 3 = w) (e5 : s.2.1 4 5 = nm) (hn : Nm nm) : AdB s t (fBook_addsStreet_4 s a) (fM_addStreet t a nm x y w) := by
  obtain ⟨hP, hS, hR, hO⟩ := id h
  obtain ⟨⟨n1, n2, n3⟩, g1, g2, g3, g4, g5, b1, b2, b3, b4, b5, b6⟩ := id hS
  have nn := ix_toNat (s.1 30 4)
  have na : ¬ a = cI (-1) := fun u => by rw [u] at ha; exact absurd ha.1 (by decide)
  have e30 : (cI 30).toInt = 30 := rfl
  obtain ⟨v, v1, v2, v3⟩ := e_streetWith (p := a) (nm := nm) hS
  by_cases z0 : v = cI (-1)
  rotate_left
  · refine AdB.no h ?_ ?_
    · unfold fBook_addsStreet_4
      rw [ltI_eq, ltI_eq, ltI_eq, e5, v1, bd1_some, if_neg z0]
    · unfold fM_addStreet
      rw [if_neg na, v2, bd1_some, if_neg z0]
  have nomt : ∀ q, q < ix (s.1 30 4) → ¬ (s.1 36 q = a ∧ s.2.1 37 q = nm) := by
    rcases v3 with ⟨-, v3⟩ | ⟨q, q1, q2, q3⟩
    · exact v3
    · rw [z0] at q2
      exact absurd q2 (neg1_ne (n := q) (by omega))
  -- the class asks for room first, the reference last
  have kC : fBook_addsStreet_4 s a = if s.1 30 4 < cI 30 then (if InR x (cI 0) (cI 999) ∧ InR y (cI 0) (cI 999) ∧ InR w (cI 0) (cI 3) then (if inb (s.1 30 4) 30 = true then some (wL (wI (wI (wI (wI (wI s 36 (ix (s.1 30 4)) a) 33 (ix (s.1 30 4)) x) 34 (ix (s.1 30 4)) y) 35 (ix (s.1 30 4)) w) 30 4 (s.1 30 4 + cI 1)) 37 (ix (s.1 30 4)) nm, cI 1) else none) else some (s, cI 0)) else some (s, cI 0) := by
    unfold fBook_addsStreet_4
    rw [ltI_eq, ltI_eq, ltI_eq, e5, v1, bd1_some, if_pos z0]
    by_cases r : s.1 30 4 < cI 30
    rotate_left
    · rw [if_neg r, if_neg r]
    rw [if_pos r, if_pos r, ix_1, ix_2, ix_3, e1, e2, e3, outside_eq, bd1_some, ite_bI]
    by_cases z1 : InR x (cI 0) (cI 999)
    rotate_left
    · rw [if_pos z1, if_neg (fun u => z1 u.1)]
    rw [if_neg (fun u => u z1), outside_eq, bd1_some, ite_bI]
    by_cases z2 : InR y (cI 0) (cI 999)
    rotate_left
    · rw [if_pos z2, if_neg (fun u => z2 u.2.1)]
    rw [if_neg (fun u => u z2), outside_eq, bd1_some, ite_bI]
    by_cases z3 : InR w (cI 0) (cI 3)
    rotate_left
    · rw [if_pos z3, if_neg (fun u => z3 u.2.2)]
    have ib : inb (s.1 30 4) 30 = true := inb_iff.mpr ⟨n2, by rw [lt_i] at r; omega⟩
    rw [if_neg (fun u => u z3), if_pos (show InR x (cI 0) (cI 999) ∧ InR y (cI 0) (cI 999) ∧ InR w (cI 0) (cI 3) from ⟨z1, z2, z3⟩)]
    have eL : ∀ (u : ev_M) (c k : Nat) (q : Int32), (wI u c k q).2.1 = u.2.1 := fun _ _ _ _ => rfl
    simp (disch := decide) only [ltM_eq, ix_0, ix_1, ix_2, ix_3, ix_4, ix_5, ix_6, ix_7, ix_8, ix_9, ix_10, ix_11, ix_12, ix_13, ix_14, ix_15, ix_16, ix_17, ix_18, ix_19, ix_20, ix_21, Nat.reduceAdd, wI_c, wI_ne, wL_1, lupd_ne, up1_eq, up1_ne, Nat.add_zero, if_pos ib, eL, e5]
  have kM : fM_addStreet t a nm x y w = if InR x (cI 0) (cI 999) ∧ InR y (cI 0) (cI 999) ∧ InR w (cI 0) (cI 3) then (if s.1 30 4 = cI 30 then some (t, cI 0) else if inb (s.1 30 4) 30 = true then some (wI (wI (wI (wI (wL (wI t 560 (ix (s.1 30 4)) a) 561 (ix (s.1 30 4)) nm) 562 (ix (s.1 30 4)) x) 563 (ix (s.1 30 4)) y) 564 (ix (s.1 30 4)) w) 549 27 (s.1 30 4 + cI 1), cI 1) else none) else some (t, cI 0) := by
    unfold fM_addStreet
    rw [if_neg na, v2, bd1_some, if_pos z0, in_eq, bd1_some, ite_bI]
    by_cases z1 : InR x (cI 0) (cI 999)
    rotate_left
    · rw [if_neg z1, if_neg (fun u => z1 u.1)]
    rw [if_pos z1, in_eq, bd1_some, ite_bI]
    by_cases z2 : InR y (cI 0) (cI 999)
    rotate_left
    · rw [if_neg z2, if_neg (fun u => z2 u.2.1)]
    rw [if_pos z2, in_eq, bd1_some, ite_bI]
    by_cases z3 : InR w (cI 0) (cI 3)
    rotate_left
    · rw [if_neg z3, if_neg (fun u => z3 u.2.2)]
    rw [if_pos z3, if_pos (show InR x (cI 0) (cI 999) ∧ InR y (cI 0) (cI 999) ∧ InR w (cI 0) (cI 3) from ⟨z1, z2, z3⟩), n1]
    by_cases r : s.1 30 4 = cI 30
    · rw [if_pos r, if_pos r]
    · have ib : inb (s.1 30 4) 30 = true := inb_iff.mpr ⟨n2, by rw [eq_i] at r; omega⟩
      rw [if_neg r, if_neg r]
      simp (disch := decide) only [ltM_eq, ix_0, ix_1, ix_2, ix_3, ix_4, ix_5, ix_6, ix_7, ix_8, ix_9, ix_10, ix_11, ix_12, ix_13, ix_14, ix_15, ix_16, ix_17, ix_18, ix_19, ix_20, ix_21, Nat.reduceAdd, wI_c, wI_ne, wL_1, lupd_ne, up1_eq, up1_ne, n1, if_pos ib]
  by_cases r : s.1 30 4 = cI 30
  · refine AdB.no h (by rw [kC, if_neg (by rw [r]; decide)]) ?_
    rw [kM, if_pos r, ite_self]
  have wl : (s.1 30 4).toInt < 30 := by rw [eq_i] at r; omega
  have ib : inb (s.1 30 4) 30 = true := inb_iff.mpr ⟨n2, by omega⟩
  rw [if_pos (by rw [lt_i]; omega), if_pos ib] at kC
  rw [if_neg r, if_pos ib] at kM
  by_cases Q : InR x (cI 0) (cI 999) ∧ InR y (cI 0) (cI 999) ∧ InR w (cI 0) (cI 3)
  rotate_left
  · exact AdB.no h (by rw [kC, if_neg Q]) (by rw [kM, if_neg Q])
  rw [if_pos Q] at kC kM
  obtain ⟨⟨x1, x2⟩, ⟨y1, y2⟩, ⟨w1, w2⟩⟩ := Q
  have i0 : (cI 0).toInt = 0 := rfl
  have i3 : (cI 3).toInt = 3 := rfl
  have i9 : (cI 999).toInt = 999 := rfl
  have e7 : (s.1 30 4 + cI 1).toInt = (s.1 30 4).toInt + 1 := inc_i (by omega)
  have e8 : ix (s.1 30 4 + cI 1) = ix (s.1 30 4) + 1 := ix_inc n2 (by omega)
  have fC : fr [(30, 30, 5), (33, 37, 0)] s (wL (wI (wI (wI (wI (wI s 36 (ix (s.1 30 4)) a) 33 (ix (s.1 30 4)) x) 34 (ix (s.1 30 4)) y) 35 (ix (s.1 30 4)) w) 30 4 (s.1 30 4 + cI 1)) 37 (ix (s.1 30 4)) nm) := (((((fr.rf.wI rfl).wI rfl).wI rfl).wI rfl).wI rfl).wL rfl
  have fM : fr [(549, 549, 28), (560, 564, 0)] t (wI (wI (wI (wI (wL (wI t 560 (ix (s.1 30 4)) a) 561 (ix (s.1 30 4)) nm) 562 (ix (s.1 30 4)) x) 563 (ix (s.1 30 4)) y) 564 (ix (s.1 30 4)) w) 549 27 (s.1 30 4 + cI 1)) := (((((fr.rf.wI rfl).wL rfl).wI rfl).wI rfl).wI rfl).wI rfl
  have LC : ∀ q, (wL (wI (wI (wI (wI (wI s 36 (ix (s.1 30 4)) a) 33 (ix (s.1 30 4)) x) 34 (ix (s.1 30 4)) y) 35 (ix (s.1 30 4)) w) 30 4 (s.1 30 4 + cI 1)) 37 (ix (s.1 30 4)) nm).2.1 37 q = if q = ix (s.1 30 4) then nm else s.2.1 37 q := fun q => by
    show u2 s.2.1 37 (ix (s.1 30 4)) nm 37 q = _
    simp only [u2, if_true]
  have LM : ∀ q, (wI (wI (wI (wI (wL (wI t 560 (ix (s.1 30 4)) a) 561 (ix (s.1 30 4)) nm) 562 (ix (s.1 30 4)) x) 563 (ix (s.1 30 4)) y) 564 (ix (s.1 30 4)) w) 549 27 (s.1 30 4 + cI 1)).2.1 561 q = if q = ix (s.1 30 4) then nm else t.2.1 561 q := fun q => by
    show u2 t.2.1 561 (ix (s.1 30 4)) nm 561 q = _
    simp only [u2, if_true]
  refine ⟨_, _, cI 1, kC, kM, Or.inr rfl, ⟨hP.keep fC fM (by decide +kernel) (by decide +kernel), ?_, ?_, ?_⟩, ?_, ?_, (((((fr.rf.wI rfl).wI rfl).wI rfl).wI rfl).wI rfl).wL rfl, (((((fr.rf.wI rfl).wL rfl).wI rfl).wI rfl).wI rfl).wI rfl⟩
  · have spl : ∀ {f g : Nat → Int32} {x : Int32}, Ag (ix (s.1 30 4)) f g → Ag (ix (s.1 30 4) + 1) (up1 f (ix (s.1 30 4)) x) (up1 g (ix (s.1 30 4)) x) := fun {f g x} hA q hq => by
      by_cases u : q = ix (s.1 30 4)
      · rw [u, up1_eq, up1_eq]
      · rw [up1_ne u, up1_ne u]; exact hA q (by omega)
    have spb : ∀ {f : Nat → Int32} {x : Int32} {l u : Int}, Bd (ix (s.1 30 4)) f l u → l ≤ x.toInt ∧ x.toInt ≤ u → Bd (ix (s.1 30 4) + 1) (up1 f (ix (s.1 30 4)) x) l u := fun {f x l u} hB hx q hq => by
      by_cases v : q = ix (s.1 30 4)
      · rw [v, up1_eq]; exact hx
      · rw [up1_ne v]; exact hB q (by omega)
    unfold RSt
    simp only [LC, LM]
    simp (disch := decide) only [ix_0, ix_1, ix_2, ix_3, ix_4, ix_5, ix_6, ix_7, ix_8, ix_9, ix_10, ix_11, ix_12, ix_13, ix_14, ix_15, ix_16, ix_17, ix_18, ix_19, ix_20, ix_21, Nat.reduceAdd, wI_c, wI_ne, wL_1, lupd_ne, up1_eq, up1_ne, e8]
    refine ⟨⟨trivial, by omega, by omega⟩, spl g1, spl g2, spl g3, spl g4, fun q hq => ?_, spb b1 ⟨by omega, by omega⟩, spb b2 ⟨by omega, by omega⟩, spb b3 ⟨by omega, by omega⟩, spb b4 ⟨ha.1, by have := ha.2; omega⟩, fun q hq => ?_, fun i j hij hj => ?_⟩
    · by_cases u : q = ix (s.1 30 4)
      · rw [if_pos u, if_pos u]
      · rw [if_neg u, if_neg u]; exact g5 q (by omega)
    · by_cases u : q = ix (s.1 30 4)
      · rw [if_pos u]; exact hn
      · rw [if_neg u]; exact b5 q (by omega)
    · by_cases u : j = ix (s.1 30 4)
      · rw [u, up1_eq, up1_ne (by omega), if_pos rfl, if_neg (by omega)]
        exact fun p1 p2 => nomt i (by omega) ⟨p1, p2⟩
      · rw [up1_ne u, up1_ne (by omega), if_neg u, if_neg (by omega)]; exact b6 i j hij (by omega)
  · obtain ⟨m1, r1, r2, r3, r4, c1, c2, c3, c4⟩ := hR
    unfold RRn
    simp (disch := decide) only [ix_0, ix_1, ix_2, ix_3, ix_4, ix_5, ix_6, ix_7, ix_8, ix_9, ix_10, ix_11, ix_12, ix_13, ix_14, ix_15, ix_16, ix_17, ix_18, ix_19, ix_20, ix_21, Nat.reduceAdd, wI_c, wI_ne, wL_1, lupd_ne, up1_eq, up1_ne]
    refine ⟨?_, ?_, ?_, ?_, ?_, fun q hq => ⟨(c1 q hq).1, by have := (c1 q hq).2; omega⟩, c2, c3, c4⟩
    · exact m1
    · exact r1
    · exact r2
    · exact r3
    · exact r4
  · obtain ⟨m1, r1, r2, c1, c2, c3⟩ := hO
    unfold RPo
    simp (disch := decide) only [ix_0, ix_1, ix_2, ix_3, ix_4, ix_5, ix_6, ix_7, ix_8, ix_9, ix_10, ix_11, ix_12, ix_13, ix_14, ix_15, ix_16, ix_17, ix_18, ix_19, ix_20, ix_21, Nat.reduceAdd, wI_c, wI_ne, wL_1, lupd_ne, up1_eq, up1_ne]
    refine ⟨?_, ?_, ?_, fun q hq => ⟨(c1 q hq).1, by have := (c1 q hq).2; omega⟩, c2, c3⟩
    · exact m1
    · exact r1
    · exact r2
  · unfold BxC
    simp only [LC]
    simp (disch := decide) only [ix_0, ix_1, ix_2, ix_3, ix_4, ix_5, ix_6, ix_7, ix_8, ix_9, ix_10, ix_11, ix_12, ix_13, ix_14, ix_15, ix_16, ix_17, ix_18, ix_19, ix_20, ix_21, Nat.reduceAdd, wI_c, wI_ne, wL_1, lupd_ne, up1_eq, up1_ne]
    exact ⟨⟨Int.le_refl _, by omega, Int.le_refl _, Int.le_refl _⟩, fun _ _ => trivial, fun q hq => ⟨up1_ne (by omega), up1_ne (by omega), up1_ne (by omega), up1_ne (by omega), if_neg (by omega)⟩, fun _ _ => ⟨trivial, trivial, trivial, trivial⟩, fun _ _ => ⟨trivial, trivial⟩⟩
  · refine ⟨fun q hq => cFq fM 558 (by decide +kernel), fun q hq => ?_, fun q hq => ⟨cFq fM 565 (by decide +kernel), cFq fM 566 (by decide +kernel), cFq fM 567 (by decide +kernel), cFq fM 568 (by decide +kernel)⟩, fun q hq => ⟨cFq fM 569 (by decide +kernel), cFq fM 570 (by decide +kernel), cFq fM 571 (by decide +kernel)⟩, fun q h1 h2 => ?_⟩
    · rw [LM q]
      simp (disch := decide) only [ix_0, ix_1, ix_2, ix_3, ix_4, ix_5, ix_6, ix_7, ix_8, ix_9, ix_10, ix_11, ix_12, ix_13, ix_14, ix_15, ix_16, ix_17, ix_18, ix_19, ix_20, ix_21, Nat.reduceAdd, wI_c, wI_ne, wL_1, lupd_ne, up1_eq, up1_ne]
      exact ⟨up1_ne (by omega), up1_ne (by omega), up1_ne (by omega), up1_ne (by omega), if_neg (by omega)⟩
    · rw [(fC.1 30 9 rfl).1] at h2
      omega
/-- an entry's letter, and what comes of it -/
theorem adds4 {s t : ev_M} {x1 a b c d : Int32} {nm : Int64} (h : RBk s t) (hx : x1 = cI 80 ∨ x1 = cI 83 ∨ x1 = cI 82 ∨ x1 = cI 72) (e0 : s.1 6 0 = a) (e1 : ¬ x1 = cI 80 → s.1 6 1 = b ∧ 0 ≤ b.toInt) (e2 : x1 = cI 83 ∨ x1 = cI 82 → s.1 6 2 = c ∧ s.1 6 3 = d) (e5 : s.2.1 4 5 = nm) (hn : Nm nm) : AdB s t (fBook_adds_4 s x1) (RBL t x1 a nm b c d) := by
  obtain ⟨hP, hS, hR, hO⟩ := id h
  obtain ⟨v, v1, v2, v3⟩ := e_placeWith (c := a) hP
  have n80 : ¬ cI 83 = cI 80 ∧ ¬ cI 82 = cI 80 ∧ ¬ cI 72 = cI 80 ∧ ¬ cI 82 = cI 83 ∧ ¬ cI 72 = cI 83 ∧ ¬ cI 72 = cI 82 ∧ ¬ cI 83 = cI 81 ∧ ¬ cI 82 = cI 81 ∧ ¬ cI 72 = cI 81 ∧ ¬ cI 83 = cI 82 := by decide
  obtain ⟨m1, m2, m3, m4, m5, m6, m7, m8, m9, m10⟩ := n80
  by_cases z80 : x1 = cI 80
  · subst z80
    have kC : fBook_adds_4 s (cI 80) = bd2 (fBook_addsPlace s a) fun a v => if bz v = true then some (a, v) else none := by
      unfold fBook_adds_4
      rw [if_pos rfl, ix_0, e0]
    have kM : RBL t (cI 80) a nm b c d = bd2 (fM_addPlace t a nm) fun a v => if bz v = true then some (a, v) else none := by
      unfold RBL
      rw [v2, bd1_some]
      by_cases y : v = cI (-1)
      · rw [if_pos y]
        unfold fM_entryOfBook_b177
        rw [if_pos rfl]
      · obtain ⟨w, -, w2, -⟩ := e_streetWith (p := v) (nm := nm) hS
        rw [if_neg y, w2, bd1_some]
        unfold fM_entryOfBook_b177
        rw [if_pos rfl]
    rw [kC, kM]
    exact (ad_place h).ret
  have hx : x1 = cI 83 ∨ x1 = cI 82 ∨ x1 = cI 72 := hx.resolve_left z80
  obtain ⟨e1, eb⟩ := e1 z80
  by_cases y : v = cI (-1)
  · refine AdB.no h ?_ ?_
    · unfold fBook_adds_4
      rw [if_neg z80, ix_0, e0, v1, bd1_some, if_pos y]
    · unfold RBL
      rw [v2, bd1_some, if_pos y, y]
      unfold fM_entryOfBook_b177 fM_entryOfBook_b246 fM_addPoint fM_addRange fM_addStreet
      generalize fM_addRange_h51 1048576 = H
      rcases hx with u | u | u
      · rw [u, if_neg m1, if_neg m7, if_neg m10, if_pos rfl, if_pos rfl, bd2_some, if_pos (show bz (cI 0) = true by decide)]
      · rw [u, if_neg m2, if_neg m8, if_pos rfl, if_pos rfl, bd2_some, if_pos (show bz (cI 0) = true by decide)]
      · rw [u, if_neg m3, if_neg m9, if_neg m6, if_neg m5, if_pos rfl, bd2_some, if_pos (show bz (cI 0) = true by decide)]
  have hv : Has v (s.1 30 2) := by
    rcases v3 with ⟨v3, -⟩ | ⟨q, q1, q2, -⟩
    · exact absurd v3 y
    · have n2 := ix_toNat (s.1 30 2)
      have := hP.1.2.2
      rw [q2]
      exact ⟨by rw [k_ti (by omega)]; omega, by rw [k_ti (by omega)]; omega⟩
  obtain ⟨w, w1, w2, w3⟩ := e_streetWith (p := v) (nm := nm) hS
  have kM : RBL t x1 a nm b c d = fM_entryOfBook_b177 t x1 a nm b c d v w := by
    unfold RBL
    rw [v2, bd1_some, if_neg y, w2, bd1_some]
  by_cases z83 : x1 = cI 83
  · obtain ⟨e2, e3⟩ := e2 (Or.inl z83)
    have kC : fBook_adds_4 s x1 = bd2 (fBook_addsStreet_4 s v) fun a v => if bz v = true then some (a, v) else none := by
      unfold fBook_adds_4
      rw [if_neg z80, ix_0, e0, v1, bd1_some, if_neg y, if_pos z83]
    rw [kC, kM, z83]
    unfold fM_entryOfBook_b177
    rw [if_neg m1, if_neg m7, if_neg m10, if_pos rfl]
    exact (ad_street4 h hv e1 e2 e3 e5 hn).ret
  have hx : x1 = cI 82 ∨ x1 = cI 72 := hx.resolve_left z83
  by_cases yw : w = cI (-1)
  · refine AdB.no h ?_ ?_
    · unfold fBook_adds_4
      rw [if_neg z80, ix_0, e0, v1, bd1_some, if_neg y, if_neg z83, e5, w1, bd1_some, if_pos yw]
    · rw [kM, yw]
      unfold fM_entryOfBook_b177 fM_entryOfBook_b246 fM_addPoint fM_addRange
      generalize fM_addRange_h51 1048576 = H
      rcases hx with u | u
      · rw [u, if_neg m2, if_neg m8, if_pos rfl, if_pos rfl, bd2_some, if_pos (show bz (cI 0) = true by decide)]
      · rw [u, if_neg m3, if_neg m9, if_neg m6, if_neg m5, if_pos rfl, bd2_some, if_pos (show bz (cI 0) = true by decide)]
  have hw : Has w (s.1 30 4) := by
    rcases w3 with ⟨w3, -⟩ | ⟨q, q1, q2, -⟩
    · exact absurd w3 yw
    · have n2 := ix_toNat (s.1 30 4)
      have := hS.1.2.2
      rw [q2]
      exact ⟨by rw [k_ti (by omega)]; omega, by rw [k_ti (by omega)]; omega⟩
  have kC : fBook_adds_4 s x1 = if x1 = cI 82 then (bd2 (fBook_addsRange_4 s w) fun a v => if bz v = true then some (a, v) else none) else (bd2 (fBook_addsPoint s w b) fun a v => if bz v = true then some (a, v) else none) := by
    unfold fBook_adds_4
    rw [if_neg z80, ix_0, e0, v1, bd1_some, if_neg y, if_neg z83, e5, w1, bd1_some, if_neg yw, ix_1, e1]
  rcases hx with u | u
  · obtain ⟨e2, e3⟩ := e2 (Or.inr u)
    rw [kC, kM, if_pos u, u]
    unfold fM_entryOfBook_b177
    rw [if_neg m2, if_neg m8, if_pos rfl]
    exact (ad_range4 h hw e1 e2 e3).ret
  · rw [kC, kM, if_neg (by rw [u]; exact m6), u]
    unfold fM_entryOfBook_b177 fM_entryOfBook_b246
    rw [if_neg m3, if_neg m9, if_neg m6, if_neg m5]
    exact (ad_point h hw eb).ret
