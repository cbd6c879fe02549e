/-! ===== LEVEL 3: streets, points, ranges are taken in ===== -/
section
variable {s t : ev_M}
theorem ad_point {a b : Int32} (h : RBk s t) (ha : Has a (s.1 30 4)) (hb : 0 ≤ b.toInt) : AdB s t (fBook_addsPoint s a b) (fM_addPoint t a b) := by
  obtain ⟨hP, hS, hR, hO⟩ := id h
  obtain ⟨⟨n1, n2, n3⟩, g1, g2, b1, b2, b3⟩ := id hO
  have nn := ix_toNat (s.1 30 9)
  have na : ¬ a = cI (-1) := fun u => by rw [u] at ha; exact absurd ha.1 (by decide)
  have e120 : (cI 120).toInt = 120 := rfl
  obtain ⟨v, v1, v2, v3⟩ := e_pointWith (a := a) (b := b) hO
  rcases e_hasHouse (a := a) hR hb with ⟨w1, w2, q, q1, q2⟩ | ⟨w1, w2, -⟩
  rotate_left
  · refine AdB.no h ?_ ?_
    · unfold fBook_addsPoint
      rw [w1, bd1_some, if_pos (show cI 0 = 0 from rfl)]
    · unfold fM_addPoint
      rw [if_neg na, w2, bd1_some, if_pos (show cI 0 = 0 from rfl)]
  have kC : fBook_addsPoint s a b = if v = cI (-1) then (if s.1 30 9 < cI 120 then (if inb (s.1 30 9) 120 = true then some (wI (wI (wI s 44 (ix (s.1 30 9)) a) 30 9 (s.1 30 9 + cI 1)) 45 (ix (s.1 30 9)) b, cI 1) else none) else some (s, cI 0)) else some (s, cI 0) := by
    unfold fBook_addsPoint
    rw [w1, bd1_some, if_neg (show ¬ cI 1 = 0 by decide), v1, bd1_some]
    by_cases y : v = cI (-1)
    · rw [if_pos y, if_pos y]
      by_cases w : s.1 30 9 < cI 120
      · have ib : inb (s.1 30 9) 120 = true := inb_iff.mpr ⟨n2, by rw [lt_i] at w; omega⟩
        rw [if_pos w, if_pos w]
        simp (disch := decide) only [ltM_eq, ix_0, ix_1, ix_2, ix_3, ix_4, ix_5, ix_6, ix_7, ix_8, ix_9, ix_10, ix_11, ix_12, ix_13, ix_14, ix_15, ix_16, ix_17, ix_18, ix_19, ix_20, ix_21, Nat.reduceAdd, wI_c, wI_ne, wL_1, lupd_ne, up1_eq, up1_ne, Nat.add_zero, if_pos ib]
      · rw [if_neg w, if_neg w]
    · rw [if_neg y, if_neg y]
  have kM : fM_addPoint t a b = if v = cI (-1) then (if s.1 30 9 = cI 120 then some (t, cI 0) else if inb (s.1 30 9) 120 = true then some (wI (wI (wI (wI t 569 (ix (s.1 30 9)) a) 570 (ix (s.1 30 9)) b) 571 (ix (s.1 30 9)) (cI (-1))) 549 38 (s.1 30 9 + cI 1), cI 1) else none) else some (t, cI 0) := by
    unfold fM_addPoint
    rw [if_neg na, w2, bd1_some, if_neg (show ¬ cI 1 = 0 by decide), v2, bd1_some, n1]
    by_cases y : v = cI (-1)
    · rw [if_pos y, if_pos y]
      by_cases w : s.1 30 9 = cI 120
      · rw [if_pos w, if_pos w]
      · have ib : inb (s.1 30 9) 120 = true := inb_iff.mpr ⟨n2, by rw [eq_i] at w; omega⟩
        rw [if_neg w, if_neg w]
        simp (disch := decide) only [ltM_eq, ix_0, ix_1, ix_2, ix_3, ix_4, ix_5, ix_6, ix_7, ix_8, ix_9, ix_10, ix_11, ix_12, ix_13, ix_14, ix_15, ix_16, ix_17, ix_18, ix_19, ix_20, ix_21, Nat.reduceAdd, wI_c, wI_ne, wL_1, lupd_ne, up1_eq, up1_ne, n1, if_pos ib]
    · rw [if_neg y, if_neg y]
  by_cases y : v = cI (-1)
  rotate_left
  · exact AdB.no h (by rw [kC, if_neg y]) (by rw [kM, if_neg y])
  by_cases w : s.1 30 9 = cI 120
  · exact AdB.no h (by rw [kC, if_pos y, if_neg (by rw [w]; decide)]) (by rw [kM, if_pos y, if_pos w])
  have wl : (s.1 30 9).toInt < 120 := by rw [eq_i] at w; omega
  have ib : inb (s.1 30 9) 120 = true := inb_iff.mpr ⟨n2, by omega⟩
  have e1 : (s.1 30 9 + cI 1).toInt = (s.1 30 9).toInt + 1 := inc_i (by omega)
  have e2 : ix (s.1 30 9 + cI 1) = ix (s.1 30 9) + 1 := ix_inc n2 (by omega)
  have nomt : ∀ q, q < ix (s.1 30 9) → ¬ (s.1 44 q = a ∧ s.1 45 q = b) := by
    rcases v3 with ⟨-, v3⟩ | ⟨q, q1, q2, q3⟩
    · exact v3
    · rw [y] at q2
      exact absurd q2 (neg1_ne (n := q) (by omega))
  obtain ⟨-, r1, r2, r3, r4, c1, c2, c3, c4⟩ := id hR
  have bb : 1 ≤ b.toInt ∧ b.toInt ≤ 999 := by
    obtain ⟨-, q3, -⟩ := q2
    have := (c3 q q1).1
    have := (c4 q q1).2
    have := q3.1
    have := q3.2
    omega
  have fC : fr [(30, 30, 10), (44, 45, 0)] s (wI (wI (wI s 44 (ix (s.1 30 9)) a) 30 9 (s.1 30 9 + cI 1)) 45 (ix (s.1 30 9)) b) := ((fr.rf.wI rfl).wI rfl).wI rfl
  have fM : fr [(549, 549, 39), (569, 571, 0)] t (wI (wI (wI (wI t 569 (ix (s.1 30 9)) a) 570 (ix (s.1 30 9)) b) 571 (ix (s.1 30 9)) (cI (-1))) 549 38 (s.1 30 9 + cI 1)) := (((fr.rf.wI rfl).wI rfl).wI rfl).wI rfl
  refine ⟨_, _, cI 1, by rw [kC, if_pos y, if_pos (by rw [lt_i]; omega), if_pos ib], by rw [kM, if_pos y, if_neg w, if_pos ib], Or.inr rfl, ⟨hP.keep fC fM (by decide +kernel) (by decide +kernel), hS.keep fC fM (by decide +kernel) (by decide +kernel), hR.keep fC fM (by decide +kernel) (by decide +kernel), ?_⟩, ?_, ?_, ((fr.rf.wI rfl).wI rfl).wI rfl, (((fr.rf.wI rfl).wI rfl).wI rfl).wI rfl⟩
  · unfold RPo
    simp (disch := decide) only [ix_0, ix_1, ix_2, ix_3, ix_4, ix_5, ix_6, ix_7, ix_8, ix_9, ix_10, ix_11, ix_12, ix_13, ix_14, ix_15, ix_16, ix_17, ix_18, ix_19, ix_20, ix_21, Nat.reduceAdd, wI_c, wI_ne, wL_1, lupd_ne, up1_eq, up1_ne, e2]
    refine ⟨⟨trivial, by omega, by omega⟩, fun q hq => ?_, fun q hq => ?_, fun q hq => ?_, fun q hq => ?_, fun i j hij hj => ?_⟩
    · by_cases u : q = ix (s.1 30 9)
      · rw [u, up1_eq, up1_eq]
      · rw [up1_ne u, up1_ne u]; exact g1 q (by omega)
    · by_cases u : q = ix (s.1 30 9)
      · rw [u, up1_eq, up1_eq]
      · rw [up1_ne u, up1_ne u]; exact g2 q (by omega)
    · by_cases u : q = ix (s.1 30 9)
      · rw [u, up1_eq]; exact ⟨ha.1, by have := ha.2; omega⟩
      · rw [up1_ne u]; exact b1 q (by omega)
    · by_cases u : q = ix (s.1 30 9)
      · rw [u, up1_eq]; exact bb
      · rw [up1_ne u]; exact b2 q (by omega)
    · by_cases u : j = ix (s.1 30 9)
      · rw [u, up1_eq, up1_eq, up1_ne (by omega), up1_ne (by omega)]
        exact fun p1 p2 => nomt i (by omega) ⟨p1, p2⟩
      · rw [up1_ne u, up1_ne u, up1_ne (by omega), up1_ne (by omega)]; exact b3 i j hij (by omega)
  · unfold BxC
    simp (disch := decide) only [ix_0, ix_1, ix_2, ix_3, ix_4, ix_5, ix_6, ix_7, ix_8, ix_9, ix_10, ix_11, ix_12, ix_13, ix_14, ix_15, ix_16, ix_17, ix_18, ix_19, ix_20, ix_21, Nat.reduceAdd, wI_c, wI_ne, wL_1, lupd_ne, up1_eq, up1_ne]
    exact ⟨⟨Int.le_refl _, Int.le_refl _, Int.le_refl _, by omega⟩, fun _ _ => trivial, fun _ _ => ⟨trivial, trivial, trivial, trivial, rfl⟩, fun _ _ => ⟨trivial, trivial, trivial, trivial⟩, fun q hq => ⟨up1_ne (by omega), up1_ne (by omega)⟩⟩
  · refine ⟨fun q hq => cFq fM 558 (by decide +kernel), fun q hq => ⟨cFq fM 562 (by decide +kernel), cFq fM 563 (by decide +kernel), cFq fM 564 (by decide +kernel), cFq fM 560 (by decide +kernel), cFL fM 561 (by decide +kernel)⟩, fun q hq => ⟨cFq fM 565 (by decide +kernel), cFq fM 566 (by decide +kernel), cFq fM 567 (by decide +kernel), cFq fM 568 (by decide +kernel)⟩, fun q hq => ?_, fun q h1 h2 => ?_⟩
    · simp (disch := decide) only [ix_0, ix_1, ix_2, ix_3, ix_4, ix_5, ix_6, ix_7, ix_8, ix_9, ix_10, ix_11, ix_12, ix_13, ix_14, ix_15, ix_16, ix_17, ix_18, ix_19, ix_20, ix_21, Nat.reduceAdd, wI_c, wI_ne, wL_1, lupd_ne, up1_eq, up1_ne]
      exact ⟨up1_ne (by omega), up1_ne (by omega), up1_ne (by omega)⟩
    · simp (disch := decide) only [ix_0, ix_1, ix_2, ix_3, ix_4, ix_5, ix_6, ix_7, ix_8, ix_9, ix_10, ix_11, ix_12, ix_13, ix_14, ix_15, ix_16, ix_17, ix_18, ix_19, ix_20, ix_21, Nat.reduceAdd, wI_c, wI_ne, wL_1, lupd_ne, up1_eq, up1_ne, e2] at h2 ⊢
      rw [show q = ix (s.1 30 9) by omega, up1_eq]
/-- houses in common: what the class's look at two of them says -/
theorem e_shares {r : Nat} {side lo hi : Int32} (hr : r < 60) (hs : 0 ≤ side.toInt ∧ side.toInt ≤ 2) (hl : 1 ≤ lo.toInt ∧ lo.toInt ≤ 999) (hh : hi.toInt ≤ 999) (h40 : 0 ≤ (s.1 40 r).toInt ∧ (s.1 40 r).toInt ≤ 2) (h41 : 1 ≤ (s.1 41 r).toInt ∧ (s.1 41 r).toInt ≤ 999) (h42 : (s.1 42 r).toInt ≤ 999) : (fBook_sharesHouse s (cI (r : Int)) side lo hi = some (cI 1) ∧ ∃ h : Int32, InR h lo hi ∧ onS h side ∧ InR h (s.1 41 r) (s.1 42 r) ∧ onS h (s.1 40 r)) ∨ (fBook_sharesHouse s (cI (r : Int)) side lo hi = some (cI 0) ∧ ¬ ∃ h : Int32, InR h lo hi ∧ onS h side ∧ InR h (s.1 41 r) (s.1 42 r) ∧ onS h (s.1 40 r)) := by
  have rb : inb (cI (r : Int)) 60 = true := k_in hr (by decide)
  have rx : ix (cI (r : Int)) = r := k_ix (by omega)
  obtain ⟨f, ef, ef2⟩ : ∃ f, fMath_max s lo (s.1 41 r) = some f ∧ f.toInt = if lo.toInt < (s.1 41 r).toInt then (s.1 41 r).toInt else lo.toInt := by
    unfold fMath_max
    by_cases z : lo < s.1 41 r
    · exact ⟨_, by rw [if_pos z], by rw [if_pos (lt_i.mp z)]⟩
    · exact ⟨_, by rw [if_neg z], by rw [if_neg (fun u => z (lt_i.mpr u))]⟩
  obtain ⟨g, eg, eg2⟩ := e_min (s := s) (a := hi) (b := s.1 42 r)
  have fb : 1 ≤ f.toInt ∧ f.toInt ≤ 999 := by rw [ef2]; split <;> omega
  have f1 : (f + cI 1).toInt = f.toInt + 1 := inc_i (by omega)
  have f2 : (f + cI 1 + cI 1).toInt = f.toInt + 2 := by rw [inc_i (by omega), f1]; omega
  have kS : fBook_sharesHouse s (cI (r : Int)) side lo hi = fBook_sharesHouse_h33 s 1048576 (cI (r : Int)) side f g f := by
    unfold fBook_sharesHouse
    generalize 1048576 = H
    rw [if_pos rb, rx, ix_2, ef, bd1_some, if_pos rb, ix_3, eg, bd1_some]
  have par : ∀ {h h' sd : Int32}, h.toInt % 2 = h'.toInt % 2 → onS h sd → onS h' sd := by
    intro h h' sd e u
    rcases u with u | u
    · exact Or.inl u
    · exact Or.inr (by omega)
  have sA : ∀ n (x : Int32), 0 ≤ x.toInt → x ≤ g → x ≤ f + cI 1 → onS x side → onS x (s.1 40 r) → fBook_sharesHouse_h33 s (n + 1) (cI (r : Int)) side f g x = some (cI 1) := by
    intro n x x0 h1 h2 h3 h4
    have o1 : fBook_isOnSide s x side = some (cI 1) := by
      rcases e_onSide (u := s) x0 hs with ⟨o, -⟩ | ⟨-, o⟩
      · exact o
      · exact absurd h3 o
    have o2 : fBook_isOnSide s x (s.1 40 r) = some (cI 1) := by
      rcases e_onSide (u := s) x0 h40 with ⟨o, -⟩ | ⟨-, o⟩
      · exact o
      · exact absurd h4 o
    rw [fBook_sharesHouse_h33, if_pos h1, if_pos h2, o1, bd1_some, if_neg (show ¬ cI 1 = 0 by decide), if_pos rb, rx, ix_1, o2, bd1_some, if_neg (show ¬ cI 1 = 0 by decide)]
  have sB : ∀ n (x : Int32), 0 ≤ x.toInt → x ≤ g → x ≤ f + cI 1 → ¬ (onS x side ∧ onS x (s.1 40 r)) → fBook_sharesHouse_h33 s (n + 1) (cI (r : Int)) side f g x = fBook_sharesHouse_h33 s n (cI (r : Int)) side f g (x + cI 1) := by
    intro n x x0 h1 h2 h3
    rw [fBook_sharesHouse_h33, if_pos h1, if_pos h2]
    unfold fBook_sharesHouse_b76
    rcases e_onSide (u := s) x0 hs with ⟨o, oo⟩ | ⟨o, -⟩
    · rw [o, bd1_some, if_neg (show ¬ cI 1 = 0 by decide), if_pos rb, rx, ix_1]
      rcases e_onSide (u := s) x0 h40 with ⟨-, o2⟩ | ⟨o2, -⟩
      · exact absurd ⟨oo, o2⟩ h3
      · rw [show s.1 (39 + 1) r = s.1 40 r from rfl, o2, bd1_some, if_pos (show cI 0 = 0 from rfl)]
    · rw [o, bd1_some, if_pos (show cI 0 = 0 from rfl)]
  have sC : ∀ n (x : Int32), ¬ x ≤ g → fBook_sharesHouse_h33 s (n + 1) (cI (r : Int)) side f g x = some (cI 0) := by
    intro n x h1
    rw [fBook_sharesHouse_h33, if_neg h1]
  have sD : ∀ n (x : Int32), ¬ x ≤ f + cI 1 → fBook_sharesHouse_h33 s (n + 1) (cI (r : Int)) side f g x = some (cI 0) := by
    intro n x h1
    rw [fBook_sharesHouse_h33, if_neg h1, ite_self]
  have inh : ∀ h : Int32, (InR h lo hi ∧ InR h (s.1 41 r) (s.1 42 r)) ↔ (f.toInt ≤ h.toInt ∧ h.toInt ≤ g.toInt) := by
    intro h
    show ((_ ∧ _) ∧ (_ ∧ _)) ↔ _
    rw [ef2, eg2]
    split <;> split <;> omega
  rw [kS]
  show (fBook_sharesHouse_h33 s (1048573 + 1 + 1 + 1) (cI (r : Int)) side f g f = some (cI 1) ∧ _) ∨ (fBook_sharesHouse_h33 s (1048573 + 1 + 1 + 1) (cI (r : Int)) side f g f = some (cI 0) ∧ _)
  generalize 1048573 = H
  by_cases z1 : f ≤ g
  rotate_left
  · refine Or.inr ⟨sC _ _ z1, fun ⟨h, h1, _, h3, _⟩ => ?_⟩
    have := (inh h).mp ⟨h1, h3⟩
    rw [le_i] at z1; omega
  have l1 : f ≤ f + cI 1 := by rw [le_i, f1]; omega
  rcases Classical.em (onS f side ∧ onS f (s.1 40 r)) with p1 | p1
  · have w := (inh f).mpr ⟨Int.le_refl _, le_i.mp z1⟩
    exact Or.inl ⟨sA _ _ (by omega) z1 l1 p1.1 p1.2, f, w.1, p1.1, w.2, p1.2⟩
  rw [sB _ f (by omega) z1 l1 p1]
  by_cases z2 : f + cI 1 ≤ g
  rotate_left
  · refine Or.inr ⟨sC _ _ z2, fun ⟨h, h1, h2, h3, h4⟩ => ?_⟩
    have w := (inh h).mp ⟨h1, h3⟩
    rw [le_i, f1] at z2
    exact p1 ⟨par (by omega) h2, par (by omega) h4⟩
  rcases Classical.em (onS (f + cI 1) side ∧ onS (f + cI 1) (s.1 40 r)) with p2 | p2
  · have w := (inh (f + cI 1)).mpr ⟨by omega, le_i.mp z2⟩
    exact Or.inl ⟨sA _ _ (by omega) z2 (by rw [le_i]; omega) p2.1 p2.2, f + cI 1, w.1, p2.1, w.2, p2.2⟩
  rw [sB _ (f + cI 1) (by omega) z2 (by rw [le_i]; omega) p2]
  refine Or.inr ⟨sD _ _ (by rw [le_i, f1, f2]; omega), fun ⟨h, h1, h2, h3, h4⟩ => ?_⟩
  have w := (inh h).mp ⟨h1, h3⟩
  by_cases y : h.toInt % 2 = f.toInt % 2
  · exact p1 ⟨par y h2, par y h4⟩
  · have y2 : h.toInt % 2 = (f + cI 1).toInt % 2 := by rw [f1]; omega
    exact p2 ⟨par y2 h2, par y2 h4⟩
/-- the reference looks at every house of a new range -/
theorem rg_lp {a side lo hi : Int32} (hR : RRn s t) (hs : 0 ≤ side.toInt ∧ side.toInt ≤ 2) (hl : 1 ≤ lo.toInt) (hh : hi.toInt ≤ 999) (h60 : (s.1 30 7).toInt < 60) : ∀ (r m : Nat) (x : Int32), hi.toInt + 1 - x.toInt ≤ r → r < m → lo.toInt ≤ x.toInt → x.toInt ≤ 1000 → ((∃ h : Int32, x.toInt ≤ h.toInt ∧ InR h lo hi ∧ onS h side ∧ ∃ q, q < ix (s.1 30 7) ∧ holds s a h q) → fM_addRange_h51 m t a side lo hi x = some (t, cI 0)) ∧ ((¬ ∃ h : Int32, x.toInt ≤ h.toInt ∧ InR h lo hi ∧ onS h side ∧ ∃ q, q < ix (s.1 30 7) ∧ holds s a h q) → fM_addRange_h51 m t a side lo hi x = some (wI (wI (wI (wI (wI t 565 (ix (s.1 30 7)) a) 566 (ix (s.1 30 7)) side) 567 (ix (s.1 30 7)) lo) 568 (ix (s.1 30 7)) hi) 549 33 (s.1 30 7 + cI 1), cI 1)) := by
  obtain ⟨⟨n1, n2, n3⟩, -⟩ := id hR
  have ib : inb (s.1 30 7) 60 = true := inb_iff.mpr ⟨n2, by omega⟩
  have fin : ∀ m (x : Int32), ¬ x ≤ hi → fM_addRange_h51 (m + 1) t a side lo hi x = some (wI (wI (wI (wI (wI t 565 (ix (s.1 30 7)) a) 566 (ix (s.1 30 7)) side) 567 (ix (s.1 30 7)) lo) 568 (ix (s.1 30 7)) hi) 549 33 (s.1 30 7 + cI 1), cI 1) := by
    intro m x hx
    rw [fM_addRange_h51, if_neg hx]
    simp (disch := decide) only [ltM_eq, ix_0, ix_1, ix_2, ix_3, ix_4, ix_5, ix_6, ix_7, ix_8, ix_9, ix_10, ix_11, ix_12, ix_13, ix_14, ix_15, ix_16, ix_17, ix_18, ix_19, ix_20, ix_21, Nat.reduceAdd, wI_c, wI_ne, wL_1, lupd_ne, up1_eq, up1_ne, n1, if_pos ib]
  intro r
  induction r with
  | zero =>
    intro m x h1 h2 h3 h4
    obtain ⟨m, rfl⟩ : ∃ k, m = k + 1 := ⟨m - 1, by omega⟩
    refine ⟨fun ⟨h, w1, w2, _⟩ => ?_, fun _ => fin m x (by rw [le_i]; omega)⟩
    have := w2.2
    omega
  | succ r ih =>
    intro m x h1 h2 h3 h4
    obtain ⟨m, rfl⟩ : ∃ k, m = k + 1 := ⟨m - 1, by omega⟩
    by_cases z : x ≤ hi
    rotate_left
    · refine ⟨fun ⟨h, w1, w2, _⟩ => ?_, fun _ => fin m x z⟩
      have := w2.2
      rw [le_i] at z
      omega
    have zi := le_i.mp z
    have e1 : (x + cI 1).toInt = x.toInt + 1 := inc_i (by omega)
    obtain ⟨i1, i2⟩ := ih m (x + cI 1) (by omega) (by omega) (by omega) (by omega)
    have xin : InR x lo hi := ⟨h3, zi⟩
    have next : ¬ (onS x side ∧ ∃ q, q < ix (s.1 30 7) ∧ holds s a x q) → fM_addRange_h51 (m + 1) t a side lo hi x = fM_addRange_h51 m t a side lo hi (x + cI 1) := by
      intro hn
      rw [fM_addRange_h51, if_pos z]
      unfold fM_addRange_b82
      rcases e_has (u := t) (lo := lo) (hi := hi) (show 0 ≤ x.toInt by omega) hs with ⟨o, -, oo⟩ | ⟨o, -⟩
      · rw [o, bd1_some, if_neg (show ¬ cI 1 = 0 by decide)]
        rcases e_hasHouse (a := a) hR (show 0 ≤ x.toInt by omega) with ⟨-, -, q⟩ | ⟨-, o2, -⟩
        · exact absurd ⟨oo, q⟩ hn
        · rw [o2, bd1_some, if_pos (show cI 0 = 0 from rfl)]
      · rw [o, bd1_some, if_pos (show cI 0 = 0 from rfl)]
    rcases Classical.em (onS x side ∧ ∃ q, q < ix (s.1 30 7) ∧ holds s a x q) with y | y
    · refine ⟨fun _ => ?_, fun hn => absurd ⟨x, Int.le_refl _, xin, y.1, y.2⟩ hn⟩
      rw [fM_addRange_h51, if_pos z]
      rcases e_has (u := t) (lo := lo) (hi := hi) (show 0 ≤ x.toInt by omega) hs with ⟨o, -⟩ | ⟨-, o⟩
      · rw [o, bd1_some, if_neg (show ¬ cI 1 = 0 by decide)]
        rcases e_hasHouse (a := a) hR (show 0 ≤ x.toInt by omega) with ⟨-, o2, -⟩ | ⟨-, -, o2⟩
        · rw [o2, bd1_some, if_neg (show ¬ cI 1 = 0 by decide)]
        · obtain ⟨q, q1, q2⟩ := y.2
          exact absurd q2 (o2 q q1)
      · exact absurd ⟨xin, y.1⟩ o
    · rw [next y]
      refine ⟨fun ⟨h, w1, w2, w3, w4⟩ => i1 ⟨h, ?_, w2, w3, w4⟩, fun hn => i2 (fun ⟨h, w1, w2, w3, w4⟩ => hn ⟨h, by omega, w2, w3, w4⟩)⟩
      by_cases u : h.toInt = x.toInt
      · rw [← eq_i] at u
        rw [u] at w3 w4
        exact absurd ⟨w3, w4⟩ y
      · omega
end
theorem ad_range1 {s t : ev_M} {a side lo hi : Int32} (h : RBk s t) (ha : Has a (s.1 30 4)) (e1 : s.1 3 1 = side) (e2 : s.1 3 2 = lo) (e3 : s.1 3 3 = hi) : AdB s t (fBook_addsRange_1 s a) (fM_addRange t a side lo hi) := by
  obtain ⟨hP, hS, hR, hO⟩ := id h
  obtain ⟨⟨n1, n2, n3⟩, r1, r2, r3, r4, c1, c2, c3, c4⟩ := id hR
  have nn := ix_toNat (s.1 30 7)
  have en : cI ((ix (s.1 30 7) : Nat) : Int) = s.1 30 7 := cI_ix n2
  have na : ¬ a = cI (-1) := fun u => by rw [u] at ha; exact absurd ha.1 (by decide)
  have e60 : (cI 60).toInt = 60 := rfl
  have i0 : (cI 0).toInt = 0 := rfl
  have i1 : (cI 1).toInt = 1 := rfl
  have i2 : (cI 2).toInt = 2 := rfl
  have i9 : (cI 999).toInt = 999 := rfl
  by_cases z1 : InR side (cI 0) (cI 2)
  rotate_left
  · refine AdB.no h ?_ ?_
    · unfold fBook_addsRange_1
      generalize fBook_addsRange_1_h71 1048576 = H
      rw [ltI_eq, ltI_eq, ltI_eq, ix_1, ix_2, ix_3, e1, outside_eq, bd1_some, ite_bI, if_pos z1]
    · unfold fM_addRange
      generalize fM_addRange_h51 1048576 = H
      rw [if_neg na, in_eq, bd1_some, ite_bI, if_neg z1]
  by_cases z2 : InR lo (cI 1) (cI 999)
  rotate_left
  · refine AdB.no h ?_ ?_
    · unfold fBook_addsRange_1
      generalize fBook_addsRange_1_h71 1048576 = H
      rw [ltI_eq, ltI_eq, ltI_eq, ix_1, ix_2, ix_3, e1, e2, outside_eq, bd1_some, ite_bI, if_neg (fun u => u z1), outside_eq, bd1_some, ite_bI, if_pos z2]
    · unfold fM_addRange
      generalize fM_addRange_h51 1048576 = H
      rw [if_neg na, in_eq, bd1_some, ite_bI, if_pos z1, in_eq, bd1_some, ite_bI, if_neg z2]
  by_cases z3 : InR hi lo (cI 999)
  rotate_left
  · refine AdB.no h ?_ ?_
    · unfold fBook_addsRange_1
      generalize fBook_addsRange_1_h71 1048576 = H
      rw [ltI_eq, ltI_eq, ltI_eq, ix_1, ix_2, ix_3, e1, e2, e3, outside_eq, bd1_some, ite_bI, if_neg (fun u => u z1), outside_eq, bd1_some, ite_bI, if_neg (fun u => u z2), outside_eq, bd1_some, ite_bI, if_pos z3]
    · unfold fM_addRange
      generalize fM_addRange_h51 1048576 = H
      rw [if_neg na, in_eq, bd1_some, ite_bI, if_pos z1, in_eq, bd1_some, ite_bI, if_pos z2, in_eq, bd1_some, ite_bI, if_neg z3]
  have kC : fBook_addsRange_1 s a = if s.1 30 7 < cI 60 then fBook_addsRange_1_h71 1048576 s a side lo hi (cI 0) else some (s, cI 0) := by
    unfold fBook_addsRange_1
    generalize fBook_addsRange_1_h71 1048576 = H
    rw [ltI_eq, ltI_eq, ltI_eq, ix_1, ix_2, ix_3, e1, e2, e3, outside_eq, bd1_some, ite_bI, if_neg (fun u => u z1), outside_eq, bd1_some, ite_bI, if_neg (fun u => u z2), outside_eq, bd1_some, ite_bI, if_neg (fun u => u z3)]
  have kM : fM_addRange t a side lo hi = if s.1 30 7 = cI 60 then some (t, cI 0) else fM_addRange_h51 1048576 t a side lo hi lo := by
    unfold fM_addRange
    generalize fM_addRange_h51 1048576 = H
    rw [if_neg na, in_eq, bd1_some, ite_bI, if_pos z1, in_eq, bd1_some, ite_bI, if_pos z2, in_eq, bd1_some, ite_bI, if_pos z3, n1]
  by_cases w : s.1 30 7 = cI 60
  · exact AdB.no h (by rw [kC, if_neg (by rw [w]; decide)]) (by rw [kM, if_pos w])
  have wl : (s.1 30 7).toInt < 60 := by rw [eq_i] at w; omega
  rw [if_pos (by rw [lt_i]; omega)] at kC
  rw [if_neg w] at kM
  have ib : inb (s.1 30 7) 60 = true := inb_iff.mpr ⟨n2, by omega⟩
  obtain ⟨y1, y2⟩ := z1
  obtain ⟨y3, y4⟩ := z2
  obtain ⟨y5, y6⟩ := z3
  have sh : ∀ q, q < ix (s.1 30 7) → _ := fun q hq => e_shares (s := s) (r := q) (side := side) (lo := lo) (hi := hi) (by omega) ⟨by omega, by omega⟩ ⟨by omega, by omega⟩ (by omega) (c2 q hq) (c3 q hq) (c4 q hq).2
  have hS1 : ∀ n q, q < ix (s.1 30 7) → ((s.1 39 q = a ∧ ∃ h : Int32, InR h lo hi ∧ onS h side ∧ InR h (s.1 41 q) (s.1 42 q) ∧ onS h (s.1 40 q)) → fBook_addsRange_1_h71 (n + 1) s a side lo hi (cI (q : Int)) = some (s, cI 0)) ∧ (¬ (s.1 39 q = a ∧ ∃ h : Int32, InR h lo hi ∧ onS h side ∧ InR h (s.1 41 q) (s.1 42 q) ∧ onS h (s.1 40 q)) → fBook_addsRange_1_h71 (n + 1) s a side lo hi (cI (q : Int)) = fBook_addsRange_1_h71 n s a side lo hi (cI ((q + 1 : Nat) : Int))) := by
    intro n q hq
    have lt : cI (q : Int) < s.1 30 7 := by rw [lt_i, k_ti (by omega)]; omega
    have qb : inb (cI (q : Int)) 60 = true := k_in (by omega) (by decide)
    have qx : ix (cI (q : Int)) = q := k_ix (by omega)
    constructor
    · rintro ⟨u1, u2⟩
      rw [fBook_addsRange_1_h71, if_pos lt, if_pos qb, qx, ix_0, if_pos (show s.1 (39 + 0) q = a from u1)]
      rcases sh q hq with ⟨o, -⟩ | ⟨-, o⟩
      · rw [o, bd1_some, if_neg (show ¬ cI 1 = 0 by decide)]
      · exact absurd u2 o
    · intro u
      rw [fBook_addsRange_1_h71, if_pos lt, if_pos qb, qx, ix_0]
      unfold fBook_addsRange_1_b109
      rw [k_s (by omega)]
      by_cases u1 : s.1 39 q = a
      · rw [if_pos (show s.1 (39 + 0) q = a from u1)]
        rcases sh q hq with ⟨-, o⟩ | ⟨o, -⟩
        · exact absurd ⟨u1, o⟩ u
        · rw [o, bd1_some, if_pos (show cI 0 = 0 from rfl)]
      · rw [if_neg (show ¬ s.1 (39 + 0) q = a from u1)]
  have hE : ∀ n, fBook_addsRange_1_h71 (n + 1) s a side lo hi (cI ((ix (s.1 30 7) : Nat) : Int)) = some (wI (wI (wI (wI (wI s 39 (ix (s.1 30 7)) a) 40 (ix (s.1 30 7)) side) 41 (ix (s.1 30 7)) lo) 30 7 (s.1 30 7 + cI 1)) 42 (ix (s.1 30 7)) hi, cI 1) := by
    intro n
    rw [fBook_addsRange_1_h71, en, if_neg (by rw [lt_i]; exact Int.lt_irrefl _)]
    simp (disch := decide) only [ltM_eq, ix_0, ix_1, ix_2, ix_3, ix_4, ix_5, ix_6, ix_7, ix_8, ix_9, ix_10, ix_11, ix_12, ix_13, ix_14, ix_15, ix_16, ix_17, ix_18, ix_19, ix_20, ix_21, Nat.reduceAdd, wI_c, wI_ne, wL_1, lupd_ne, up1_eq, up1_ne, Nat.add_zero, if_pos ib]
  obtain ⟨m1, m2⟩ := rg_lp (a := a) (side := side) (lo := lo) (hi := hi) hR ⟨by omega, by omega⟩ (by omega) (by omega) wl 1000 1048576 lo (by omega) (by omega) (Int.le_refl _) (by omega)
  rcases Classical.em (∃ q, q < ix (s.1 30 7) ∧ s.1 39 q = a ∧ ∃ h : Int32, InR h lo hi ∧ onS h side ∧ InR h (s.1 41 q) (s.1 42 q) ∧ onS h (s.1 40 q)) with P | P
  · refine AdB.no h ?_ ?_
    · rw [kC]
      obtain ⟨q, q1, q2⟩ := P
      exact gl_Z (N := ix (s.1 30 7)) (mt := fun q => s.1 39 q = a ∧ ∃ h : Int32, InR h lo hi ∧ onS h side ∧ InR h (s.1 41 q) (s.1 42 q) ∧ onS h (s.1 40 q)) (H := fun n k => fBook_addsRange_1_h71 n s a side lo hi k) hS1 (ix (s.1 30 7)) 1048576 0 (by omega) (by omega) ⟨q, Nat.zero_le _, q1, q2⟩
    · rw [kM]
      obtain ⟨q, q1, q2, x, x1, x2, x3, x4⟩ := P
      exact m1 ⟨x, x1.1, x1, x2, q, q1, q2, x3, x4⟩
  have l1 : fBook_addsRange_1 s a = _ := kC.trans (gl_E (N := ix (s.1 30 7)) (mt := fun q => s.1 39 q = a ∧ ∃ h : Int32, InR h lo hi ∧ onS h side ∧ InR h (s.1 41 q) (s.1 42 q) ∧ onS h (s.1 40 q)) (H := fun n k => fBook_addsRange_1_h71 n s a side lo hi k) hS1 hE (ix (s.1 30 7)) 1048576 0 (by omega) (by omega) (fun q _ hq u => P ⟨q, hq, u⟩))
  have l2 : fM_addRange t a side lo hi = _ := kM.trans (m2 (fun ⟨x, x0, x1, x2, q, q1, q2, x3, x4⟩ => P ⟨q, q1, q2, x, x1, x2, x3, x4⟩))
  have e7 : (s.1 30 7 + cI 1).toInt = (s.1 30 7).toInt + 1 := inc_i (by omega)
  have e8 : ix (s.1 30 7 + cI 1) = ix (s.1 30 7) + 1 := ix_inc n2 (by omega)
  have fC : fr [(30, 30, 8), (39, 42, 0)] s (wI (wI (wI (wI (wI s 39 (ix (s.1 30 7)) a) 40 (ix (s.1 30 7)) side) 41 (ix (s.1 30 7)) lo) 30 7 (s.1 30 7 + cI 1)) 42 (ix (s.1 30 7)) hi) := ((((fr.rf.wI rfl).wI rfl).wI rfl).wI rfl).wI rfl
  have fM : fr [(549, 549, 34), (565, 568, 0)] t (wI (wI (wI (wI (wI t 565 (ix (s.1 30 7)) a) 566 (ix (s.1 30 7)) side) 567 (ix (s.1 30 7)) lo) 568 (ix (s.1 30 7)) hi) 549 33 (s.1 30 7 + cI 1)) := ((((fr.rf.wI rfl).wI rfl).wI rfl).wI rfl).wI rfl
  refine ⟨_, _, cI 1, l1, l2, Or.inr rfl, ⟨hP.keep fC fM (by decide +kernel) (by decide +kernel), hS.keep fC fM (by decide +kernel) (by decide +kernel), ?_, hO.keep fC fM (by decide +kernel) (by decide +kernel)⟩, ?_, ?_, ((((fr.rf.wI rfl).wI rfl).wI rfl).wI rfl).wI rfl, ((((fr.rf.wI rfl).wI rfl).wI rfl).wI rfl).wI rfl⟩
  · have spl : ∀ {f g : Nat → Int32} {x : Int32}, Ag (ix (s.1 30 7)) f g → Ag (ix (s.1 30 7) + 1) (up1 f (ix (s.1 30 7)) x) (up1 g (ix (s.1 30 7)) x) := fun {f g x} hA q hq => by
      by_cases u : q = ix (s.1 30 7)
      · rw [u, up1_eq, up1_eq]
      · rw [up1_ne u, up1_ne u]; exact hA q (by omega)
    have spb : ∀ {f : Nat → Int32} {x : Int32} {l u : Int}, Bd (ix (s.1 30 7)) f l u → l ≤ x.toInt ∧ x.toInt ≤ u → Bd (ix (s.1 30 7) + 1) (up1 f (ix (s.1 30 7)) x) l u := fun {f x l u} hB hx q hq => by
      by_cases v : q = ix (s.1 30 7)
      · rw [v, up1_eq]; exact hx
      · rw [up1_ne v]; exact hB q (by omega)
    unfold RRn
    simp (disch := decide) only [ix_0, ix_1, ix_2, ix_3, ix_4, ix_5, ix_6, ix_7, ix_8, ix_9, ix_10, ix_11, ix_12, ix_13, ix_14, ix_15, ix_16, ix_17, ix_18, ix_19, ix_20, ix_21, Nat.reduceAdd, wI_c, wI_ne, wL_1, lupd_ne, up1_eq, up1_ne, e8]
    exact ⟨⟨trivial, by omega, by omega⟩, spl r1, spl r2, spl r3, spl r4, spb c1 ⟨ha.1, by have := ha.2; omega⟩, spb c2 ⟨by omega, by omega⟩, spb c3 ⟨by omega, by omega⟩, spb c4 ⟨by omega, by omega⟩⟩
  · unfold BxC
    simp (disch := decide) only [ix_0, ix_1, ix_2, ix_3, ix_4, ix_5, ix_6, ix_7, ix_8, ix_9, ix_10, ix_11, ix_12, ix_13, ix_14, ix_15, ix_16, ix_17, ix_18, ix_19, ix_20, ix_21, Nat.reduceAdd, wI_c, wI_ne, wL_1, lupd_ne, up1_eq, up1_ne]
    exact ⟨⟨Int.le_refl _, Int.le_refl _, by omega, Int.le_refl _⟩, fun _ _ => trivial, fun _ _ => ⟨trivial, trivial, trivial, trivial, rfl⟩, fun q hq => ⟨up1_ne (by omega), up1_ne (by omega), up1_ne (by omega), up1_ne (by omega)⟩, fun _ _ => ⟨trivial, trivial⟩⟩
  · refine ⟨fun q hq => cFq fM 558 (by decide +kernel), fun q hq => ⟨cFq fM 562 (by decide +kernel), cFq fM 563 (by decide +kernel), cFq fM 564 (by decide +kernel), cFq fM 560 (by decide +kernel), cFL fM 561 (by decide +kernel)⟩, fun q hq => ?_, fun q hq => ⟨cFq fM 569 (by decide +kernel), cFq fM 570 (by decide +kernel), cFq fM 571 (by decide +kernel)⟩, fun q h1 h2 => ?_⟩
    · simp (disch := decide) only [ix_0, ix_1, ix_2, ix_3, ix_4, ix_5, ix_6, ix_7, ix_8, ix_9, ix_10, ix_11, ix_12, ix_13, ix_14, ix_15, ix_16, ix_17, ix_18, ix_19, ix_20, ix_21, Nat.reduceAdd, wI_c, wI_ne, wL_1, lupd_ne, up1_eq, up1_ne]
      exact ⟨up1_ne (by omega), up1_ne (by omega), up1_ne (by omega), up1_ne (by omega)⟩
    · rw [(fC.1 30 9 rfl).1] at h2
      omega
theorem ad_range4 {s t : ev_M} {a side lo hi : Int32} (h : RBk s t) (ha : Has a (s.1 30 4)) (e1 : s.1 6 1 = side) (e2 : s.1 6 2 = lo) (e3 : s.1 6 3 = hi) : AdB s t (fBook_addsRange_4 s a) (fM_addRange t a side lo hi) := by
  obtain ⟨hP, hS, hR, hO⟩ := id h
  obtain ⟨⟨n1, n2, n3⟩, r1, r2, r3, r4, c1, c2, c3, c4⟩ := id hR
  have nn := ix_toNat (s.1 30 7)
  have en : cI ((ix (s.1 30 7) : Nat) : Int) = s.1 30 7 := cI_ix n2
  have na : ¬ a = cI (-1) := fun u => by rw [u] at ha; exact absurd ha.1 (by decide)
  have e60 : (cI 60).toInt = 60 := rfl
  have i0 : (cI 0).toInt = 0 := rfl
  have i1 : (cI 1).toInt = 1 := rfl
  have i2 : (cI 2).toInt = 2 := rfl
  have i9 : (cI 999).toInt = 999 := rfl
  by_cases z1 : InR side (cI 0) (cI 2)
  rotate_left
  · refine AdB.no h ?_ ?_
    · unfold fBook_addsRange_4
      generalize fBook_addsRange_4_h71 1048576 = H
      rw [ltI_eq, ltI_eq, ltI_eq, ix_1, ix_2, ix_3, e1, outside_eq, bd1_some, ite_bI, if_pos z1]
    · unfold fM_addRange
      generalize fM_addRange_h51 1048576 = H
      rw [if_neg na, in_eq, bd1_some, ite_bI, if_neg z1]
  by_cases z2 : InR lo (cI 1) (cI 999)
  rotate_left
  · refine AdB.no h ?_ ?_
    · unfold fBook_addsRange_4
      generalize fBook_addsRange_4_h71 1048576 = H
      rw [ltI_eq, ltI_eq, ltI_eq, ix_1, ix_2, ix_3, e1, e2, outside_eq, bd1_some, ite_bI, if_neg (fun u => u z1), outside_eq, bd1_some, ite_bI, if_pos z2]
    · unfold fM_addRange
      generalize fM_addRange_h51 1048576 = H
      rw [if_neg na, in_eq, bd1_some, ite_bI, if_pos z1, in_eq, bd1_some, ite_bI, if_neg z2]
  by_cases z3 : InR hi lo (cI 999)
  rotate_left
  · refine AdB.no h ?_ ?_
    · unfold fBook_addsRange_4
      generalize fBook_addsRange_4_h71 1048576 = H
      rw [ltI_eq, ltI_eq, ltI_eq, ix_1, ix_2, ix_3, e1, e2, e3, outside_eq, bd1_some, ite_bI, if_neg (fun u => u z1), outside_eq, bd1_some, ite_bI, if_neg (fun u => u z2), outside_eq, bd1_some, ite_bI, if_pos z3]
    · unfold fM_addRange
      generalize fM_addRange_h51 1048576 = H
      rw [if_neg na, in_eq, bd1_some, ite_bI, if_pos z1, in_eq, bd1_some, ite_bI, if_pos z2, in_eq, bd1_some, ite_bI, if_neg z3]
  have kC : fBook_addsRange_4 s a = if s.1 30 7 < cI 60 then fBook_addsRange_4_h71 1048576 s a side lo hi (cI 0) else some (s, cI 0) := by
    unfold fBook_addsRange_4
    generalize fBook_addsRange_4_h71 1048576 = H
    rw [ltI_eq, ltI_eq, ltI_eq, ix_1, ix_2, ix_3, e1, e2, e3, outside_eq, bd1_some, ite_bI, if_neg (fun u => u z1), outside_eq, bd1_some, ite_bI, if_neg (fun u => u z2), outside_eq, bd1_some, ite_bI, if_neg (fun u => u z3)]
  have kM : fM_addRange t a side lo hi = if s.1 30 7 = cI 60 then some (t, cI 0) else fM_addRange_h51 1048576 t a side lo hi lo := by
    unfold fM_addRange
    generalize fM_addRange_h51 1048576 = H
    rw [if_neg na, in_eq, bd1_some, ite_bI, if_pos z1, in_eq, bd1_some, ite_bI, if_pos z2, in_eq, bd1_some, ite_bI, if_pos z3, n1]
  by_cases w : s.1 30 7 = cI 60
  · exact AdB.no h (by rw [kC, if_neg (by rw [w]; decide)]) (by rw [kM, if_pos w])
  have wl : (s.1 30 7).toInt < 60 := by rw [eq_i] at w; omega
  rw [if_pos (by rw [lt_i]; omega)] at kC
  rw [if_neg w] at kM
  have ib : inb (s.1 30 7) 60 = true := inb_iff.mpr ⟨n2, by omega⟩
  obtain ⟨y1, y2⟩ := z1
  obtain ⟨y3, y4⟩ := z2
  obtain ⟨y5, y6⟩ := z3
  have sh : ∀ q, q < ix (s.1 30 7) → _ := fun q hq => e_shares (s := s) (r := q) (side := side) (lo := lo) (hi := hi) (by omega) ⟨by omega, by omega⟩ ⟨by omega, by omega⟩ (by omega) (c2 q hq) (c3 q hq) (c4 q hq).2
  have hS1 : ∀ n q, q < ix (s.1 30 7) → ((s.1 39 q = a ∧ ∃ h : Int32, InR h lo hi ∧ onS h side ∧ InR h (s.1 41 q) (s.1 42 q) ∧ onS h (s.1 40 q)) → fBook_addsRange_4_h71 (n + 1) s a side lo hi (cI (q : Int)) = some (s, cI 0)) ∧ (¬ (s.1 39 q = a ∧ ∃ h : Int32, InR h lo hi ∧ onS h side ∧ InR h (s.1 41 q) (s.1 42 q) ∧ onS h (s.1 40 q)) → fBook_addsRange_4_h71 (n + 1) s a side lo hi (cI (q : Int)) = fBook_addsRange_4_h71 n s a side lo hi (cI ((q + 1 : Nat) : Int))) := by
    intro n q hq
    have lt : cI (q : Int) < s.1 30 7 := by rw [lt_i, k_ti (by omega)]; omega
    have qb : inb (cI (q : Int)) 60 = true := k_in (by omega) (by decide)
    have qx : ix (cI (q : Int)) = q := k_ix (by omega)
    constructor
    · rintro ⟨u1, u2⟩
      rw [fBook_addsRange_4_h71, if_pos lt, if_pos qb, qx, ix_0, if_pos (show s.1 (39 + 0) q = a from u1)]
      rcases sh q hq with ⟨o, -⟩ | ⟨-, o⟩
      · rw [o, bd1_some, if_neg (show ¬ cI 1 = 0 by decide)]
      · exact absurd u2 o
    · intro u
      rw [fBook_addsRange_4_h71, if_pos lt, if_pos qb, qx, ix_0]
      unfold fBook_addsRange_4_b109
      rw [k_s (by omega)]
      by_cases u1 : s.1 39 q = a
      · rw [if_pos (show s.1 (39 + 0) q = a from u1)]
        rcases sh q hq with ⟨-, o⟩ | ⟨o, -⟩
        · exact absurd ⟨u1, o⟩ u
        · rw [o, bd1_some, if_pos (show cI 0 = 0 from rfl)]
      · rw [if_neg (show ¬ s.1 (39 + 0) q = a from u1)]
  have hE : ∀ n, fBook_addsRange_4_h71 (n + 1) s a side lo hi (cI ((ix (s.1 30 7) : Nat) : Int)) = some (wI (wI (wI (wI (wI s 39 (ix (s.1 30 7)) a) 40 (ix (s.1 30 7)) side) 41 (ix (s.1 30 7)) lo) 30 7 (s.1 30 7 + cI 1)) 42 (ix (s.1 30 7)) hi, cI 1) := by
    intro n
    rw [fBook_addsRange_4_h71, en, if_neg (by rw [lt_i]; exact Int.lt_irrefl _)]
    simp (disch := decide) only [ltM_eq, ix_0, ix_1, ix_2, ix_3, ix_4, ix_5, ix_6, ix_7, ix_8, ix_9, ix_10, ix_11, ix_12, ix_13, ix_14, ix_15, ix_16, ix_17, ix_18, ix_19, ix_20, ix_21, Nat.reduceAdd, wI_c, wI_ne, wL_1, lupd_ne, up1_eq, up1_ne, Nat.add_zero, if_pos ib]
  obtain ⟨m1, m2⟩ := rg_lp (a := a) (side := side) (lo := lo) (hi := hi) hR ⟨by omega, by omega⟩ (by omega) (by omega) wl 1000 1048576 lo (by omega) (by omega) (Int.le_refl _) (by omega)
  rcases Classical.em (∃ q, q < ix (s.1 30 7) ∧ s.1 39 q = a ∧ ∃ h : Int32, InR h lo hi ∧ onS h side ∧ InR h (s.1 41 q) (s.1 42 q) ∧ onS h (s.1 40 q)) with P | P
  · refine AdB.no h ?_ ?_
    · rw [kC]
      obtain ⟨q, q1, q2⟩ := P
      exact gl_Z (N := ix (s.1 30 7)) (mt := fun q => s.1 39 q = a ∧ ∃ h : Int32, InR h lo hi ∧ onS h side ∧ InR h (s.1 41 q) (s.1 42 q) ∧ onS h (s.1 40 q)) (H := fun n k => fBook_addsRange_4_h71 n s a side lo hi k) hS1 (ix (s.1 30 7)) 1048576 0 (by omega) (by omega) ⟨q, Nat.zero_le _, q1, q2⟩
    · rw [kM]
      obtain ⟨q, q1, q2, x, x1, x2, x3, x4⟩ := P
      exact m1 ⟨x, x1.1, x1, x2, q, q1, q2, x3, x4⟩
  have l1 : fBook_addsRange_4 s a = _ := kC.trans (gl_E (N := ix (s.1 30 7)) (mt := fun q => s.1 39 q = a ∧ ∃ h : Int32, InR h lo hi ∧ onS h side ∧ InR h (s.1 41 q) (s.1 42 q) ∧ onS h (s.1 40 q)) (H := fun n k => fBook_addsRange_4_h71 n s a side lo hi k) hS1 hE (ix (s.1 30 7)) 1048576 0 (by omega) (by omega) (fun q _ hq u => P ⟨q, hq, u⟩))
  have l2 : fM_addRange t a side lo hi = _ := kM.trans (m2 (fun ⟨x, x0, x1, x2, q, q1, q2, x3, x4⟩ => P ⟨q, q1, q2, x, x1, x2, x3, x4⟩))
  have e7 : (s.1 30 7 + cI 1).toInt = (s.1 30 7).toInt + 1 := inc_i (by omega)
  have e8 : ix (s.1 30 7 + cI 1) = ix (s.1 30 7) + 1 := ix_inc n2 (by omega)
  have fC : fr [(30, 30, 8), (39, 42, 0)] s (wI (wI (wI (wI (wI s 39 (ix (s.1 30 7)) a) 40 (ix (s.1 30 7)) side) 41 (ix (s.1 30 7)) lo) 30 7 (s.1 30 7 + cI 1)) 42 (ix (s.1 30 7)) hi) := ((((fr.rf.wI rfl).wI rfl).wI rfl).wI rfl).wI rfl
  have fM : fr [(549, 549, 34), (565, 568, 0)] t (wI (wI (wI (wI (wI t 565 (ix (s.1 30 7)) a) 566 (ix (s.1 30 7)) side) 567 (ix (s.1 30 7)) lo) 568 (ix (s.1 30 7)) hi) 549 33 (s.1 30 7 + cI 1)) := ((((fr.rf.wI rfl).wI rfl).wI rfl).wI rfl).wI rfl
  refine ⟨_, _, cI 1, l1, l2, Or.inr rfl, ⟨hP.keep fC fM (by decide +kernel) (by decide +kernel), hS.keep fC fM (by decide +kernel) (by decide +kernel), ?_, hO.keep fC fM (by decide +kernel) (by decide +kernel)⟩, ?_, ?_, ((((fr.rf.wI rfl).wI rfl).wI rfl).wI rfl).wI rfl, ((((fr.rf.wI rfl).wI rfl).wI rfl).wI rfl).wI rfl⟩
  · have spl : ∀ {f g : Nat → Int32} {x : Int32}, Ag (ix (s.1 30 7)) f g → Ag (ix (s.1 30 7) + 1) (up1 f (ix (s.1 30 7)) x) (up1 g (ix (s.1 30 7)) x) := fun {f g x} hA q hq => by
      by_cases u : q = ix (s.1 30 7)
      · rw [u, up1_eq, up1_eq]
      · rw [up1_ne u, up1_ne u]; exact hA q (by omega)
    have spb : ∀ {f : Nat → Int32} {x : Int32} {l u : Int}, Bd (ix (s.1 30 7)) f l u → l ≤ x.toInt ∧ x.toInt ≤ u → Bd (ix (s.1 30 7) + 1) (up1 f (ix (s.1 30 7)) x) l u := fun {f x l u} hB hx q hq => by
      by_cases v : q = ix (s.1 30 7)
      · rw [v, up1_eq]; exact hx
      · rw [up1_ne v]; exact hB q (by omega)
    unfold RRn
    simp (disch := decide) only [ix_0, ix_1, ix_2, ix_3, ix_4, ix_5, ix_6, ix_7, ix_8, ix_9, ix_10, ix_11, ix_12, ix_13, ix_14, ix_15, ix_16, ix_17, ix_18, ix_19, ix_20, ix_21, Nat.reduceAdd, wI_c, wI_ne, wL_1, lupd_ne, up1_eq, up1_ne, e8]
    exact ⟨⟨trivial, by omega, by omega⟩, spl r1, spl r2, spl r3, spl r4, spb c1 ⟨ha.1, by have := ha.2; omega⟩, spb c2 ⟨by omega, by omega⟩, spb c3 ⟨by omega, by omega⟩, spb c4 ⟨by omega, by omega⟩⟩
  · unfold BxC
    simp (disch := decide) only [ix_0, ix_1, ix_2, ix_3, ix_4, ix_5, ix_6, ix_7, ix_8, ix_9, ix_10, ix_11, ix_12, ix_13, ix_14, ix_15, ix_16, ix_17, ix_18, ix_19, ix_20, ix_21, Nat.reduceAdd, wI_c, wI_ne, wL_1, lupd_ne, up1_eq, up1_ne]
    exact ⟨⟨Int.le_refl _, Int.le_refl _, by omega, Int.le_refl _⟩, fun _ _ => trivial, fun _ _ => ⟨trivial, trivial, trivial, trivial, rfl⟩, fun q hq => ⟨up1_ne (by omega), up1_ne (by omega), up1_ne (by omega), up1_ne (by omega)⟩, fun _ _ => ⟨trivial, trivial⟩⟩
  · refine ⟨fun q hq => cFq fM 558 (by decide +kernel), fun q hq => ⟨cFq fM 562 (by decide +kernel), cFq fM 563 (by decide +kernel), cFq fM 564 (by decide +kernel), cFq fM 560 (by decide +kernel), cFL fM 561 (by decide +kernel)⟩, fun q hq => ?_, fun q hq => ⟨cFq fM 569 (by decide +kernel), cFq fM 570 (by decide +kernel), cFq fM 571 (by decide +kernel)⟩, fun q h1 h2 => ?_⟩
    · simp (disch := decide) only [ix_0, ix_1, ix_2, ix_3, ix_4, ix_5, ix_6, ix_7, ix_8, ix_9, ix_10, ix_11, ix_12, ix_13, ix_14, ix_15, ix_16, ix_17, ix_18, ix_19, ix_20, ix_21, Nat.reduceAdd, wI_c, wI_ne, wL_1, lupd_ne, up1_eq, up1_ne]
      exact ⟨up1_ne (by omega), up1_ne (by omega), up1_ne (by omega), up1_ne (by omega)⟩
    · rw [(fC.1 30 9 rfl).1] at h2
      omega
