/-! ===== LEVEL 3: the relation's further modules: items (printed by gen3/rel.py) ===== -/

def RIt  (s t : ev_M) : Prop := ((t.1 549 58) = (s.1 100 5) ∧ Rg 0 (s.1 100 5) 300) ∧ Ag (ix (s.1 100 5)) (s.1 102) (t.1 583) ∧ Ag (ix (s.1 100 5)) (s.1 103) (t.1 584) ∧ Ag (ix (s.1 100 5)) (s.1 104) (t.1 585) ∧ Ag (ix (s.1 100 5)) (s.1 105) (t.1 586) ∧ Ag (ix (s.1 100 5)) (s.1 106) (t.1 587) ∧ Ag (ix (s.1 100 5)) (s.1 107) (t.1 588) ∧ Ag (ix (s.1 100 5)) (s.1 108) (t.1 589) ∧ Ag (ix (s.1 100 5)) (s.1 109) (t.1 590) ∧ Ag (ix (s.1 100 5)) (s.1 115) (t.1 601) ∧ Bd (ix (s.1 100 5)) (s.1 102) 0 8 ∧ Bd (ix (s.1 100 5)) (s.1 103) 0 3 ∧ Bd (ix (s.1 100 5)) (s.1 104) 1 30000 ∧ Bd (ix (s.1 100 5)) (s.1 105) 0 7 ∧ Bd (ix (s.1 100 5)) (s.1 106) 4 (3 + (s.1 78 3).toInt) ∧ Bd (ix (s.1 100 5)) (s.1 107) 1 99 ∧ Bd (ix (s.1 100 5)) (s.1 108) 0 100000 ∧ Bd (ix (s.1 100 5)) (s.1 109) (-1) ((s.1 30 9).toInt - 1) ∧ Bd (ix (s.1 100 5)) (s.1 115) 0 2
def RIt_C : List (Nat × Nat) := [(30, 10), (78, 4), (100, 6), (102, 0), (103, 0), (104, 0), (105, 0), (106, 0), (107, 0), (108, 0), (109, 0), (115, 0)]
def RIt_M : List (Nat × Nat) := [(549, 59), (583, 0), (584, 0), (585, 0), (586, 0), (587, 0), (588, 0), (589, 0), (590, 0), (601, 0)]
theorem RIt.keep  {s t s' t' : ev_M} {F G : List (Nat × (Nat × Nat))} (h : RIt  s t) (hs : fr F s s') (ht : fr G t t') (d1 : nof F RIt_C = true) (d2 : nof G RIt_M = true) : RIt  s' t' := by
  have e0 : t'.1 549 58 = t.1 549 58 := (nof_s ht d2 (c := 549) (k := 58) rfl).1
  have e1 : s'.1 100 5 = s.1 100 5 := (nof_s hs d1 (c := 100) (k := 5) rfl).1
  have e2 : s'.1 102 = s.1 102 := (nof_c hs d1 (c := 102) rfl).1
  have e3 : t'.1 583 = t.1 583 := (nof_c ht d2 (c := 583) rfl).1
  have e4 : s'.1 103 = s.1 103 := (nof_c hs d1 (c := 103) rfl).1
  have e5 : t'.1 584 = t.1 584 := (nof_c ht d2 (c := 584) rfl).1
  have e6 : s'.1 104 = s.1 104 := (nof_c hs d1 (c := 104) rfl).1
  have e7 : t'.1 585 = t.1 585 := (nof_c ht d2 (c := 585) rfl).1
  have e8 : s'.1 105 = s.1 105 := (nof_c hs d1 (c := 105) rfl).1
  have e9 : t'.1 586 = t.1 586 := (nof_c ht d2 (c := 586) rfl).1
  have e10 : s'.1 106 = s.1 106 := (nof_c hs d1 (c := 106) rfl).1
  have e11 : t'.1 587 = t.1 587 := (nof_c ht d2 (c := 587) rfl).1
  have e12 : s'.1 107 = s.1 107 := (nof_c hs d1 (c := 107) rfl).1
  have e13 : t'.1 588 = t.1 588 := (nof_c ht d2 (c := 588) rfl).1
  have e14 : s'.1 108 = s.1 108 := (nof_c hs d1 (c := 108) rfl).1
  have e15 : t'.1 589 = t.1 589 := (nof_c ht d2 (c := 589) rfl).1
  have e16 : s'.1 109 = s.1 109 := (nof_c hs d1 (c := 109) rfl).1
  have e17 : t'.1 590 = t.1 590 := (nof_c ht d2 (c := 590) rfl).1
  have e18 : s'.1 115 = s.1 115 := (nof_c hs d1 (c := 115) rfl).1
  have e19 : t'.1 601 = t.1 601 := (nof_c ht d2 (c := 601) rfl).1
  have e20 : s'.1 78 3 = s.1 78 3 := (nof_s hs d1 (c := 78) (k := 3) rfl).1
  have e21 : s'.1 30 9 = s.1 30 9 := (nof_s hs d1 (c := 30) (k := 9) rfl).1
  unfold RIt at h ⊢
  simp only [e0, e1, e2, e3, e4, e5, e6, e7, e8, e9, e10, e11, e12, e13, e14, e15, e16, e17, e18, e19, e20, e21]
  exact h
def RIq  (s t : ev_M) : Prop := Ag (ix (s.1 100 5)) (s.1 110) (t.1 591) ∧ Ag (ix (s.1 100 5)) (s.1 111) (t.1 593) ∧ Ag (ix (s.1 100 5)) (s.1 112) (t.1 599) ∧ Ag (ix (s.1 100 5)) (s.1 113) (t.1 600) ∧ Ag (ix (s.1 100 5)) (s.1 116) (t.1 602) ∧ Ag (ix (s.1 100 5)) (s.1 117) (t.1 597) ∧ Ag (ix (s.1 100 5)) (s.1 120) (t.1 603) ∧ Bd (ix (s.1 100 5)) (s.1 110) (-1) ((s.1 30 2).toInt - 1) ∧ Bd (ix (s.1 100 5)) (s.1 111) (-1) ((s.1 449 6).toInt - 1) ∧ Bd (ix (s.1 100 5)) (s.1 112) 0 1 ∧ Bd (ix (s.1 100 5)) (s.1 113) (-1) 9999 ∧ Bd (ix (s.1 100 5)) (s.1 116) (-1) 1000000 ∧ Bd (ix (s.1 100 5)) (s.1 117) (-1) ((s.1 125 3).toInt - 1) ∧ Bd (ix (s.1 100 5)) (s.1 120) 0 1
def RIq_C : List (Nat × Nat) := [(30, 3), (100, 6), (110, 0), (111, 0), (112, 0), (113, 0), (116, 0), (117, 0), (120, 0), (125, 4), (449, 7)]
def RIq_M : List (Nat × Nat) := [(591, 0), (593, 0), (597, 0), (599, 0), (600, 0), (602, 0), (603, 0)]
theorem RIq.keep  {s t s' t' : ev_M} {F G : List (Nat × (Nat × Nat))} (h : RIq  s t) (hs : fr F s s') (ht : fr G t t') (d1 : nof F RIq_C = true) (d2 : nof G RIq_M = true) : RIq  s' t' := by
  have e0 : s'.1 100 5 = s.1 100 5 := (nof_s hs d1 (c := 100) (k := 5) rfl).1
  have e1 : s'.1 110 = s.1 110 := (nof_c hs d1 (c := 110) rfl).1
  have e2 : t'.1 591 = t.1 591 := (nof_c ht d2 (c := 591) rfl).1
  have e3 : s'.1 111 = s.1 111 := (nof_c hs d1 (c := 111) rfl).1
  have e4 : t'.1 593 = t.1 593 := (nof_c ht d2 (c := 593) rfl).1
  have e5 : s'.1 112 = s.1 112 := (nof_c hs d1 (c := 112) rfl).1
  have e6 : t'.1 599 = t.1 599 := (nof_c ht d2 (c := 599) rfl).1
  have e7 : s'.1 113 = s.1 113 := (nof_c hs d1 (c := 113) rfl).1
  have e8 : t'.1 600 = t.1 600 := (nof_c ht d2 (c := 600) rfl).1
  have e9 : s'.1 116 = s.1 116 := (nof_c hs d1 (c := 116) rfl).1
  have e10 : t'.1 602 = t.1 602 := (nof_c ht d2 (c := 602) rfl).1
  have e11 : s'.1 117 = s.1 117 := (nof_c hs d1 (c := 117) rfl).1
  have e12 : t'.1 597 = t.1 597 := (nof_c ht d2 (c := 597) rfl).1
  have e13 : s'.1 120 = s.1 120 := (nof_c hs d1 (c := 120) rfl).1
  have e14 : t'.1 603 = t.1 603 := (nof_c ht d2 (c := 603) rfl).1
  have e15 : s'.1 30 2 = s.1 30 2 := (nof_s hs d1 (c := 30) (k := 2) rfl).1
  have e16 : s'.1 449 6 = s.1 449 6 := (nof_s hs d1 (c := 449) (k := 6) rfl).1
  have e17 : s'.1 125 3 = s.1 125 3 := (nof_s hs d1 (c := 125) (k := 3) rfl).1
  unfold RIq at h ⊢
  simp only [e0, e1, e2, e3, e4, e5, e6, e7, e8, e9, e10, e11, e12, e13, e14, e15, e16, e17]
  exact h
def RCm (g : Nat) (s t : ev_M) : Prop := ((t.1 549 23) = (s.1 100 6) ∧ Rg 0 (s.1 100 6) (3000 * g)) ∧ (∀ i, i < ix (s.1 100 5) → t.1 592 i = s.1 119 i + 1) ∧ Bd (ix (s.1 100 5)) (s.1 119) (-1) ((s.1 100 6).toInt - 1)
def RCm_C : List (Nat × Nat) := [(100, 6), (100, 7), (119, 0)]
def RCm_M : List (Nat × Nat) := [(549, 24), (592, 0)]
theorem RCm.keep {g : Nat} {s t s' t' : ev_M} {F G : List (Nat × (Nat × Nat))} (h : RCm g s t) (hs : fr F s s') (ht : fr G t t') (d1 : nof F RCm_C = true) (d2 : nof G RCm_M = true) : RCm g s' t' := by
  have e0 : t'.1 549 23 = t.1 549 23 := (nof_s ht d2 (c := 549) (k := 23) rfl).1
  have e1 : s'.1 100 6 = s.1 100 6 := (nof_s hs d1 (c := 100) (k := 6) rfl).1
  have e2 : s'.1 100 5 = s.1 100 5 := (nof_s hs d1 (c := 100) (k := 5) rfl).1
  have e3 : t'.1 592 = t.1 592 := (nof_c ht d2 (c := 592) rfl).1
  have e4 : s'.1 119 = s.1 119 := (nof_c hs d1 (c := 119) rfl).1
  unfold RCm at h ⊢
  simp only [e0, e1, e2, e3, e4]
  exact h
