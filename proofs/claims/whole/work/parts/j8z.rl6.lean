/-! ===== LEVEL 3: the relation's further modules: lines and bags while the clock goes (printed by gen3/rel.py) ===== -/

def RLw (k : Nat) (s t : ev_M) : Prop := ((t.1 549 93) = (s.1 449 4) ∧ Rg 0 (s.1 449 4) 20) ∧ Ag (ix (s.1 449 4)) (s.1 451) (t.1 611) ∧ Ag (ix (s.1 449 4)) (s.1 452) (t.1 612) ∧ Ag (ix (s.1 449 4)) (s.1 453) (t.1 613) ∧ Ag (ix (s.1 449 4)) (s.1 454) (t.1 614) ∧ Ag (ix (s.1 449 4)) (s.1 455) (t.1 615) ∧ Ag (ix (s.1 449 4)) (s.1 456) (t.1 616) ∧ Ag (ix (s.1 449 4)) (s.1 457) (t.1 617) ∧ Bd (ix (s.1 449 4)) (s.1 451) 0 ((s.1 30 2).toInt - 1) ∧ Bd (ix (s.1 449 4)) (s.1 452) 0 ((s.1 30 2).toInt - 1) ∧ Bd (ix (s.1 449 4)) (s.1 453) 0 1439 ∧ Bd (ix (s.1 449 4)) (s.1 454) 1 3000 ∧ Bd (ix (s.1 449 4)) (s.1 455) 1 20 ∧ Bd (ix (s.1 449 4)) (s.1 456) (s.1 15 1).toInt ((s.1 15 1).toInt + 1440 + 600 * k) ∧ Bd (ix (s.1 449 4)) (s.1 457) 0 (600 * k)
def RLw_C : List (Nat × Nat) := [(15, 2), (30, 3), (449, 5), (451, 0), (452, 0), (453, 0), (454, 0), (455, 0), (456, 0), (457, 0)]
def RLw_M : List (Nat × Nat) := [(549, 94), (611, 0), (612, 0), (613, 0), (614, 0), (615, 0), (616, 0), (617, 0)]
theorem RLw.keep {k : Nat} {s t s' t' : ev_M} {F G : List (Nat × (Nat × Nat))} (h : RLw k s t) (hs : fr F s s') (ht : fr G t t') (d1 : nof F RLw_C = true) (d2 : nof G RLw_M = true) : RLw k s' t' := by
  have e0 : t'.1 549 93 = t.1 549 93 := (nof_s ht d2 (c := 549) (k := 93) rfl).1
  have e1 : s'.1 449 4 = s.1 449 4 := (nof_s hs d1 (c := 449) (k := 4) rfl).1
  have e2 : s'.1 451 = s.1 451 := (nof_c hs d1 (c := 451) rfl).1
  have e3 : t'.1 611 = t.1 611 := (nof_c ht d2 (c := 611) rfl).1
  have e4 : s'.1 452 = s.1 452 := (nof_c hs d1 (c := 452) rfl).1
  have e5 : t'.1 612 = t.1 612 := (nof_c ht d2 (c := 612) rfl).1
  have e6 : s'.1 453 = s.1 453 := (nof_c hs d1 (c := 453) rfl).1
  have e7 : t'.1 613 = t.1 613 := (nof_c ht d2 (c := 613) rfl).1
  have e8 : s'.1 454 = s.1 454 := (nof_c hs d1 (c := 454) rfl).1
  have e9 : t'.1 614 = t.1 614 := (nof_c ht d2 (c := 614) rfl).1
  have e10 : s'.1 455 = s.1 455 := (nof_c hs d1 (c := 455) rfl).1
  have e11 : t'.1 615 = t.1 615 := (nof_c ht d2 (c := 615) rfl).1
  have e12 : s'.1 456 = s.1 456 := (nof_c hs d1 (c := 456) rfl).1
  have e13 : t'.1 616 = t.1 616 := (nof_c ht d2 (c := 616) rfl).1
  have e14 : s'.1 457 = s.1 457 := (nof_c hs d1 (c := 457) rfl).1
  have e15 : t'.1 617 = t.1 617 := (nof_c ht d2 (c := 617) rfl).1
  have e16 : s'.1 30 2 = s.1 30 2 := (nof_s hs d1 (c := 30) (k := 2) rfl).1
  have e17 : s'.1 15 1 = s.1 15 1 := (nof_s hs d1 (c := 15) (k := 1) rfl).1
  unfold RLw at h ⊢
  simp only [e0, e1, e2, e3, e4, e5, e6, e7, e8, e9, e10, e11, e12, e13, e14, e15, e16, e17]
  exact h
def RAv  (s t : ev_M) : Prop := (∀ b, b < ix (s.1 449 6) → s.1 459 b = cI 2 → (s.1 15 1).toInt < (s.1 464 b).toInt ∧ (s.1 464 b).toInt ≤ (s.1 15 1).toInt + 3000) ∧ ∀ l, l < ix (s.1 449 4) → (cntE (s.1 463) (cI (l : Int)) (ix (s.1 449 6)) : Int) ≤ (s.1 455 l).toInt
def RAv_C : List (Nat × Nat) := [(15, 2), (449, 5), (449, 7), (455, 0), (459, 0), (463, 0), (464, 0)]
def RAv_M : List (Nat × Nat) := []
theorem RAv.keep  {s t s' t' : ev_M} {F G : List (Nat × (Nat × Nat))} (h : RAv  s t) (hs : fr F s s') (ht : fr G t t') (d1 : nof F RAv_C = true) (d2 : nof G RAv_M = true) : RAv  s' t' := by
  have e0 : s'.1 449 6 = s.1 449 6 := (nof_s hs d1 (c := 449) (k := 6) rfl).1
  have e1 : s'.1 459 = s.1 459 := (nof_c hs d1 (c := 459) rfl).1
  have e2 : s'.1 15 1 = s.1 15 1 := (nof_s hs d1 (c := 15) (k := 1) rfl).1
  have e3 : s'.1 464 = s.1 464 := (nof_c hs d1 (c := 464) rfl).1
  have e4 : s'.1 449 4 = s.1 449 4 := (nof_s hs d1 (c := 449) (k := 4) rfl).1
  have e5 : s'.1 463 = s.1 463 := (nof_c hs d1 (c := 463) rfl).1
  have e6 : s'.1 455 = s.1 455 := (nof_c hs d1 (c := 455) rfl).1
  unfold RAv at h ⊢
  simp only [e0, e1, e2, e3, e4, e5, e6]
  exact h
def RAw  (s t : ev_M) : Prop := (∀ b, b < ix (s.1 449 6) → s.1 459 b = cI 2 → (s.1 15 1).toInt ≤ (s.1 464 b).toInt ∧ (s.1 464 b).toInt ≤ (s.1 15 1).toInt + 3000) ∧ ∀ l, l < ix (s.1 449 4) → (cntE (s.1 463) (cI (l : Int)) (ix (s.1 449 6)) : Int) ≤ (s.1 455 l).toInt
def RAw_C : List (Nat × Nat) := [(15, 2), (449, 5), (449, 7), (455, 0), (459, 0), (463, 0), (464, 0)]
def RAw_M : List (Nat × Nat) := []
theorem RAw.keep  {s t s' t' : ev_M} {F G : List (Nat × (Nat × Nat))} (h : RAw  s t) (hs : fr F s s') (ht : fr G t t') (d1 : nof F RAw_C = true) (d2 : nof G RAw_M = true) : RAw  s' t' := by
  have e0 : s'.1 449 6 = s.1 449 6 := (nof_s hs d1 (c := 449) (k := 6) rfl).1
  have e1 : s'.1 459 = s.1 459 := (nof_c hs d1 (c := 459) rfl).1
  have e2 : s'.1 15 1 = s.1 15 1 := (nof_s hs d1 (c := 15) (k := 1) rfl).1
  have e3 : s'.1 464 = s.1 464 := (nof_c hs d1 (c := 464) rfl).1
  have e4 : s'.1 449 4 = s.1 449 4 := (nof_s hs d1 (c := 449) (k := 4) rfl).1
  have e5 : s'.1 463 = s.1 463 := (nof_c hs d1 (c := 463) rfl).1
  have e6 : s'.1 455 = s.1 455 := (nof_c hs d1 (c := 455) rfl).1
  unfold RAw at h ⊢
  simp only [e0, e1, e2, e3, e4, e5, e6]
  exact h
