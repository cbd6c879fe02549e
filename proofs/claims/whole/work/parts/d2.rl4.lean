/-! ===== LEVEL 3: the relation's further modules: rounds, bags, lockers, notices (printed by gen3/rel.py) ===== -/
/-- n rows that lie side by side -/
def rowsOf (s : ev_M) (c n r : Nat) : Nat → Int32 := if r < n then s.1 (c + r) else fun _ => 0
theorem rows_eq {s s' : ev_M} {c n : Nat} (h : ∀ r, r < n → s'.1 (c + r) = s.1 (c + r)) : rowsOf s' c n = rowsOf s c n := funext fun r => by
  unfold rowsOf
  split
  · next q => exact h r q
  · rfl
theorem rows_at {s : ev_M} {c n r : Nat} (h : r < n) : rowsOf s c n r = s.1 (c + r) := if_pos h
/-- how many of the first N are kept -/
def kept (x : Int32) (N : Nat) : Nat := if ix x < N then ix x else N
/-- how many of the first n are x -/
def cntE (f : Nat → Int32) (x : Int32) : Nat → Nat
  | 0 => 0
  | n + 1 => cntE f x n + (if f n = x then 1 else 0)

def RRo  (s t : ev_M) : Prop := ((t.1 549 87) = (s.1 138 3) ∧ Rg 0 (s.1 138 3) 12) ∧ Ag (ix (s.1 138 3)) (s.1 140) (t.1 607) ∧ Ag (ix (s.1 138 3)) (s.1 141) (t.1 608) ∧ Ag (ix (s.1 138 3)) (s.1 142) (t.1 609) ∧ Bd (ix (s.1 138 3)) (s.1 140) 0 ((s.1 30 2).toInt - 1) ∧ Bd (ix (s.1 138 3)) (s.1 141) (-2000) 2000 ∧ Bd (ix (s.1 138 3)) (s.1 142) (-2000) 2000
def RRo_C : List (Nat × Nat) := [(30, 3), (138, 4), (140, 0), (141, 0), (142, 0)]
def RRo_M : List (Nat × Nat) := [(549, 88), (607, 0), (608, 0), (609, 0)]
theorem RRo.keep  {s t s' t' : ev_M} {F G : List (Nat × (Nat × Nat))} (h : RRo  s t) (hs : fr F s s') (ht : fr G t t') (d1 : nof F RRo_C = true) (d2 : nof G RRo_M = true) : RRo  s' t' := by
  have e0 : t'.1 549 87 = t.1 549 87 := (nof_s ht d2 (c := 549) (k := 87) rfl).1
  have e1 : s'.1 138 3 = s.1 138 3 := (nof_s hs d1 (c := 138) (k := 3) rfl).1
  have e2 : s'.1 140 = s.1 140 := (nof_c hs d1 (c := 140) rfl).1
  have e3 : t'.1 607 = t.1 607 := (nof_c ht d2 (c := 607) rfl).1
  have e4 : s'.1 141 = s.1 141 := (nof_c hs d1 (c := 141) rfl).1
  have e5 : t'.1 608 = t.1 608 := (nof_c ht d2 (c := 608) rfl).1
  have e6 : s'.1 142 = s.1 142 := (nof_c hs d1 (c := 142) rfl).1
  have e7 : t'.1 609 = t.1 609 := (nof_c ht d2 (c := 609) rfl).1
  have e8 : s'.1 30 2 = s.1 30 2 := (nof_s hs d1 (c := 30) (k := 2) rfl).1
  unfold RRo at h ⊢
  simp only [e0, e1, e2, e3, e4, e5, e6, e7, e8]
  exact h
def RSp  (s t : ev_M) : Prop := (∀ r, r < ix (s.1 138 3) → (s.1 143 r).toInt = cntE (s.1 158) (cI r) (ix (s.1 30 9))) ∧ Bd (ix (s.1 138 3)) (s.1 143) 0 20 ∧ Ag (ix (s.1 30 9)) (s.1 158) (t.1 571) ∧ (∀ p, ix (s.1 30 9) ≤ p → p < 120 → s.1 158 p = cI (-1)) ∧ (∀ p, p < ix (s.1 30 9) → s.1 158 p = cI (-1) ∨ (Has (s.1 158 p) (s.1 138 3) ∧ Has (t.1 572 p) (s.1 143 (ix (s.1 158 p))) ∧ rowsOf s 146 12 (ix (s.1 158 p)) (ix (t.1 572 p)) = cI p)) ∧ (∀ r k, r < ix (s.1 138 3) → k < ix (s.1 143 r) → Has (rowsOf s 146 12 r k) (s.1 30 9) ∧ s.1 158 (ix (rowsOf s 146 12 r k)) = cI r ∧ t.1 572 (ix (rowsOf s 146 12 r k)) = cI k)
def RSp_C : List (Nat × Nat) := [(30, 10), (138, 4), (143, 0), (146, 0), (147, 0), (148, 0), (149, 0), (150, 0), (151, 0), (152, 0), (153, 0), (154, 0), (155, 0), (156, 0), (157, 0), (158, 0)]
def RSp_M : List (Nat × Nat) := [(571, 0), (572, 0)]
theorem RSp.keep  {s t s' t' : ev_M} {F G : List (Nat × (Nat × Nat))} (h : RSp  s t) (hs : fr F s s') (ht : fr G t t') (d1 : nof F RSp_C = true) (d2 : nof G RSp_M = true) : RSp  s' t' := by
  have e0 : s'.1 138 3 = s.1 138 3 := (nof_s hs d1 (c := 138) (k := 3) rfl).1
  have e1 : s'.1 143 = s.1 143 := (nof_c hs d1 (c := 143) rfl).1
  have e2 : s'.1 158 = s.1 158 := (nof_c hs d1 (c := 158) rfl).1
  have e3 : s'.1 30 9 = s.1 30 9 := (nof_s hs d1 (c := 30) (k := 9) rfl).1
  have e4 : t'.1 571 = t.1 571 := (nof_c ht d2 (c := 571) rfl).1
  have e5 : t'.1 572 = t.1 572 := (nof_c ht d2 (c := 572) rfl).1
  have e6 : rowsOf s' 146 12 = rowsOf s 146 12 := rows_eq (fun r hr => (nof_c hs d1 (c := 146 + r) (List.all_eq_true.mp (show (List.range 12).all (fun r => RSp_C.contains (146 + r, 0)) = true from by decide +kernel) r (List.mem_range.mpr hr))).1)
  unfold RSp at h ⊢
  simp only [e0, e1, e2, e3, e4, e5, e6]
  exact h
def RLk  (s t : ev_M) : Prop := ((t.1 549 107) = (s.1 125 3) ∧ Rg 0 (s.1 125 3) 8) ∧ Ag (ix (s.1 125 3)) (s.1 126) (t.1 623) ∧ Ag (ix (s.1 125 3)) (s.1 127) (t.1 624) ∧ Ag (ix (s.1 125 3)) (s.1 128) (t.1 625) ∧ Bd (ix (s.1 125 3)) (s.1 126) 0 ((s.1 30 2).toInt - 1) ∧ Bd (ix (s.1 125 3)) (s.1 127) 1 10 ∧ Bd (ix (s.1 125 3)) (s.1 128) 0 3
def RLk_C : List (Nat × Nat) := [(30, 3), (125, 4), (126, 0), (127, 0), (128, 0)]
def RLk_M : List (Nat × Nat) := [(549, 108), (623, 0), (624, 0), (625, 0)]
theorem RLk.keep  {s t s' t' : ev_M} {F G : List (Nat × (Nat × Nat))} (h : RLk  s t) (hs : fr F s s') (ht : fr G t t') (d1 : nof F RLk_C = true) (d2 : nof G RLk_M = true) : RLk  s' t' := by
  have e0 : t'.1 549 107 = t.1 549 107 := (nof_s ht d2 (c := 549) (k := 107) rfl).1
  have e1 : s'.1 125 3 = s.1 125 3 := (nof_s hs d1 (c := 125) (k := 3) rfl).1
  have e2 : s'.1 126 = s.1 126 := (nof_c hs d1 (c := 126) rfl).1
  have e3 : t'.1 623 = t.1 623 := (nof_c ht d2 (c := 623) rfl).1
  have e4 : s'.1 127 = s.1 127 := (nof_c hs d1 (c := 127) rfl).1
  have e5 : t'.1 624 = t.1 624 := (nof_c ht d2 (c := 624) rfl).1
  have e6 : s'.1 128 = s.1 128 := (nof_c hs d1 (c := 128) rfl).1
  have e7 : t'.1 625 = t.1 625 := (nof_c ht d2 (c := 625) rfl).1
  have e8 : s'.1 30 2 = s.1 30 2 := (nof_s hs d1 (c := 30) (k := 2) rfl).1
  unfold RLk at h ⊢
  simp only [e0, e1, e2, e3, e4, e5, e6, e7, e8]
  exact h
def RNo (g : Nat) (s t : ev_M) : Prop := ((t.1 549 134) = (s.1 15 7) ∧ Rg 0 (s.1 15 7) (3000 * g)) ∧ Ag (kept (s.1 15 7) 3000) (s.1 25) (t.1 644) ∧ Ag (kept (s.1 15 7) 3000) (s.1 26) (t.1 645) ∧ Ag (kept (s.1 15 7) 3000) (s.1 27) (t.1 646) ∧ (∀ e, e < kept (s.1 15 7) 3000 → Has (s.1 25 e) (s.1 100 5) ∧ s.1 24 e = s.1 106 (ix (s.1 25 e)))
def RNo_C : List (Nat × Nat) := [(15, 8), (24, 0), (25, 0), (26, 0), (27, 0), (100, 6), (106, 0)]
def RNo_M : List (Nat × Nat) := [(549, 135), (644, 0), (645, 0), (646, 0)]
theorem RNo.keep {g : Nat} {s t s' t' : ev_M} {F G : List (Nat × (Nat × Nat))} (h : RNo g s t) (hs : fr F s s') (ht : fr G t t') (d1 : nof F RNo_C = true) (d2 : nof G RNo_M = true) : RNo g s' t' := by
  have e0 : t'.1 549 134 = t.1 549 134 := (nof_s ht d2 (c := 549) (k := 134) rfl).1
  have e1 : s'.1 15 7 = s.1 15 7 := (nof_s hs d1 (c := 15) (k := 7) rfl).1
  have e2 : s'.1 25 = s.1 25 := (nof_c hs d1 (c := 25) rfl).1
  have e3 : t'.1 644 = t.1 644 := (nof_c ht d2 (c := 644) rfl).1
  have e4 : s'.1 26 = s.1 26 := (nof_c hs d1 (c := 26) rfl).1
  have e5 : t'.1 645 = t.1 645 := (nof_c ht d2 (c := 645) rfl).1
  have e6 : s'.1 27 = s.1 27 := (nof_c hs d1 (c := 27) rfl).1
  have e7 : t'.1 646 = t.1 646 := (nof_c ht d2 (c := 646) rfl).1
  have e8 : s'.1 100 5 = s.1 100 5 := (nof_s hs d1 (c := 100) (k := 5) rfl).1
  have e9 : s'.1 24 = s.1 24 := (nof_c hs d1 (c := 24) rfl).1
  have e10 : s'.1 106 = s.1 106 := (nof_c hs d1 (c := 106) rfl).1
  unfold RNo at h ⊢
  simp only [e0, e1, e2, e3, e4, e5, e6, e7, e8, e9, e10]
  exact h
