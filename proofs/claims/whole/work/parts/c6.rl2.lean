/-! ===== LEVEL 3: the relation's further modules: money (printed by gen3/rel.py) ===== -/
/-- what account a holds after the first n bookings of a ledger -/
def bal (f g h : Nat → Int32) (a : Int32) : Nat → Int64
  | 0 => 0
  | n + 1 => if f n = a then (if g n = a then bal f g h a n + (h n).toInt64 else bal f g h a n) - (h n).toInt64 else (if g n = a then bal f g h a n + (h n).toInt64 else bal f g h a n)
/-- how many of the first n numbers are 0 -/
def opn (f : Nat → Int32) : Nat → Nat
  | 0 => 0
  | n + 1 => opn f n + (if f n = 0 then 1 else 0)
/-- the sum of the first n -/
def isum (f : Nat → Int64) : Nat → Int
  | 0 => 0
  | n + 1 => isum f n + (f n).toInt

def RCu  (s t : ev_M) : Prop := ((t.1 549 111) = (s.1 78 3) ∧ Rg 0 (s.1 78 3) 30) ∧ (∀ i, i < ix (s.1 78 3) → t.1 626 i = s.1 79 (i + 4)) ∧ (∀ i, i < ix (s.1 78 3) → t.1 627 i = s.1 28 (i + 4)) ∧ (∀ i, ix (s.1 78 3) ≤ i → i < 30 → s.1 28 (i + 4) = 0) ∧ (∀ i, i < ix (s.1 78 3) → 0 ≤ (s.1 79 (i + 4)).toInt ∧ (s.1 79 (i + 4)).toInt < (s.1 30 9).toInt) ∧ Bd 34 (s.1 28) 0 511
def RCu_C : List (Nat × Nat) := [(28, 0), (30, 10), (78, 4), (79, 0)]
def RCu_M : List (Nat × Nat) := [(549, 112), (626, 0), (627, 0)]
theorem RCu.keep  {s t s' t' : ev_M} {F G : List (Nat × (Nat × Nat))} (h : RCu  s t) (hs : fr F s s') (ht : fr G t t') (d1 : nof F RCu_C = true) (d2 : nof G RCu_M = true) : RCu  s' t' := by
  have e0 : t'.1 549 111 = t.1 549 111 := (nof_s ht d2 (c := 549) (k := 111) rfl).1
  have e1 : s'.1 78 3 = s.1 78 3 := (nof_s hs d1 (c := 78) (k := 3) rfl).1
  have e2 : t'.1 626 = t.1 626 := (nof_c ht d2 (c := 626) rfl).1
  have e3 : s'.1 79 = s.1 79 := (nof_c hs d1 (c := 79) rfl).1
  have e4 : t'.1 627 = t.1 627 := (nof_c ht d2 (c := 627) rfl).1
  have e5 : s'.1 28 = s.1 28 := (nof_c hs d1 (c := 28) rfl).1
  have e6 : s'.1 30 9 = s.1 30 9 := (nof_s hs d1 (c := 30) (k := 9) rfl).1
  unfold RCu at h ⊢
  simp only [e0, e1, e2, e3, e4, e5, e6]
  exact h
def RLg  (s t : ev_M) : Prop := ((t.1 549 114) = (s.1 78 6) ∧ Rg 0 (s.1 78 6) 2000) ∧ Ag (ix (s.1 78 6)) (s.1 82) (t.1 628) ∧ Ag (ix (s.1 78 6)) (s.1 83) (t.1 629) ∧ Ag (ix (s.1 78 6)) (s.1 84) (t.1 630) ∧ Ag (ix (s.1 78 6)) (s.1 85) (t.1 631) ∧ (∀ k, k < 34 → s.2.1 80 k = bal (t.1 628) (t.1 629) (t.1 630) (cI k) (ix (s.1 78 6))) ∧ (∀ k, k < 34 → -(1000000 * (ix (s.1 78 6) : Int)) ≤ (s.2.1 80 k).toInt ∧ (s.2.1 80 k).toInt ≤ 1000000 * (ix (s.1 78 6) : Int)) ∧ isum (s.2.1 80) 34 = 0 ∧ (∀ k, 4 ≤ k → k < 34 → 0 ≤ (s.2.1 80 k).toInt) ∧ (∀ k, 4 + ix (s.1 78 3) ≤ k → k < 34 → s.2.1 80 k = 0)
def RLg_C : List (Nat × Nat) := [(78, 4), (78, 7), (80, 0), (82, 0), (83, 0), (84, 0), (85, 0)]
def RLg_M : List (Nat × Nat) := [(549, 115), (628, 0), (629, 0), (630, 0), (631, 0)]
theorem RLg.keep  {s t s' t' : ev_M} {F G : List (Nat × (Nat × Nat))} (h : RLg  s t) (hs : fr F s s') (ht : fr G t t') (d1 : nof F RLg_C = true) (d2 : nof G RLg_M = true) : RLg  s' t' := by
  have e0 : t'.1 549 114 = t.1 549 114 := (nof_s ht d2 (c := 549) (k := 114) rfl).1
  have e1 : s'.1 78 6 = s.1 78 6 := (nof_s hs d1 (c := 78) (k := 6) rfl).1
  have e2 : s'.1 82 = s.1 82 := (nof_c hs d1 (c := 82) rfl).1
  have e3 : t'.1 628 = t.1 628 := (nof_c ht d2 (c := 628) rfl).1
  have e4 : s'.1 83 = s.1 83 := (nof_c hs d1 (c := 83) rfl).1
  have e5 : t'.1 629 = t.1 629 := (nof_c ht d2 (c := 629) rfl).1
  have e6 : s'.1 84 = s.1 84 := (nof_c hs d1 (c := 84) rfl).1
  have e7 : t'.1 630 = t.1 630 := (nof_c ht d2 (c := 630) rfl).1
  have e8 : s'.1 85 = s.1 85 := (nof_c hs d1 (c := 85) rfl).1
  have e9 : t'.1 631 = t.1 631 := (nof_c ht d2 (c := 631) rfl).1
  have e10 : s'.2.1 80 = s.2.1 80 := (nof_c hs d1 (c := 80) rfl).2
  have e11 : s'.1 78 3 = s.1 78 3 := (nof_s hs d1 (c := 78) (k := 3) rfl).1
  unfold RLg at h ⊢
  simp only [e0, e1, e2, e3, e4, e5, e6, e7, e8, e9, e10, e11]
  exact h
def ROm  (s t : ev_M) : Prop := ((t.1 549 119) = (s.1 78 8) ∧ Rg 0 (s.1 78 8) 60) ∧ Ag (ix (s.1 78 8)) (s.1 87) (t.1 632) ∧ Ag (ix (s.1 78 8)) (s.1 88) (t.1 633) ∧ Ag (ix (s.1 78 8)) (s.1 89) (t.1 634) ∧ Ag (ix (s.1 78 8)) (s.1 90) (t.1 635) ∧ Ag (ix (s.1 78 8)) (s.1 91) (t.1 636) ∧ (s.1 78 9).toInt = opn (s.1 87) (ix (s.1 78 8)) ∧ Bd (ix (s.1 78 8)) (s.1 87) 0 2 ∧ Bd (ix (s.1 78 8)) (s.1 88) 4 (3 + (s.1 78 3).toInt) ∧ Bd (ix (s.1 78 8)) (s.1 89) 1 99 ∧ Bd (ix (s.1 78 8)) (s.1 90) 1 100000
def ROm_C : List (Nat × Nat) := [(78, 4), (78, 9), (78, 10), (87, 0), (88, 0), (89, 0), (90, 0), (91, 0)]
def ROm_M : List (Nat × Nat) := [(549, 120), (632, 0), (633, 0), (634, 0), (635, 0), (636, 0)]
theorem ROm.keep  {s t s' t' : ev_M} {F G : List (Nat × (Nat × Nat))} (h : ROm  s t) (hs : fr F s s') (ht : fr G t t') (d1 : nof F ROm_C = true) (d2 : nof G ROm_M = true) : ROm  s' t' := by
  have e0 : t'.1 549 119 = t.1 549 119 := (nof_s ht d2 (c := 549) (k := 119) rfl).1
  have e1 : s'.1 78 8 = s.1 78 8 := (nof_s hs d1 (c := 78) (k := 8) rfl).1
  have e2 : s'.1 87 = s.1 87 := (nof_c hs d1 (c := 87) rfl).1
  have e3 : t'.1 632 = t.1 632 := (nof_c ht d2 (c := 632) rfl).1
  have e4 : s'.1 88 = s.1 88 := (nof_c hs d1 (c := 88) rfl).1
  have e5 : t'.1 633 = t.1 633 := (nof_c ht d2 (c := 633) rfl).1
  have e6 : s'.1 89 = s.1 89 := (nof_c hs d1 (c := 89) rfl).1
  have e7 : t'.1 634 = t.1 634 := (nof_c ht d2 (c := 634) rfl).1
  have e8 : s'.1 90 = s.1 90 := (nof_c hs d1 (c := 90) rfl).1
  have e9 : t'.1 635 = t.1 635 := (nof_c ht d2 (c := 635) rfl).1
  have e10 : s'.1 91 = s.1 91 := (nof_c hs d1 (c := 91) rfl).1
  have e11 : t'.1 636 = t.1 636 := (nof_c ht d2 (c := 636) rfl).1
  have e12 : s'.1 78 9 = s.1 78 9 := (nof_s hs d1 (c := 78) (k := 9) rfl).1
  have e13 : s'.1 78 3 = s.1 78 3 := (nof_s hs d1 (c := 78) (k := 3) rfl).1
  unfold ROm at h ⊢
  simp only [e0, e1, e2, e3, e4, e5, e6, e7, e8, e9, e10, e11, e12, e13]
  exact h
def RRm  (s t : ev_M) : Prop := (s.1 78 6).toInt + (s.1 78 9).toInt ≤ 2000
def RRm_C : List (Nat × Nat) := [(78, 7), (78, 10)]
def RRm_M : List (Nat × Nat) := []
theorem RRm.keep  {s t s' t' : ev_M} {F G : List (Nat × (Nat × Nat))} (h : RRm  s t) (hs : fr F s s') (ht : fr G t t') (d1 : nof F RRm_C = true) (d2 : nof G RRm_M = true) : RRm  s' t' := by
  have e0 : s'.1 78 6 = s.1 78 6 := (nof_s hs d1 (c := 78) (k := 6) rfl).1
  have e1 : s'.1 78 9 = s.1 78 9 := (nof_s hs d1 (c := 78) (k := 9) rfl).1
  unfold RRm at h ⊢
  simp only [e0, e1]
  exact h
