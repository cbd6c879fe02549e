/-! ===== LEVEL 3: the relation between the class's cells and the reference's (printed by gen3/rel.py) ===== -/
/-- nothing of L (a cell and 0, or a cell, a slot and one) is in the footprint F -/
def nof (F : List (Nat × (Nat × Nat))) (L : List (Nat × Nat)) : Bool := L.all fun q => F.all fun r => !(Nat.ble r.1 q.1 && Nat.ble q.1 r.2.1 && (Nat.beq r.2.2 0 || (Nat.beq q.2 0 || Nat.beq r.2.2 q.2)))
theorem nof_in {F : List (Nat × (Nat × Nat))} {L : List (Nat × Nat)} (d : nof F L = true) {c z k : Nat} (hc : L.contains (c, z) = true) (hz : z = 0 ∨ z = k + 1) : inF F c k = false := by
  have h1 : (c, z) ∈ L := by simpa using hc
  have h2 := List.all_eq_true.mp d _ h1
  apply Classical.byContradiction
  intro h
  have h : inF F c k = true := by simpa using h
  obtain ⟨r, hr, h3⟩ := List.any_eq_true.mp h
  have h4 := List.all_eq_true.mp h2 r hr
  obtain ⟨h5, h6⟩ := (Bool.and_eq_true _ _).mp h3
  rw [h5] at h4
  have h7 : (Nat.beq r.2.2 0 || (Nat.beq z 0 || Nat.beq r.2.2 z)) = true := by
    rcases (Bool.or_eq_true _ _).mp h6 with q | q
    · rw [q]; rfl
    · rcases hz with rfl | rfl
      · simp
      · rw [q]; simp
  rw [h7] at h4
  cases h4
theorem nof_c {F : List (Nat × (Nat × Nat))} {L : List (Nat × Nat)} {s t : ev_M} (h : fr F s t) (d : nof F L = true) {c : Nat} (hc : L.contains (c, 0) = true) : t.1 c = s.1 c ∧ t.2.1 c = s.2.1 c :=
  ⟨funext fun k => (h.1 c k (nof_in d hc (Or.inl rfl))).1, funext fun k => (h.1 c k (nof_in d hc (Or.inl rfl))).2⟩
theorem nof_s {F : List (Nat × (Nat × Nat))} {L : List (Nat × Nat)} {s t : ev_M} (h : fr F s t) (d : nof F L = true) {c k : Nat} (hc : L.contains (c, k + 1) = true) : t.1 c k = s.1 c k ∧ t.2.1 c k = s.2.1 c k := h.1 c k (nof_in d hc (Or.inr rfl))
/-- a number between bounds -/
def Rg (lo : Int) (x : Int32) (hi : Int) : Prop := lo ≤ x.toInt ∧ x.toInt ≤ hi
/-- two rows agree below n -/
def Ag (n : Nat) (f g : Nat → Int32) : Prop := ∀ i, i < n → g i = f i
/-- a row's numbers below n lie between bounds -/
def Bd (n : Nat) (f : Nat → Int32) (lo hi : Int) : Prop := ∀ i, i < n → lo ≤ (f i).toInt ∧ (f i).toInt ≤ hi

def RTim  (s t : ev_M) : Prop := ((t.1 549 22) = (s.1 15 1) ∧ Rg 0 (s.1 15 1) 1000000000) ∧ Ag 8 (s.1 29) (t.1 647) ∧ Bd 8 (s.1 29) (-1000000000) 1000000000
def RTim_C : List (Nat × Nat) := [(15, 2), (29, 0)]
def RTim_M : List (Nat × Nat) := [(549, 23), (647, 0)]
theorem RTim.keep  {s t s' t' : ev_M} {F G : List (Nat × (Nat × Nat))} (h : RTim  s t) (hs : fr F s s') (ht : fr G t t') (d1 : nof F RTim_C = true) (d2 : nof G RTim_M = true) : RTim  s' t' := by
  have e0 : t'.1 549 22 = t.1 549 22 := (nof_s ht d2 (c := 549) (k := 22) rfl).1
  have e1 : s'.1 15 1 = s.1 15 1 := (nof_s hs d1 (c := 15) (k := 1) rfl).1
  have e2 : s'.1 29 = s.1 29 := (nof_c hs d1 (c := 29) rfl).1
  have e3 : t'.1 647 = t.1 647 := (nof_c ht d2 (c := 647) rfl).1
  unfold RTim at h ⊢
  simp only [e0, e1, e2, e3]
  exact h
def RMch  (s t : ev_M) : Prop := ((t.1 549 83) = (s.1 172 0) ∧ Rg 2 (s.1 172 0) 16) ∧ ((t.1 549 84) = (s.1 172 1) ∧ Rg 1 (s.1 172 1) 2000) ∧ ((t.1 549 85) = (s.1 172 2)) ∧ ((t.1 549 86) = (s.1 172 3) ∧ Rg 0 (s.1 172 3) 4000)
def RMch_C : List (Nat × Nat) := [(172, 1), (172, 2), (172, 3), (172, 4)]
def RMch_M : List (Nat × Nat) := [(549, 84), (549, 85), (549, 86), (549, 87)]
theorem RMch.keep  {s t s' t' : ev_M} {F G : List (Nat × (Nat × Nat))} (h : RMch  s t) (hs : fr F s s') (ht : fr G t t') (d1 : nof F RMch_C = true) (d2 : nof G RMch_M = true) : RMch  s' t' := by
  have e0 : t'.1 549 83 = t.1 549 83 := (nof_s ht d2 (c := 549) (k := 83) rfl).1
  have e1 : s'.1 172 0 = s.1 172 0 := (nof_s hs d1 (c := 172) (k := 0) rfl).1
  have e2 : t'.1 549 84 = t.1 549 84 := (nof_s ht d2 (c := 549) (k := 84) rfl).1
  have e3 : s'.1 172 1 = s.1 172 1 := (nof_s hs d1 (c := 172) (k := 1) rfl).1
  have e4 : t'.1 549 85 = t.1 549 85 := (nof_s ht d2 (c := 549) (k := 85) rfl).1
  have e5 : s'.1 172 2 = s.1 172 2 := (nof_s hs d1 (c := 172) (k := 2) rfl).1
  have e6 : t'.1 549 86 = t.1 549 86 := (nof_s ht d2 (c := 549) (k := 86) rfl).1
  have e7 : s'.1 172 3 = s.1 172 3 := (nof_s hs d1 (c := 172) (k := 3) rfl).1
  unfold RMch at h ⊢
  simp only [e0, e1, e2, e3, e4, e5, e6, e7]
  exact h
def RPl  (s t : ev_M) : Prop := ((t.1 549 24) = (s.1 30 2) ∧ Rg 0 (s.1 30 2) 12) ∧ Ag (ix (s.1 30 2)) (s.1 31) (t.1 558) ∧ ∀ i j, i < j → j < ix (s.1 30 2) → s.1 31 i ≠ s.1 31 j
def RPl_C : List (Nat × Nat) := [(30, 3), (31, 0)]
def RPl_M : List (Nat × Nat) := [(549, 25), (558, 0)]
theorem RPl.keep  {s t s' t' : ev_M} {F G : List (Nat × (Nat × Nat))} (h : RPl  s t) (hs : fr F s s') (ht : fr G t t') (d1 : nof F RPl_C = true) (d2 : nof G RPl_M = true) : RPl  s' t' := by
  have e0 : t'.1 549 24 = t.1 549 24 := (nof_s ht d2 (c := 549) (k := 24) rfl).1
  have e1 : s'.1 30 2 = s.1 30 2 := (nof_s hs d1 (c := 30) (k := 2) rfl).1
  have e2 : s'.1 31 = s.1 31 := (nof_c hs d1 (c := 31) rfl).1
  have e3 : t'.1 558 = t.1 558 := (nof_c ht d2 (c := 558) rfl).1
  unfold RPl at h ⊢
  simp only [e0, e1, e2, e3]
  exact h
def RSt  (s t : ev_M) : Prop := ((t.1 549 27) = (s.1 30 4) ∧ Rg 0 (s.1 30 4) 30) ∧ Ag (ix (s.1 30 4)) (s.1 33) (t.1 562) ∧ Ag (ix (s.1 30 4)) (s.1 34) (t.1 563) ∧ Ag (ix (s.1 30 4)) (s.1 35) (t.1 564) ∧ Ag (ix (s.1 30 4)) (s.1 36) (t.1 560) ∧ (∀ i, i < ix (s.1 30 4) → t.2.1 561 i = s.2.1 37 i) ∧ Bd (ix (s.1 30 4)) (s.1 33) 0 999 ∧ Bd (ix (s.1 30 4)) (s.1 34) 0 999 ∧ Bd (ix (s.1 30 4)) (s.1 35) 0 3 ∧ Bd (ix (s.1 30 4)) (s.1 36) 0 ((s.1 30 2).toInt - 1) ∧ (∀ i, i < ix (s.1 30 4) → 0 < (s.2.1 37 i).toInt ∧ (s.2.1 37 i).toInt < 205891132094649) ∧ ∀ i j, i < j → j < ix (s.1 30 4) → s.1 36 i = s.1 36 j → s.2.1 37 i ≠ s.2.1 37 j
def RSt_C : List (Nat × Nat) := [(30, 3), (30, 5), (33, 0), (34, 0), (35, 0), (36, 0), (37, 0)]
def RSt_M : List (Nat × Nat) := [(549, 28), (560, 0), (561, 0), (562, 0), (563, 0), (564, 0)]
theorem RSt.keep  {s t s' t' : ev_M} {F G : List (Nat × (Nat × Nat))} (h : RSt  s t) (hs : fr F s s') (ht : fr G t t') (d1 : nof F RSt_C = true) (d2 : nof G RSt_M = true) : RSt  s' t' := by
  have e0 : t'.1 549 27 = t.1 549 27 := (nof_s ht d2 (c := 549) (k := 27) rfl).1
  have e1 : s'.1 30 4 = s.1 30 4 := (nof_s hs d1 (c := 30) (k := 4) rfl).1
  have e2 : s'.1 33 = s.1 33 := (nof_c hs d1 (c := 33) rfl).1
  have e3 : t'.1 562 = t.1 562 := (nof_c ht d2 (c := 562) rfl).1
  have e4 : s'.1 34 = s.1 34 := (nof_c hs d1 (c := 34) rfl).1
  have e5 : t'.1 563 = t.1 563 := (nof_c ht d2 (c := 563) rfl).1
  have e6 : s'.1 35 = s.1 35 := (nof_c hs d1 (c := 35) rfl).1
  have e7 : t'.1 564 = t.1 564 := (nof_c ht d2 (c := 564) rfl).1
  have e8 : s'.1 36 = s.1 36 := (nof_c hs d1 (c := 36) rfl).1
  have e9 : t'.1 560 = t.1 560 := (nof_c ht d2 (c := 560) rfl).1
  have e10 : t'.2.1 561 = t.2.1 561 := (nof_c ht d2 (c := 561) rfl).2
  have e11 : s'.2.1 37 = s.2.1 37 := (nof_c hs d1 (c := 37) rfl).2
  have e12 : s'.1 30 2 = s.1 30 2 := (nof_s hs d1 (c := 30) (k := 2) rfl).1
  unfold RSt at h ⊢
  simp only [e0, e1, e2, e3, e4, e5, e6, e7, e8, e9, e10, e11, e12]
  exact h
def RRn  (s t : ev_M) : Prop := ((t.1 549 33) = (s.1 30 7) ∧ Rg 0 (s.1 30 7) 60) ∧ Ag (ix (s.1 30 7)) (s.1 39) (t.1 565) ∧ Ag (ix (s.1 30 7)) (s.1 40) (t.1 566) ∧ Ag (ix (s.1 30 7)) (s.1 41) (t.1 567) ∧ Ag (ix (s.1 30 7)) (s.1 42) (t.1 568) ∧ Bd (ix (s.1 30 7)) (s.1 39) 0 ((s.1 30 4).toInt - 1) ∧ Bd (ix (s.1 30 7)) (s.1 40) 0 2 ∧ Bd (ix (s.1 30 7)) (s.1 41) 1 999 ∧ Bd (ix (s.1 30 7)) (s.1 42) 1 999
def RRn_C : List (Nat × Nat) := [(30, 5), (30, 8), (39, 0), (40, 0), (41, 0), (42, 0)]
def RRn_M : List (Nat × Nat) := [(549, 34), (565, 0), (566, 0), (567, 0), (568, 0)]
theorem RRn.keep  {s t s' t' : ev_M} {F G : List (Nat × (Nat × Nat))} (h : RRn  s t) (hs : fr F s s') (ht : fr G t t') (d1 : nof F RRn_C = true) (d2 : nof G RRn_M = true) : RRn  s' t' := by
  have e0 : t'.1 549 33 = t.1 549 33 := (nof_s ht d2 (c := 549) (k := 33) rfl).1
  have e1 : s'.1 30 7 = s.1 30 7 := (nof_s hs d1 (c := 30) (k := 7) rfl).1
  have e2 : s'.1 39 = s.1 39 := (nof_c hs d1 (c := 39) rfl).1
  have e3 : t'.1 565 = t.1 565 := (nof_c ht d2 (c := 565) rfl).1
  have e4 : s'.1 40 = s.1 40 := (nof_c hs d1 (c := 40) rfl).1
  have e5 : t'.1 566 = t.1 566 := (nof_c ht d2 (c := 566) rfl).1
  have e6 : s'.1 41 = s.1 41 := (nof_c hs d1 (c := 41) rfl).1
  have e7 : t'.1 567 = t.1 567 := (nof_c ht d2 (c := 567) rfl).1
  have e8 : s'.1 42 = s.1 42 := (nof_c hs d1 (c := 42) rfl).1
  have e9 : t'.1 568 = t.1 568 := (nof_c ht d2 (c := 568) rfl).1
  have e10 : s'.1 30 4 = s.1 30 4 := (nof_s hs d1 (c := 30) (k := 4) rfl).1
  unfold RRn at h ⊢
  simp only [e0, e1, e2, e3, e4, e5, e6, e7, e8, e9, e10]
  exact h
def RPo  (s t : ev_M) : Prop := ((t.1 549 38) = (s.1 30 9) ∧ Rg 0 (s.1 30 9) 120) ∧ Ag (ix (s.1 30 9)) (s.1 44) (t.1 569) ∧ Ag (ix (s.1 30 9)) (s.1 45) (t.1 570) ∧ Bd (ix (s.1 30 9)) (s.1 44) 0 ((s.1 30 4).toInt - 1) ∧ Bd (ix (s.1 30 9)) (s.1 45) 1 999 ∧ ∀ i j, i < j → j < ix (s.1 30 9) → s.1 44 i = s.1 44 j → s.1 45 i ≠ s.1 45 j
def RPo_C : List (Nat × Nat) := [(30, 5), (30, 10), (44, 0), (45, 0)]
def RPo_M : List (Nat × Nat) := [(549, 39), (569, 0), (570, 0)]
theorem RPo.keep  {s t s' t' : ev_M} {F G : List (Nat × (Nat × Nat))} (h : RPo  s t) (hs : fr F s s') (ht : fr G t t') (d1 : nof F RPo_C = true) (d2 : nof G RPo_M = true) : RPo  s' t' := by
  have e0 : t'.1 549 38 = t.1 549 38 := (nof_s ht d2 (c := 549) (k := 38) rfl).1
  have e1 : s'.1 30 9 = s.1 30 9 := (nof_s hs d1 (c := 30) (k := 9) rfl).1
  have e2 : s'.1 44 = s.1 44 := (nof_c hs d1 (c := 44) rfl).1
  have e3 : t'.1 569 = t.1 569 := (nof_c ht d2 (c := 569) rfl).1
  have e4 : s'.1 45 = s.1 45 := (nof_c hs d1 (c := 45) rfl).1
  have e5 : t'.1 570 = t.1 570 := (nof_c ht d2 (c := 570) rfl).1
  have e6 : s'.1 30 4 = s.1 30 4 := (nof_s hs d1 (c := 30) (k := 4) rfl).1
  unfold RPo at h ⊢
  simp only [e0, e1, e2, e3, e4, e5, e6]
  exact h
def ROr  (s t : ev_M) : Prop := ((t.1 549 43) = (s.1 30 11) ∧ Rg 0 (s.1 30 11) 60) ∧ Ag (ix (s.1 30 11)) (s.1 47) (t.1 573) ∧ Ag (ix (s.1 30 11)) (s.1 48) (t.1 574) ∧ Ag (ix (s.1 30 11)) (s.1 49) (t.1 575) ∧ Ag (ix (s.1 30 11)) (s.1 50) (t.1 576) ∧ Bd (ix (s.1 30 11)) (s.1 47) 0 ((s.1 30 9).toInt - 1) ∧ Bd (ix (s.1 30 11)) (s.1 49) (-1) ((s.1 30 9).toInt - 1) ∧ Bd (ix (s.1 30 11)) (s.1 50) 0 100000
def ROr_C : List (Nat × Nat) := [(30, 10), (30, 12), (47, 0), (48, 0), (49, 0), (50, 0)]
def ROr_M : List (Nat × Nat) := [(549, 44), (573, 0), (574, 0), (575, 0), (576, 0)]
theorem ROr.keep  {s t s' t' : ev_M} {F G : List (Nat × (Nat × Nat))} (h : ROr  s t) (hs : fr F s s') (ht : fr G t t') (d1 : nof F ROr_C = true) (d2 : nof G ROr_M = true) : ROr  s' t' := by
  have e0 : t'.1 549 43 = t.1 549 43 := (nof_s ht d2 (c := 549) (k := 43) rfl).1
  have e1 : s'.1 30 11 = s.1 30 11 := (nof_s hs d1 (c := 30) (k := 11) rfl).1
  have e2 : s'.1 47 = s.1 47 := (nof_c hs d1 (c := 47) rfl).1
  have e3 : t'.1 573 = t.1 573 := (nof_c ht d2 (c := 573) rfl).1
  have e4 : s'.1 48 = s.1 48 := (nof_c hs d1 (c := 48) rfl).1
  have e5 : t'.1 574 = t.1 574 := (nof_c ht d2 (c := 574) rfl).1
  have e6 : s'.1 49 = s.1 49 := (nof_c hs d1 (c := 49) rfl).1
  have e7 : t'.1 575 = t.1 575 := (nof_c ht d2 (c := 575) rfl).1
  have e8 : s'.1 50 = s.1 50 := (nof_c hs d1 (c := 50) rfl).1
  have e9 : t'.1 576 = t.1 576 := (nof_c ht d2 (c := 576) rfl).1
  have e10 : s'.1 30 9 = s.1 30 9 := (nof_s hs d1 (c := 30) (k := 9) rfl).1
  unfold ROr at h ⊢
  simp only [e0, e1, e2, e3, e4, e5, e6, e7, e8, e9, e10]
  exact h
def RAs (g : Nat) (s t : ev_M) : Prop := Bd 120 (s.1 51) 0 (s.1 30 14).toInt ∧ Rg 0 (s.1 30 14) (1000 * g)
def RAs_C : List (Nat × Nat) := [(30, 15), (51, 0)]
def RAs_M : List (Nat × Nat) := []
theorem RAs.keep {g : Nat} {s t s' t' : ev_M} {F G : List (Nat × (Nat × Nat))} (h : RAs g s t) (hs : fr F s s') (ht : fr G t t') (d1 : nof F RAs_C = true) (d2 : nof G RAs_M = true) : RAs g s' t' := by
  have e0 : s'.1 51 = s.1 51 := (nof_c hs d1 (c := 51) rfl).1
  have e1 : s'.1 30 14 = s.1 30 14 := (nof_s hs d1 (c := 30) (k := 14) rfl).1
  unfold RAs at h ⊢
  simp only [e0, e1]
  exact h
def RLn (k : Nat) (s t : ev_M) : Prop := ((t.1 549 93) = (s.1 449 4) ∧ Rg 0 (s.1 449 4) 20) ∧ Ag (ix (s.1 449 4)) (s.1 451) (t.1 611) ∧ Ag (ix (s.1 449 4)) (s.1 452) (t.1 612) ∧ Ag (ix (s.1 449 4)) (s.1 453) (t.1 613) ∧ Ag (ix (s.1 449 4)) (s.1 454) (t.1 614) ∧ Ag (ix (s.1 449 4)) (s.1 455) (t.1 615) ∧ Ag (ix (s.1 449 4)) (s.1 456) (t.1 616) ∧ Ag (ix (s.1 449 4)) (s.1 457) (t.1 617) ∧ Bd (ix (s.1 449 4)) (s.1 451) 0 ((s.1 30 2).toInt - 1) ∧ Bd (ix (s.1 449 4)) (s.1 452) 0 ((s.1 30 2).toInt - 1) ∧ Bd (ix (s.1 449 4)) (s.1 453) 0 1439 ∧ Bd (ix (s.1 449 4)) (s.1 454) 1 3000 ∧ Bd (ix (s.1 449 4)) (s.1 455) 1 20 ∧ Bd (ix (s.1 449 4)) (s.1 456) ((s.1 15 1).toInt + 1) ((s.1 15 1).toInt + 1440 + 600 * k) ∧ Bd (ix (s.1 449 4)) (s.1 457) 0 (600 * k)
def RLn_C : List (Nat × Nat) := [(15, 2), (30, 3), (449, 5), (451, 0), (452, 0), (453, 0), (454, 0), (455, 0), (456, 0), (457, 0)]
def RLn_M : List (Nat × Nat) := [(549, 94), (611, 0), (612, 0), (613, 0), (614, 0), (615, 0), (616, 0), (617, 0)]
theorem RLn.keep {k : Nat} {s t s' t' : ev_M} {F G : List (Nat × (Nat × Nat))} (h : RLn k s t) (hs : fr F s s') (ht : fr G t t') (d1 : nof F RLn_C = true) (d2 : nof G RLn_M = true) : RLn k s' t' := by
  have e0 : t'.1 549 93 = t.1 549 93 := (nof_s ht d2 (c := 549) (k := 93) rfl).1
  have e1 : s'.1 449 4 = s.1 449 4 := (nof_s hs d1 (c := 449) (k := 4) rfl).1
  have e2 : s'.1 451 = s.1 451 := (nof_c hs d1 (c := 451) rfl).1
  have e3 : t'.1 611 = t.1 611 := (nof_c ht d2 (c := 611) rfl).1
  have e4 : s'.1 452 = s.1 452 := (nof_c hs d1 (c := 452) rfl).1
  have e5 : t'.1 612 = t.1 612 := (nof_c ht d2 (c := 612) rfl).1
  have e6 : s'.1 453 = s.1 453 := (nof_c hs d1 (c := 453) rfl).1
  have e7 : t'.1 613 = t.1 613 := (nof_c ht d2 (c := 613) rfl).1
  have e8 : s'.1 454 = s.1 454 := (nof_c hs d1 (c := 454) rfl).1
  have e9 : t'.1 614 = t.1 614 := (nof_c ht d2 (c := 614) rfl).1
  have e10 : s'.1 455 = s.1 455 := (nof_c hs d1 (c := 455) rfl).1
  have e11 : t'.1 615 = t.1 615 := (nof_c ht d2 (c := 615) rfl).1
  have e12 : s'.1 456 = s.1 456 := (nof_c hs d1 (c := 456) rfl).1
  have e13 : t'.1 616 = t.1 616 := (nof_c ht d2 (c := 616) rfl).1
  have e14 : s'.1 457 = s.1 457 := (nof_c hs d1 (c := 457) rfl).1
  have e15 : t'.1 617 = t.1 617 := (nof_c ht d2 (c := 617) rfl).1
  have e16 : s'.1 30 2 = s.1 30 2 := (nof_s hs d1 (c := 30) (k := 2) rfl).1
  have e17 : s'.1 15 1 = s.1 15 1 := (nof_s hs d1 (c := 15) (k := 1) rfl).1
  unfold RLn at h ⊢
  simp only [e0, e1, e2, e3, e4, e5, e6, e7, e8, e9, e10, e11, e12, e13, e14, e15, e16, e17]
  exact h
