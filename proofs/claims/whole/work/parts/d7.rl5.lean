/-! ===== LEVEL 3: the relation's further modules: events, contents of rows, bags, boxes (printed by gen3/rel.py) ===== -/
/-- a chain from a on by way of nx -/
def Chn (nx : Nat → Int32) : Int32 → List Nat → Prop
  | a, [] => a = cI (-1)
  | a, e :: l => a = cI (e : Int) ∧ Chn nx (nx e) l
/-- the last of a list, -1 of none -/
def lstI (l : List Nat) : Int32 := match l.getLast? with
  | none => cI (-1)
  | some e => cI (e : Int)
/-- one event before another -/
def evL (f : Nat → Int32) (a b : Nat) : Prop := (f a).toInt < (f b).toInt ∨ ((f a).toInt = (f b).toInt ∧ a < b)
/-- a row's first n are a list -/
def Hol (f : Nat → Int32) (n : Int32) (l : List Nat) : Prop := n.toInt = (l.length : Int) ∧ ∀ k (h : k < l.length), f k = cI ((l[k] : Nat) : Int)
/-- the bits of up to three clerks -/
def msk (n : Nat) (a b c : Int32) : Int32 := ((if 0 < n then cI 1 <<< (a &&& 31) else 0) ||| (if 1 < n then cI 1 <<< (b &&& 31) else 0)) ||| (if 2 < n then cI 1 <<< (c &&& 31) else 0)

def REv (n : Nat) (s t : ev_M) : Prop := ((t.1 549 129) = (s.1 15 2) ∧ Rg 0 (s.1 15 2) n) ∧ Ag (kept (s.1 15 2) 5000) (s.1 17) (t.1 641) ∧ Ag (kept (s.1 15 2) 5000) (s.1 18) (t.1 642) ∧ Ag (kept (s.1 15 2) 5000) (s.1 19) (t.1 643) ∧ (∀ i, i < 300 → ∃ l, Chn (s.1 22) (s.1 20 i) l ∧ s.1 21 i = lstI l ∧ l.Pairwise (evL (s.1 19)) ∧ l.length ≤ kept (s.1 15 2) 5000 ∧ ∀ e, e ∈ l ↔ e < kept (s.1 15 2) 5000 ∧ t.1 640 e = cI (i : Int))
def REv_C : List (Nat × Nat) := [(15, 3), (17, 0), (18, 0), (19, 0), (20, 0), (21, 0), (22, 0)]
def REv_M : List (Nat × Nat) := [(549, 130), (640, 0), (641, 0), (642, 0), (643, 0)]
theorem REv.keep {n : Nat} {s t s' t' : ev_M} {F G : List (Nat × (Nat × Nat))} (h : REv n s t) (hs : fr F s s') (ht : fr G t t') (d1 : nof F REv_C = true) (d2 : nof G REv_M = true) : REv n s' t' := by
  have e0 : t'.1 549 129 = t.1 549 129 := (nof_s ht d2 (c := 549) (k := 129) rfl).1
  have e1 : s'.1 15 2 = s.1 15 2 := (nof_s hs d1 (c := 15) (k := 2) rfl).1
  have e2 : s'.1 17 = s.1 17 := (nof_c hs d1 (c := 17) rfl).1
  have e3 : t'.1 641 = t.1 641 := (nof_c ht d2 (c := 641) rfl).1
  have e4 : s'.1 18 = s.1 18 := (nof_c hs d1 (c := 18) rfl).1
  have e5 : t'.1 642 = t.1 642 := (nof_c ht d2 (c := 642) rfl).1
  have e6 : s'.1 19 = s.1 19 := (nof_c hs d1 (c := 19) rfl).1
  have e7 : t'.1 643 = t.1 643 := (nof_c ht d2 (c := 643) rfl).1
  have e8 : s'.1 22 = s.1 22 := (nof_c hs d1 (c := 22) rfl).1
  have e9 : s'.1 20 = s.1 20 := (nof_c hs d1 (c := 20) rfl).1
  have e10 : s'.1 21 = s.1 21 := (nof_c hs d1 (c := 21) rfl).1
  have e11 : t'.1 640 = t.1 640 := (nof_c ht d2 (c := 640) rfl).1
  unfold REv at h ⊢
  simp only [e0, e1, e2, e3, e4, e5, e6, e7, e8, e9, e10, e11]
  exact h
def RNt (n : Nat) (s t : ev_M) : Prop := ((t.1 549 134) = (s.1 15 7) ∧ Rg 0 (s.1 15 7) n) ∧ Ag (kept (s.1 15 7) 3000) (s.1 25) (t.1 644) ∧ Ag (kept (s.1 15 7) 3000) (s.1 26) (t.1 645) ∧ Ag (kept (s.1 15 7) 3000) (s.1 27) (t.1 646) ∧ (∀ e, e < kept (s.1 15 7) 3000 → Has (s.1 25 e) (s.1 100 5) ∧ s.1 24 e = s.1 106 (ix (s.1 25 e)))
def RNt_C : List (Nat × Nat) := [(15, 8), (24, 0), (25, 0), (26, 0), (27, 0), (100, 6), (106, 0)]
def RNt_M : List (Nat × Nat) := [(549, 135), (644, 0), (645, 0), (646, 0)]
theorem RNt.keep {n : Nat} {s t s' t' : ev_M} {F G : List (Nat × (Nat × Nat))} (h : RNt n s t) (hs : fr F s s') (ht : fr G t t') (d1 : nof F RNt_C = true) (d2 : nof G RNt_M = true) : RNt n s' t' := by
  have e0 : t'.1 549 134 = t.1 549 134 := (nof_s ht d2 (c := 549) (k := 134) rfl).1
  have e1 : s'.1 15 7 = s.1 15 7 := (nof_s hs d1 (c := 15) (k := 7) rfl).1
  have e2 : s'.1 25 = s.1 25 := (nof_c hs d1 (c := 25) rfl).1
  have e3 : t'.1 644 = t.1 644 := (nof_c ht d2 (c := 644) rfl).1
  have e4 : s'.1 26 = s.1 26 := (nof_c hs d1 (c := 26) rfl).1
  have e5 : t'.1 645 = t.1 645 := (nof_c ht d2 (c := 645) rfl).1
  have e6 : s'.1 27 = s.1 27 := (nof_c hs d1 (c := 27) rfl).1
  have e7 : t'.1 646 = t.1 646 := (nof_c ht d2 (c := 646) rfl).1
  have e8 : s'.1 100 5 = s.1 100 5 := (nof_s hs d1 (c := 100) (k := 5) rfl).1
  have e9 : s'.1 24 = s.1 24 := (nof_c hs d1 (c := 24) rfl).1
  have e10 : s'.1 106 = s.1 106 := (nof_c hs d1 (c := 106) rfl).1
  unfold RNt at h ⊢
  simp only [e0, e1, e2, e3, e4, e5, e6, e7, e8, e9, e10]
  exact h
def RCo (n : Nat) (s t : ev_M) : Prop := (Rg 0 (t.1 549 23) n ∧ Rg 0 (s.1 100 6) n) ∧ Bd (ix (s.1 100 5)) (s.1 119) (-1) ((s.1 100 6).toInt - 1) ∧ Bd (ix (s.1 100 5)) (t.1 592) 0 (t.1 549 23).toInt ∧ (∀ i, i < ix (s.1 100 5) → (s.1 119 i = cI (-1) ↔ t.1 592 i = 0)) ∧ (∀ i j, i < ix (s.1 100 5) → j < ix (s.1 100 5) → ((s.1 119 i).toInt < (s.1 119 j).toInt ↔ (t.1 592 i).toInt < (t.1 592 j).toInt)) ∧ (∀ i, i < ix (s.1 100 5) → t.1 593 i ≠ cI (-1) → (t.1 594 i).toInt ≤ (t.1 549 23).toInt) ∧ (∀ i, i < ix (s.1 100 5) → t.1 595 i ≠ cI (-1) → (t.1 596 i).toInt ≤ (t.1 549 23).toInt)
def RCo_C : List (Nat × Nat) := [(100, 6), (100, 7), (119, 0)]
def RCo_M : List (Nat × Nat) := [(549, 24), (592, 0), (593, 0), (594, 0), (595, 0), (596, 0)]
theorem RCo.keep {n : Nat} {s t s' t' : ev_M} {F G : List (Nat × (Nat × Nat))} (h : RCo n s t) (hs : fr F s s') (ht : fr G t t') (d1 : nof F RCo_C = true) (d2 : nof G RCo_M = true) : RCo n s' t' := by
  have e0 : t'.1 549 23 = t.1 549 23 := (nof_s ht d2 (c := 549) (k := 23) rfl).1
  have e1 : s'.1 100 6 = s.1 100 6 := (nof_s hs d1 (c := 100) (k := 6) rfl).1
  have e2 : s'.1 100 5 = s.1 100 5 := (nof_s hs d1 (c := 100) (k := 5) rfl).1
  have e3 : s'.1 119 = s.1 119 := (nof_c hs d1 (c := 119) rfl).1
  have e4 : t'.1 592 = t.1 592 := (nof_c ht d2 (c := 592) rfl).1
  have e5 : t'.1 593 = t.1 593 := (nof_c ht d2 (c := 593) rfl).1
  have e6 : t'.1 594 = t.1 594 := (nof_c ht d2 (c := 594) rfl).1
  have e7 : t'.1 595 = t.1 595 := (nof_c ht d2 (c := 595) rfl).1
  have e8 : t'.1 596 = t.1 596 := (nof_c ht d2 (c := 596) rfl).1
  unfold RCo at h ⊢
  simp only [e0, e1, e2, e3, e4, e5, e6, e7, e8]
  exact h
def RSx  (s t : ev_M) : Prop := ∀ i, i < ix (s.1 100 5) → (s.1 102 i ≠ cI 2 → t.1 593 i = cI (-1)) ∧ (s.1 102 i ≠ cI 3 → t.1 595 i = cI (-1)) ∧ (s.1 102 i ≠ cI 6 → t.1 602 i = cI (-1) ∧ t.1 597 i = cI (-1)) ∧ (s.1 102 i = cI 3 ∨ s.1 102 i = cI 4 ∨ s.1 102 i = cI 6 ∨ s.1 112 i = cI 1 → s.1 109 i ≠ cI (-1)) ∧ (s.1 102 i = cI 2 → t.1 593 i ≠ cI (-1)) ∧ (s.1 102 i = cI 3 → t.1 595 i ≠ cI (-1))
def RSx_C : List (Nat × Nat) := [(100, 6), (102, 0), (109, 0), (112, 0)]
def RSx_M : List (Nat × Nat) := [(593, 0), (595, 0), (597, 0), (602, 0)]
theorem RSx.keep  {s t s' t' : ev_M} {F G : List (Nat × (Nat × Nat))} (h : RSx  s t) (hs : fr F s s') (ht : fr G t t') (d1 : nof F RSx_C = true) (d2 : nof G RSx_M = true) : RSx  s' t' := by
  have e0 : s'.1 100 5 = s.1 100 5 := (nof_s hs d1 (c := 100) (k := 5) rfl).1
  have e1 : s'.1 102 = s.1 102 := (nof_c hs d1 (c := 102) rfl).1
  have e2 : t'.1 593 = t.1 593 := (nof_c ht d2 (c := 593) rfl).1
  have e3 : t'.1 595 = t.1 595 := (nof_c ht d2 (c := 595) rfl).1
  have e4 : t'.1 602 = t.1 602 := (nof_c ht d2 (c := 602) rfl).1
  have e5 : t'.1 597 = t.1 597 := (nof_c ht d2 (c := 597) rfl).1
  have e6 : s'.1 112 = s.1 112 := (nof_c hs d1 (c := 112) rfl).1
  have e7 : s'.1 109 = s.1 109 := (nof_c hs d1 (c := 109) rfl).1
  unfold RSx at h ⊢
  simp only [e0, e1, e2, e3, e4, e5, e6, e7]
  exact h
def RRw  (s t : ev_M) : Prop := Bd (ix (s.1 100 5)) (t.1 595) (-1) ((s.1 138 3).toInt - 1) ∧ (∀ r, r < ix (s.1 138 3) → ∃ l, Hol (rowsOf s 160 12 r) (s.1 144 r) l ∧ l.Pairwise (fun a b => (t.1 596 a).toInt < (t.1 596 b).toInt) ∧ ∀ i, i ∈ l ↔ i < ix (s.1 100 5) ∧ t.1 595 i = cI (r : Int))
def RRw_C : List (Nat × Nat) := [(100, 6), (138, 4), (144, 0), (160, 0), (161, 0), (162, 0), (163, 0), (164, 0), (165, 0), (166, 0), (167, 0), (168, 0), (169, 0), (170, 0), (171, 0)]
def RRw_M : List (Nat × Nat) := [(595, 0), (596, 0)]
theorem RRw.keep  {s t s' t' : ev_M} {F G : List (Nat × (Nat × Nat))} (h : RRw  s t) (hs : fr F s s') (ht : fr G t t') (d1 : nof F RRw_C = true) (d2 : nof G RRw_M = true) : RRw  s' t' := by
  have e0 : s'.1 100 5 = s.1 100 5 := (nof_s hs d1 (c := 100) (k := 5) rfl).1
  have e1 : t'.1 595 = t.1 595 := (nof_c ht d2 (c := 595) rfl).1
  have e2 : s'.1 138 3 = s.1 138 3 := (nof_s hs d1 (c := 138) (k := 3) rfl).1
  have e3 : s'.1 144 = s.1 144 := (nof_c hs d1 (c := 144) rfl).1
  have e4 : t'.1 596 = t.1 596 := (nof_c ht d2 (c := 596) rfl).1
  have e5 : rowsOf s' 160 12 = rowsOf s 160 12 := rows_eq (fun r hr => (nof_c hs d1 (c := 160 + r) (List.all_eq_true.mp (show (List.range 12).all (fun r => RRw_C.contains (160 + r, 0)) = true from by decide +kernel) r (List.mem_range.mpr hr))).1)
  unfold RRw at h ⊢
  simp only [e0, e1, e2, e3, e4, e5]
  exact h
def RBg  (s t : ev_M) : Prop := ((t.1 549 101) = (s.1 449 6) ∧ Rg 0 (s.1 449 6) 80) ∧ Ag (ix (s.1 449 6)) (s.1 459) (t.1 618) ∧ Ag (ix (s.1 449 6)) (s.1 461) (t.1 620) ∧ Ag (ix (s.1 449 6)) (s.1 463) (t.1 621) ∧ Ag (ix (s.1 449 6)) (s.1 464) (t.1 622) ∧ (∀ b, b < ix (s.1 449 6) → (s.1 459 b ≠ cI 2 → t.1 619 b = s.1 460 b ∧ s.1 463 b = cI (-1) ∧ s.1 464 b = cI (-1) ∧ 0 ≤ (s.1 460 b).toInt) ∧ (s.1 459 b = cI 2 → s.1 460 b = cI (-1) ∧ Has (s.1 463 b) (s.1 449 4))) ∧ Bd (ix (s.1 449 6)) (s.1 459) 0 3 ∧ Bd (ix (s.1 449 6)) (s.1 460) (-1) ((s.1 30 2).toInt - 1) ∧ Bd (ix (s.1 449 6)) (s.1 461) 0 ((s.1 30 2).toInt - 1) ∧ Bd (ix (s.1 449 6)) (s.1 463) (-1) ((s.1 449 4).toInt - 1)
def RBg_C : List (Nat × Nat) := [(30, 3), (449, 5), (449, 7), (459, 0), (460, 0), (461, 0), (463, 0), (464, 0)]
def RBg_M : List (Nat × Nat) := [(549, 102), (618, 0), (619, 0), (620, 0), (621, 0), (622, 0)]
theorem RBg.keep  {s t s' t' : ev_M} {F G : List (Nat × (Nat × Nat))} (h : RBg  s t) (hs : fr F s s') (ht : fr G t t') (d1 : nof F RBg_C = true) (d2 : nof G RBg_M = true) : RBg  s' t' := by
  have e0 : t'.1 549 101 = t.1 549 101 := (nof_s ht d2 (c := 549) (k := 101) rfl).1
  have e1 : s'.1 449 6 = s.1 449 6 := (nof_s hs d1 (c := 449) (k := 6) rfl).1
  have e2 : s'.1 459 = s.1 459 := (nof_c hs d1 (c := 459) rfl).1
  have e3 : t'.1 618 = t.1 618 := (nof_c ht d2 (c := 618) rfl).1
  have e4 : s'.1 461 = s.1 461 := (nof_c hs d1 (c := 461) rfl).1
  have e5 : t'.1 620 = t.1 620 := (nof_c ht d2 (c := 620) rfl).1
  have e6 : s'.1 463 = s.1 463 := (nof_c hs d1 (c := 463) rfl).1
  have e7 : t'.1 621 = t.1 621 := (nof_c ht d2 (c := 621) rfl).1
  have e8 : s'.1 464 = s.1 464 := (nof_c hs d1 (c := 464) rfl).1
  have e9 : t'.1 622 = t.1 622 := (nof_c ht d2 (c := 622) rfl).1
  have e10 : t'.1 619 = t.1 619 := (nof_c ht d2 (c := 619) rfl).1
  have e11 : s'.1 460 = s.1 460 := (nof_c hs d1 (c := 460) rfl).1
  have e12 : s'.1 449 4 = s.1 449 4 := (nof_s hs d1 (c := 449) (k := 4) rfl).1
  have e13 : s'.1 30 2 = s.1 30 2 := (nof_s hs d1 (c := 30) (k := 2) rfl).1
  unfold RBg at h ⊢
  simp only [e0, e1, e2, e3, e4, e5, e6, e7, e8, e9, e10, e11, e12, e13]
  exact h
def RBc  (s t : ev_M) : Prop := Bd (ix (s.1 100 5)) (t.1 593) (-1) ((s.1 449 6).toInt - 1) ∧ (∀ r, r < ix (s.1 449 6) → ∃ l, Hol (rowsOf s 466 80 r) (s.1 462 r) l ∧ l.length ≤ 40 ∧ l.Pairwise (fun a b => (t.1 594 a).toInt < (t.1 594 b).toInt) ∧ ∀ i, i ∈ l ↔ i < ix (s.1 100 5) ∧ t.1 593 i = cI (r : Int))
def RBc_C : List (Nat × Nat) := [(100, 6), (449, 7), (462, 0), (466, 0), (467, 0), (468, 0), (469, 0), (470, 0), (471, 0), (472, 0), (473, 0), (474, 0), (475, 0), (476, 0), (477, 0), (478, 0), (479, 0), (480, 0), (481, 0), (482, 0), (483, 0), (484, 0), (485, 0), (486, 0), (487, 0), (488, 0), (489, 0), (490, 0), (491, 0), (492, 0), (493, 0), (494, 0), (495, 0), (496, 0), (497, 0), (498, 0), (499, 0), (500, 0), (501, 0), (502, 0), (503, 0), (504, 0), (505, 0), (506, 0), (507, 0), (508, 0), (509, 0), (510, 0), (511, 0), (512, 0), (513, 0), (514, 0), (515, 0), (516, 0), (517, 0), (518, 0), (519, 0), (520, 0), (521, 0), (522, 0), (523, 0), (524, 0), (525, 0), (526, 0), (527, 0), (528, 0), (529, 0), (530, 0), (531, 0), (532, 0), (533, 0), (534, 0), (535, 0), (536, 0), (537, 0), (538, 0), (539, 0), (540, 0), (541, 0), (542, 0), (543, 0), (544, 0), (545, 0)]
def RBc_M : List (Nat × Nat) := [(593, 0), (594, 0)]
theorem RBc.keep  {s t s' t' : ev_M} {F G : List (Nat × (Nat × Nat))} (h : RBc  s t) (hs : fr F s s') (ht : fr G t t') (d1 : nof F RBc_C = true) (d2 : nof G RBc_M = true) : RBc  s' t' := by
  have e0 : s'.1 100 5 = s.1 100 5 := (nof_s hs d1 (c := 100) (k := 5) rfl).1
  have e1 : t'.1 593 = t.1 593 := (nof_c ht d2 (c := 593) rfl).1
  have e2 : s'.1 449 6 = s.1 449 6 := (nof_s hs d1 (c := 449) (k := 6) rfl).1
  have e3 : s'.1 462 = s.1 462 := (nof_c hs d1 (c := 462) rfl).1
  have e4 : t'.1 594 = t.1 594 := (nof_c ht d2 (c := 594) rfl).1
  have e5 : rowsOf s' 466 80 = rowsOf s 466 80 := rows_eq (fun r hr => (nof_c hs d1 (c := 466 + r) (List.all_eq_true.mp (show (List.range 80).all (fun r => RBc_C.contains (466 + r, 0)) = true from by decide +kernel) r (List.mem_range.mpr hr))).1)
  unfold RBc at h ⊢
  simp only [e0, e1, e2, e3, e4, e5]
  exact h
def RBx  (s t : ev_M) : Prop := (∀ l b, l < ix (s.1 125 3) → b < ix (s.1 127 l) → rowsOf s 130 8 l b = cI (-1) ∨ Has (rowsOf s 130 8 l b) (s.1 100 5)) ∧ (∀ i, i < ix (s.1 100 5) → (t.1 597 i = cI (-1) ∧ t.1 598 i = cI (-1)) ∨ (Has (t.1 597 i) (s.1 125 3) ∧ Has (t.1 598 i) (s.1 127 (ix (t.1 597 i))))) ∧ (∀ i l b, i < ix (s.1 100 5) → l < ix (s.1 125 3) → b < ix (s.1 127 l) → (rowsOf s 130 8 l b = cI (i : Int) ↔ t.1 597 i = cI (l : Int) ∧ t.1 598 i = cI (b : Int)))
def RBx_C : List (Nat × Nat) := [(100, 6), (125, 4), (127, 0), (130, 0), (131, 0), (132, 0), (133, 0), (134, 0), (135, 0), (136, 0), (137, 0)]
def RBx_M : List (Nat × Nat) := [(597, 0), (598, 0)]
theorem RBx.keep  {s t s' t' : ev_M} {F G : List (Nat × (Nat × Nat))} (h : RBx  s t) (hs : fr F s s') (ht : fr G t t') (d1 : nof F RBx_C = true) (d2 : nof G RBx_M = true) : RBx  s' t' := by
  have e0 : s'.1 125 3 = s.1 125 3 := (nof_s hs d1 (c := 125) (k := 3) rfl).1
  have e1 : s'.1 127 = s.1 127 := (nof_c hs d1 (c := 127) rfl).1
  have e2 : s'.1 100 5 = s.1 100 5 := (nof_s hs d1 (c := 100) (k := 5) rfl).1
  have e3 : t'.1 597 = t.1 597 := (nof_c ht d2 (c := 597) rfl).1
  have e4 : t'.1 598 = t.1 598 := (nof_c ht d2 (c := 598) rfl).1
  have e5 : rowsOf s' 130 8 = rowsOf s 130 8 := rows_eq (fun r hr => (nof_c hs d1 (c := 130 + r) (List.all_eq_true.mp (show (List.range 8).all (fun r => RBx_C.contains (130 + r, 0)) = true from by decide +kernel) r (List.mem_range.mpr hr))).1)
  unfold RBx at h ⊢
  simp only [e0, e1, e2, e3, e4, e5]
  exact h
def RSg  (s t : ev_M) : Prop := (t.1 549 48) = (s.1 52 2) ∧ ((s.1 52 2) = 0 ∨ ((t.1 549 50) = (s.1 52 3) ∧ Rg (-1) (s.1 52 3) ((s.1 30 9).toInt - 1)))
def RSg_C : List (Nat × Nat) := [(30, 10), (52, 3), (52, 4)]
def RSg_M : List (Nat × Nat) := [(549, 49), (549, 51)]
theorem RSg.keep  {s t s' t' : ev_M} {F G : List (Nat × (Nat × Nat))} (h : RSg  s t) (hs : fr F s s') (ht : fr G t t') (d1 : nof F RSg_C = true) (d2 : nof G RSg_M = true) : RSg  s' t' := by
  have e0 : t'.1 549 48 = t.1 549 48 := (nof_s ht d2 (c := 549) (k := 48) rfl).1
  have e1 : s'.1 52 2 = s.1 52 2 := (nof_s hs d1 (c := 52) (k := 2) rfl).1
  have e2 : t'.1 549 50 = t.1 549 50 := (nof_s ht d2 (c := 549) (k := 50) rfl).1
  have e3 : s'.1 52 3 = s.1 52 3 := (nof_s hs d1 (c := 52) (k := 3) rfl).1
  have e4 : s'.1 30 9 = s.1 30 9 := (nof_s hs d1 (c := 30) (k := 9) rfl).1
  unfold RSg at h ⊢
  simp only [e0, e1, e2, e3, e4]
  exact h
def RCk  (s t : ev_M) : Prop := ∀ i, i < ix (s.1 100 5) → Rg 0 (t.1 604 i) 3 ∧ (s.1 115 i = cI 1 → (t.1 604 i).toInt ≤ 2) ∧ (s.1 115 i = 0 → s.1 109 i = cI (-1) → t.1 604 i = 0) ∧ (∀ k, k < ix (t.1 604 i) → 0 ≤ (t.1 605 (3 * i + k)).toInt ∧ (t.1 605 (3 * i + k)).toInt ≤ 9) ∧ (1 < ix (t.1 604 i) → t.1 605 (3 * i) ≠ t.1 605 (3 * i + 1)) ∧ (2 < ix (t.1 604 i) → t.1 605 (3 * i) ≠ t.1 605 (3 * i + 2) ∧ t.1 605 (3 * i + 1) ≠ t.1 605 (3 * i + 2)) ∧ s.1 121 i = msk (ix (t.1 604 i)) (t.1 605 (3 * i)) (t.1 605 (3 * i + 1)) (t.1 605 (3 * i + 2)) ∧ (s.1 115 i = cI 1 → (0 < ix (t.1 604 i) → s.1 122 i = t.1 606 (3 * i)) ∧ (1 < ix (t.1 604 i) → s.1 123 i = t.1 606 (3 * i + 1)))
def RCk_C : List (Nat × Nat) := [(100, 6), (109, 0), (115, 0), (121, 0), (122, 0), (123, 0)]
def RCk_M : List (Nat × Nat) := [(604, 0), (605, 0), (606, 0)]
theorem RCk.keep  {s t s' t' : ev_M} {F G : List (Nat × (Nat × Nat))} (h : RCk  s t) (hs : fr F s s') (ht : fr G t t') (d1 : nof F RCk_C = true) (d2 : nof G RCk_M = true) : RCk  s' t' := by
  have e0 : s'.1 100 5 = s.1 100 5 := (nof_s hs d1 (c := 100) (k := 5) rfl).1
  have e1 : t'.1 604 = t.1 604 := (nof_c ht d2 (c := 604) rfl).1
  have e2 : s'.1 115 = s.1 115 := (nof_c hs d1 (c := 115) rfl).1
  have e3 : s'.1 109 = s.1 109 := (nof_c hs d1 (c := 109) rfl).1
  have e4 : t'.1 605 = t.1 605 := (nof_c ht d2 (c := 605) rfl).1
  have e5 : s'.1 121 = s.1 121 := (nof_c hs d1 (c := 121) rfl).1
  have e6 : s'.1 122 = s.1 122 := (nof_c hs d1 (c := 122) rfl).1
  have e7 : t'.1 606 = t.1 606 := (nof_c ht d2 (c := 606) rfl).1
  have e8 : s'.1 123 = s.1 123 := (nof_c hs d1 (c := 123) rfl).1
  unfold RCk at h ⊢
  simp only [e0, e1, e2, e3, e4, e5, e6, e7, e8]
  exact h
def RIr  (s t : ev_M) : Prop := Ag (ix (s.1 100 5)) (s.1 110) (t.1 591) ∧ Ag (ix (s.1 100 5)) (s.1 111) (t.1 593) ∧ Ag (ix (s.1 100 5)) (s.1 112) (t.1 599) ∧ Ag (ix (s.1 100 5)) (s.1 113) (t.1 600) ∧ Ag (ix (s.1 100 5)) (s.1 116) (t.1 602) ∧ Ag (ix (s.1 100 5)) (s.1 117) (t.1 597) ∧ Ag (ix (s.1 100 5)) (s.1 120) (t.1 603) ∧ Bd (ix (s.1 100 5)) (s.1 110) (-1) ((s.1 30 2).toInt - 1) ∧ Bd (ix (s.1 100 5)) (s.1 111) (-1) ((s.1 449 6).toInt - 1) ∧ Bd (ix (s.1 100 5)) (s.1 112) 0 1 ∧ Bd (ix (s.1 100 5)) (s.1 113) (-1) 1000000 ∧ Bd (ix (s.1 100 5)) (s.1 116) (-1) 1000000 ∧ Bd (ix (s.1 100 5)) (s.1 117) (-1) ((s.1 125 3).toInt - 1) ∧ Bd (ix (s.1 100 5)) (s.1 120) 0 1
def RIr_C : List (Nat × Nat) := [(30, 3), (100, 6), (110, 0), (111, 0), (112, 0), (113, 0), (116, 0), (117, 0), (120, 0), (125, 4), (449, 7)]
def RIr_M : List (Nat × Nat) := [(591, 0), (593, 0), (597, 0), (599, 0), (600, 0), (602, 0), (603, 0)]
theorem RIr.keep  {s t s' t' : ev_M} {F G : List (Nat × (Nat × Nat))} (h : RIr  s t) (hs : fr F s s') (ht : fr G t t') (d1 : nof F RIr_C = true) (d2 : nof G RIr_M = true) : RIr  s' t' := by
  have e0 : s'.1 100 5 = s.1 100 5 := (nof_s hs d1 (c := 100) (k := 5) rfl).1
  have e1 : s'.1 110 = s.1 110 := (nof_c hs d1 (c := 110) rfl).1
  have e2 : t'.1 591 = t.1 591 := (nof_c ht d2 (c := 591) rfl).1
  have e3 : s'.1 111 = s.1 111 := (nof_c hs d1 (c := 111) rfl).1
  have e4 : t'.1 593 = t.1 593 := (nof_c ht d2 (c := 593) rfl).1
  have e5 : s'.1 112 = s.1 112 := (nof_c hs d1 (c := 112) rfl).1
  have e6 : t'.1 599 = t.1 599 := (nof_c ht d2 (c := 599) rfl).1
  have e7 : s'.1 113 = s.1 113 := (nof_c hs d1 (c := 113) rfl).1
  have e8 : t'.1 600 = t.1 600 := (nof_c ht d2 (c := 600) rfl).1
  have e9 : s'.1 116 = s.1 116 := (nof_c hs d1 (c := 116) rfl).1
  have e10 : t'.1 602 = t.1 602 := (nof_c ht d2 (c := 602) rfl).1
  have e11 : s'.1 117 = s.1 117 := (nof_c hs d1 (c := 117) rfl).1
  have e12 : t'.1 597 = t.1 597 := (nof_c ht d2 (c := 597) rfl).1
  have e13 : s'.1 120 = s.1 120 := (nof_c hs d1 (c := 120) rfl).1
  have e14 : t'.1 603 = t.1 603 := (nof_c ht d2 (c := 603) rfl).1
  have e15 : s'.1 30 2 = s.1 30 2 := (nof_s hs d1 (c := 30) (k := 2) rfl).1
  have e16 : s'.1 449 6 = s.1 449 6 := (nof_s hs d1 (c := 449) (k := 6) rfl).1
  have e17 : s'.1 125 3 = s.1 125 3 := (nof_s hs d1 (c := 125) (k := 3) rfl).1
  unfold RIr at h ⊢
  simp only [e0, e1, e2, e3, e4, e5, e6, e7, e8, e9, e10, e11, e12, e13, e14, e15, e16, e17]
  exact h
def RTa  (s t : ev_M) : Prop := ((t.1 549 125) = (s.1 78 11) ∧ Rg 0 (s.1 78 11) 40) ∧ (∀ i, i < ix (s.1 78 11) → (s.1 93 i = cI (-1) ∧ t.1 637 i = cI 4) ∨ (t.1 637 i = s.1 93 i ∧ 0 ≤ (s.1 93 i).toInt ∧ (s.1 93 i).toInt ≤ 3)) ∧ Ag (ix (s.1 78 11)) (s.1 94) (t.1 638) ∧ Ag (ix (s.1 78 11)) (s.1 95) (t.1 639) ∧ Bd (ix (s.1 78 11)) (s.1 94) 0 30000 ∧ Bd (ix (s.1 78 11)) (s.1 95) 0 9999
def RTa_C : List (Nat × Nat) := [(78, 12), (93, 0), (94, 0), (95, 0)]
def RTa_M : List (Nat × Nat) := [(549, 126), (637, 0), (638, 0), (639, 0)]
theorem RTa.keep  {s t s' t' : ev_M} {F G : List (Nat × (Nat × Nat))} (h : RTa  s t) (hs : fr F s s') (ht : fr G t t') (d1 : nof F RTa_C = true) (d2 : nof G RTa_M = true) : RTa  s' t' := by
  have e0 : t'.1 549 125 = t.1 549 125 := (nof_s ht d2 (c := 549) (k := 125) rfl).1
  have e1 : s'.1 78 11 = s.1 78 11 := (nof_s hs d1 (c := 78) (k := 11) rfl).1
  have e2 : s'.1 93 = s.1 93 := (nof_c hs d1 (c := 93) rfl).1
  have e3 : t'.1 637 = t.1 637 := (nof_c ht d2 (c := 637) rfl).1
  have e4 : s'.1 94 = s.1 94 := (nof_c hs d1 (c := 94) rfl).1
  have e5 : t'.1 638 = t.1 638 := (nof_c ht d2 (c := 638) rfl).1
  have e6 : s'.1 95 = s.1 95 := (nof_c hs d1 (c := 95) rfl).1
  have e7 : t'.1 639 = t.1 639 := (nof_c ht d2 (c := 639) rfl).1
  unfold RTa at h ⊢
  simp only [e0, e1, e2, e3, e4, e5, e6, e7]
  exact h
def RAk (g : Nat) (s t : ev_M) : Prop := Bd 120 (s.1 51) 0 (s.1 30 14).toInt ∧ Rg 0 (s.1 30 14) g
def RAk_C : List (Nat × Nat) := [(30, 15), (51, 0)]
def RAk_M : List (Nat × Nat) := []
theorem RAk.keep {g : Nat} {s t s' t' : ev_M} {F G : List (Nat × (Nat × Nat))} (h : RAk g s t) (hs : fr F s s') (ht : fr G t t') (d1 : nof F RAk_C = true) (d2 : nof G RAk_M = true) : RAk g s' t' := by
  have e0 : s'.1 51 = s.1 51 := (nof_c hs d1 (c := 51) rfl).1
  have e1 : s'.1 30 14 = s.1 30 14 := (nof_s hs d1 (c := 30) (k := 14) rfl).1
  unfold RAk at h ⊢
  simp only [e0, e1]
  exact h
