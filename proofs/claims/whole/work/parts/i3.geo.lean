/-! ===== LEVEL 3: where places lie, and how far ===== -/
def pX (s : ev_M) (p : Nat) : Int32 := if s.1 35 (ix (s.1 44 p)) = 0 then s.1 33 (ix (s.1 44 p)) + s.1 45 p else if s.1 35 (ix (s.1 44 p)) = cI 2 then s.1 33 (ix (s.1 44 p)) + -(s.1 45 p) else s.1 33 (ix (s.1 44 p)) + cI 0
def pY (s : ev_M) (p : Nat) : Int32 := if s.1 35 (ix (s.1 44 p)) = cI 1 then s.1 34 (ix (s.1 44 p)) + s.1 45 p else if s.1 35 (ix (s.1 44 p)) = cI 3 then s.1 34 (ix (s.1 44 p)) + -(s.1 45 p) else s.1 34 (ix (s.1 44 p)) + cI 0
def szI (x : Int32) : Int32 := if x < 0 then -x else x
/-- the way from one point to another -/
def dst (a b c d : Int32) : Int32 := szI (a - c) + szI (b - d)
theorem e_xy {s t : ev_M} {p : Int32} (hS : RSt s t) (hP : RPo s t) (h : Has p (s.1 30 9)) : fBook_xOf s p = some (pX s (ix p)) ∧ fBook_yOf s p = some (pY s (ix p)) ∧ fM_xOf t p = some (pX s (ix p)) ∧ fM_yOf t p = some (pY s (ix p)) := by
  obtain ⟨⟨a1, a2, a3⟩, b1, b2, b3, b4, -⟩ := id hP
  obtain ⟨⟨c1, c2, c3⟩, d1, d2, d3, -⟩ := id hS
  have hp : inb p 120 = true := h.inb a3
  have w := h.ix
  obtain ⟨e1, e2⟩ := b3 _ w
  have hv : Has (s.1 44 (ix p)) (s.1 30 4) := ⟨e1, by omega⟩
  have hi : inb (s.1 44 (ix p)) 30 = true := hv.inb c3
  have w2 := hv.ix
  have q1 : t.1 569 (ix p) = s.1 44 (ix p) := (b1 _ w)
  have q2 : t.1 570 (ix p) = s.1 45 (ix p) := (b2 _ w)
  have q3 : t.1 562 (ix (s.1 44 (ix p))) = s.1 33 (ix (s.1 44 (ix p))) := (d1 _ w2)
  have q4 : t.1 563 (ix (s.1 44 (ix p))) = s.1 34 (ix (s.1 44 (ix p))) := (d2 _ w2)
  have q5 : t.1 564 (ix (s.1 44 (ix p))) = s.1 35 (ix (s.1 44 (ix p))) := (d3 _ w2)
  refine ⟨?_, ?_, ?_, ?_⟩
  · unfold fBook_xOf pX
    simp only [hp, if_true, ltI_eq, ix_0, ix_1, ix_2, Nat.add_zero, Nat.reduceAdd, hi, fBook_xOf_b57]
    split
    · rfl
    · split <;> rfl
  · unfold fBook_yOf pY
    simp only [hp, if_true, ltI_eq, ix_0, ix_1, ix_2, Nat.add_zero, Nat.reduceAdd, hi, fBook_yOf_b58]
    split
    · rfl
    · split <;> rfl
  · unfold fM_xOf pX
    simp only [hp, if_true, ltI_eq, q1, q2, hi, q3, q5, fM_xOf_b49]
    split
    · rfl
    · split <;> rfl
  · unfold fM_yOf pY
    simp only [hp, if_true, ltI_eq, q1, q2, hi, q4, q5, fM_yOf_b50]
    split
    · rfl
    · split <;> rfl
theorem e_abs {s : ev_M} {x : Int32} : fMath_abs s x = some (szI x) := by
  unfold fMath_abs szI
  split <;> rfl
theorem e_size {s : ev_M} {x : Int32} : fM_size s x = some (szI x) := by
  unfold fM_size szI
  split <;> rfl
theorem e_between {s t : ev_M} {p q : Int32} (hS : RSt s t) (hP : RPo s t) (h : Has p (s.1 30 9)) (h' : Has q (s.1 30 9)) : fRounds_between s p q = some (dst (pX s (ix p)) (pY s (ix p)) (pX s (ix q)) (pY s (ix q))) := by
  obtain ⟨a1, a2, -, -⟩ := e_xy hS hP h
  obtain ⟨b1, b2, -, -⟩ := e_xy hS hP h'
  simp only [fRounds_between, a1, a2, b1, b2, bd1_some, e_abs, dst]
theorem e_fromB {s t : ev_M} {p a : Int32} (hS : RSt s t) (hP : RPo s t) (h : Has p (s.1 30 9)) (hb : inb a 12 = true) : fRounds_fromBeginning s a p = some (dst (pX s (ix p)) (pY s (ix p)) (s.1 141 (ix a)) (s.1 142 (ix a))) := by
  obtain ⟨a1, a2, -, -⟩ := e_xy hS hP h
  simp only [fRounds_fromBeginning, a1, a2, hb, if_true, bd1_some, e_abs, dst, ix_1, ix_2, Nat.reduceAdd]
theorem e_far {t : ev_M} {i j : Int32} (h : inb i 21 = true) (h' : inb j 21 = true) : fM_far t i j = some (dst (t.1 665 (ix i)) (t.1 666 (ix i)) (t.1 665 (ix j)) (t.1 666 (ix j))) := by
  simp only [fM_far, h, h', if_true, e_size, bd1_some, dst]
