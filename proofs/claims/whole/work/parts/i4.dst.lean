/-! ===== LEVEL 3: bounds of ways ===== -/
theorem szI_b {x : Int32} (h1 : -2147483648 < x.toInt) : (szI x).toInt = (x.toInt.natAbs : Int) := by
  unfold szI
  have e0 := i32_0
  by_cases h : x < 0
  · rw [if_pos h]
    rw [lt_i, e0] at h
    rw [Int32.toInt_neg, Int.bmod_eq_of_le (by omega) (by omega)]
    omega
  · rw [if_neg h]
    rw [lt_i, e0] at h
    omega
theorem sub_b {x y : Int32} (h1 : -2147483648 ≤ x.toInt - y.toInt) (h2 : x.toInt - y.toInt < 2147483648) : (x - y).toInt = x.toInt - y.toInt := by
  rw [Int32.toInt_sub, Int.bmod_eq_of_le (by omega) (by omega)]
theorem add_b {x y : Int32} (h1 : -2147483648 ≤ x.toInt + y.toInt) (h2 : x.toInt + y.toInt < 2147483648) : (x + y).toInt = x.toInt + y.toInt := by
  rw [Int32.toInt_add, Int.bmod_eq_of_le (by omega) (by omega)]
theorem neg_b {x : Int32} (h1 : -2147483648 < x.toInt) : (-x).toInt = -x.toInt := by
  have h2 := Int32.toInt_lt x
  rw [Int32.toInt_neg, Int.bmod_eq_of_le (by omega) (by omega)]
def far4 (z : Int32) : Prop := -2000 ≤ z.toInt ∧ z.toInt ≤ 2000
theorem pXY_b {s t : ev_M} {p : Int32} (hS : RSt s t) (hP : RPo s t) (h : Has p (s.1 30 9)) : far4 (pX s (ix p)) ∧ far4 (pY s (ix p)) := by
  obtain ⟨⟨a1, a2, a3⟩, b1, b2, b3, b4, -⟩ := id hP
  obtain ⟨⟨c1, c2, c3⟩, d1, d2, d3, d4, d5, d6, d7, -⟩ := id hS
  have w := h.ix
  obtain ⟨e1, e2⟩ := b3 _ w
  obtain ⟨g1, g2⟩ := b4 _ w
  have hv : Has (s.1 44 (ix p)) (s.1 30 4) := ⟨e1, by omega⟩
  have w2 := hv.ix
  obtain ⟨x1, x2⟩ := d6 _ w2
  obtain ⟨y1, y2⟩ := d7 _ w2
  have n1 := neg_b (x := s.1 45 (ix p)) (by omega)
  have z0 : (cI 0).toInt = 0 := by decide
  unfold pX pY far4
  constructor
  · split
    · rw [add_b (by omega) (by omega)]; omega
    · split
      · rw [add_b (by omega) (by omega)]; omega
      · rw [add_b (by omega) (by omega)]; omega
  · split
    · rw [add_b (by omega) (by omega)]; omega
    · split
      · rw [add_b (by omega) (by omega)]; omega
      · rw [add_b (by omega) (by omega)]; omega
theorem dst_b {a b c d : Int32} (h1 : far4 a) (h2 : far4 b) (h3 : far4 c) (h4 : far4 d) : (dst a b c d).toInt = ((a.toInt - c.toInt).natAbs : Int) + ((b.toInt - d.toInt).natAbs : Int) ∧ 0 ≤ (dst a b c d).toInt ∧ (dst a b c d).toInt ≤ 8000 := by
  unfold far4 at h1 h2 h3 h4
  have e1 := sub_b (x := a) (y := c) (by omega) (by omega)
  have e2 := sub_b (x := b) (y := d) (by omega) (by omega)
  have q1 := szI_b (x := a - c) (by omega)
  have q2 := szI_b (x := b - d) (by omega)
  have q : (dst a b c d).toInt = (szI (a - c)).toInt + (szI (b - d)).toInt := add_b (by omega) (by omega)
  rw [q, q1, q2, e1, e2]
  refine ⟨rfl, by omega, by omega⟩
theorem dst_comm {a b c d : Int32} (h1 : far4 a) (h2 : far4 b) (h3 : far4 c) (h4 : far4 d) : dst a b c d = dst c d a b := by
  rw [eq_i, (dst_b h1 h2 h3 h4).1, (dst_b h3 h4 h1 h2).1]
  omega
