/-! ===== LEVEL 3: the price by the tariff ===== -/
/-- the price by the first n rows, without services -/
def tbas (f g c : Nat → Int32) (k w : Int32) : Nat → Int32
  | 0 => cI (-1)
  | n + 1 => if tbas f g c k w n = cI (-1) then (if f n = k ∧ w ≤ g n then c n else cI (-1)) else tbas f g c k w n
/-- what the services of the first n rows cost -/
def text (f g c : Nat → Int32) (s : Int32) : Nat → Int32
  | 0 => cI 0
  | n + 1 => text f g c s n + (if f n = cI (-1) ∧ ¬ g n &&& s = 0 then c n else cI 0)
theorem text_b {f g c : Nat → Int32} {s : Int32} {N : Nat} (hc : Bd N c 0 9999) : ∀ n, n ≤ N → n ≤ 40 → 0 ≤ (text f g c s n).toInt ∧ (text f g c s n).toInt ≤ 9999 * (n : Int)
  | 0, _, _ => by
    show 0 ≤ (cI 0).toInt ∧ (cI 0).toInt ≤ 9999 * ((0 : Nat) : Int)
    decide
  | n + 1, h, h2 => by
    obtain ⟨a1, a2⟩ := text_b (f := f) (g := g) (s := s) hc n (by omega) (by omega)
    obtain ⟨b1, b2⟩ := hc n (by omega)
    simp only [text]
    split
    · rw [add_toInt (by omega) (by omega)]; omega
    · rw [add_toInt (by rw [show (cI 0).toInt = 0 from rfl]; omega) (by rw [show (cI 0).toInt = 0 from rfl]; omega), show (cI 0).toInt = 0 from rfl]; omega
theorem tbas_b {f g c : Nat → Int32} {k w : Int32} {N : Nat} (hc : Bd N c 0 9999) : ∀ n, n ≤ N → -1 ≤ (tbas f g c k w n).toInt ∧ (tbas f g c k w n).toInt ≤ 9999
  | 0, _ => by
    show -1 ≤ (cI (-1)).toInt ∧ (cI (-1)).toInt ≤ 9999
    decide
  | n + 1, h => by
    have := tbas_b (f := f) (g := g) (k := k) (w := w) hc n (by omega)
    have := hc n (by omega)
    simp only [tbas]
    split
    · split
      · omega
      · constructor <;> decide
    · omega
def tprice (f g c : Nat → Int32) (k w s : Int32) (n : Nat) : Int32 := if tbas f g c k w n = cI (-1) then cI (-1) else tbas f g c k w n + text f g c s n
theorem tprice_b {f g c : Nat → Int32} {k w s : Int32} {n : Nat} (hc : Bd n c 0 9999) (hn : n ≤ 40) : -1 ≤ (tprice f g c k w s n).toInt ∧ (tprice f g c k w s n).toInt ≤ 500000 ∧ (tprice f g c k w s n = cI (-1) ∨ 0 ≤ (tprice f g c k w s n).toInt) := by
  have h1 := tbas_b (f := f) (g := g) (k := k) (w := w) hc n (Nat.le_refl _)
  have h2 := text_b (f := f) (g := g) (s := s) hc n (Nat.le_refl _) hn
  unfold tprice
  split
  · exact ⟨by decide, by decide, Or.inl rfl⟩
  · next q =>
    have q2 : ¬ (tbas f g c k w n).toInt = -1 := fun z => q (by rw [eq_i]; exact z)
    rw [add_toInt (by omega) (by omega)]
    exact ⟨by omega, by omega, Or.inr (by omega)⟩
/-- the class's walk, forward -/
theorem price_c {s : ev_M} {k w v : Int32} (hk : 0 ≤ k.toInt) (h9 : (s.1 78 11).toInt ≤ 40) : ∀ (r n : Nat) (j : Int32), 0 ≤ j.toInt → j.toInt + r = (s.1 78 11).toInt → r < n → fMoney_priceFor_h9 s n k w v (tbas (s.1 93) (s.1 94) (s.1 95) k w (ix j)) (text (s.1 93) (s.1 94) (s.1 95) v (ix j)) j = some (tprice (s.1 93) (s.1 94) (s.1 95) k w v (ix (s.1 78 11)))
  | 0, n, j, h0, h1, hn => by
    obtain ⟨n, rfl⟩ : ∃ k, n = k + 1 := ⟨n - 1, by omega⟩
    have e : ix j = ix (s.1 78 11) := by rw [ix_toNat, ix_toNat]; omega
    rw [e]
    simp only [fMoney_priceFor_h9, if_neg (show ¬ j < s.1 78 11 by rw [lt_i]; omega)]
    unfold tprice
    split <;> rfl
  | r + 1, n, j, h0, h1, hn => by
    obtain ⟨n, rfl⟩ : ∃ k, n = k + 1 := ⟨n - 1, by omega⟩
    have hi : inb j 40 = true := inb_iff.mpr ⟨h0, by omega⟩
    have ei : ix (j + cI 1) = ix j + 1 := ix_inc h0 (by omega)
    have et : (j + cI 1).toInt = j.toInt + 1 := inc_i (by omega)
    have ih := price_c (s := s) (k := k) (w := w) (v := v) hk h9 r n (j + cI 1) (by omega) (by omega) (by omega)
    rw [ei] at ih
    have ne : ¬ k = cI (-1) := fun z => by rw [z] at hk; exact absurd hk (by decide)
    have z0 : ∀ x : Int32, x + cI 0 = x := fun x => Int32.add_zero x
    by_cases a1 : s.1 93 (ix j) = cI (-1)
    · have a3 : ¬ cI (-1) = k := fun z => ne z.symm
      by_cases a2 : s.1 94 (ix j) &&& v = 0
      · simp only [tbas, text, a1, a2, a3, not_true_eq_false, and_false, false_and, if_false, z0] at ih
        rw [show (if tbas (s.1 93) (s.1 94) (s.1 95) k w (ix j) = cI (-1) then cI (-1) else tbas (s.1 93) (s.1 94) (s.1 95) k w (ix j)) = tbas (s.1 93) (s.1 94) (s.1 95) k w (ix j) by split <;> simp_all] at ih
        simp only [fMoney_priceFor_h9, fMoney_priceFor_b105, if_pos (show j < s.1 78 11 by rw [lt_i]; omega), if_pos hi, ix_0, ix_1, Nat.add_zero, Nat.reduceAdd, if_pos a1, if_pos a2]
        exact ih
      · simp only [tbas, text, a1, a2, a3, not_false_eq_true, and_true, false_and, if_false, if_true] at ih
        rw [show (if tbas (s.1 93) (s.1 94) (s.1 95) k w (ix j) = cI (-1) then cI (-1) else tbas (s.1 93) (s.1 94) (s.1 95) k w (ix j)) = tbas (s.1 93) (s.1 94) (s.1 95) k w (ix j) by split <;> simp_all] at ih
        simp only [fMoney_priceFor_h9, fMoney_priceFor_b105, if_pos (show j < s.1 78 11 by rw [lt_i]; omega), if_pos hi, ix_0, ix_1, ix_2, Nat.add_zero, Nat.reduceAdd, if_pos a1, if_neg a2, ltI_eq]
        exact ih
    · simp only [tbas, text, a1, false_and, if_false, z0] at ih
      by_cases a2 : s.1 93 (ix j) = k
      · by_cases a3 : tbas (s.1 93) (s.1 94) (s.1 95) k w (ix j) = cI (-1)
        · by_cases a4 : w ≤ s.1 94 (ix j)
          · simp only [a2, a3, a4, and_self, if_true] at ih
            simp only [fMoney_priceFor_h9, fMoney_priceFor_b105, if_pos (show j < s.1 78 11 by rw [lt_i]; omega), if_pos hi, ix_0, ix_1, ix_2, Nat.add_zero, Nat.reduceAdd, if_neg a1, if_pos a2, if_pos a3, if_pos a4, ltI_eq]
            exact ih
          · simp only [a2, a3, a4, and_false, if_false, if_true] at ih
            simp only [fMoney_priceFor_h9, fMoney_priceFor_b105, if_pos (show j < s.1 78 11 by rw [lt_i]; omega), if_pos hi, ix_0, ix_1, ix_2, Nat.add_zero, Nat.reduceAdd, if_neg a1, if_pos a2, if_pos a3, if_neg a4]
            rw [a3]; exact ih
        · simp only [a3, if_false] at ih
          simp only [fMoney_priceFor_h9, fMoney_priceFor_b105, if_pos (show j < s.1 78 11 by rw [lt_i]; omega), if_pos hi, ix_0, ix_1, ix_2, Nat.add_zero, Nat.reduceAdd, if_neg a1, if_pos a2, if_neg a3]
          exact ih
      · simp only [a2, false_and, if_false] at ih
        rw [show (if tbas (s.1 93) (s.1 94) (s.1 95) k w (ix j) = cI (-1) then cI (-1) else tbas (s.1 93) (s.1 94) (s.1 95) k w (ix j)) = tbas (s.1 93) (s.1 94) (s.1 95) k w (ix j) by split <;> simp_all] at ih
        simp only [fMoney_priceFor_h9, fMoney_priceFor_b105, if_pos (show j < s.1 78 11 by rw [lt_i]; omega), if_pos hi, ix_0, ix_1, ix_2, Nat.add_zero, Nat.reduceAdd, if_neg a1, if_neg a2]
        exact ih
theorem and_le {x y : Int32} (hx : 0 ≤ x.toInt ∧ x.toInt ≤ 7) (hy : 0 ≤ y.toInt) : x &&& y ≤ 0 ↔ x &&& y = 0 := by
  have m : (x &&& y).toBitVec.msb = false := by
    have m1 : x.toBitVec.msb = false := by
      rw [BitVec.msb_eq_toInt]
      exact decide_eq_false (fun z => by have z2 : x.toInt < 0 := z; omega)
    rw [Int32.toBitVec_and, BitVec.msb_and, m1]
    rfl
  have k : 0 ≤ (x &&& y).toInt := BitVec.toInt_nonneg_of_msb_false m
  rw [le_i, eq_i, i32_0]
  omega
/-- the reference's walk, backward -/
theorem price_m {s t : ev_M} {i k w v : Int32} (hT : RTa s t) (hb : inb i 300 = true) (e1 : t.1 584 (ix i) = k) (e2 : t.1 585 (ix i) = w) (e3 : t.1 586 (ix i) = v) (hk : 0 ≤ k.toInt ∧ k.toInt ≤ 3) (hv : 0 ≤ v.toInt ∧ v.toInt ≤ 7) : ∀ (r n : Nat) (x y j : Int32), j.toInt = (r : Int) - 1 → r ≤ ix (s.1 78 11) → r < n → (if tbas (s.1 93) (s.1 94) (s.1 95) k w r = cI (-1) then x else tbas (s.1 93) (s.1 94) (s.1 95) k w r) = tbas (s.1 93) (s.1 94) (s.1 95) k w (ix (s.1 78 11)) → text (s.1 93) (s.1 94) (s.1 95) v r + y = text (s.1 93) (s.1 94) (s.1 95) v (ix (s.1 78 11)) → fM_priceOf_h12 t n i x y j = some (tprice (s.1 93) (s.1 94) (s.1 95) k w v (ix (s.1 78 11)))
  | 0, n, x, y, j, h0, h1, hn, hx, hy => by
    obtain ⟨n, rfl⟩ : ∃ k, n = k + 1 := ⟨n - 1, by omega⟩
    simp only [tbas, if_true] at hx
    simp only [text] at hy
    rw [show cI 0 + y = y from Int32.zero_add y] at hy
    have hj : j < 0 := by rw [lt_i, i32_0]; omega
    simp only [fM_priceOf_h12, if_pos hj, hx, hy]
    unfold tprice
    split <;> rfl
  | r + 1, n, x, y, j, h0, h1, hn, hx, hy => by
    obtain ⟨n, rfl⟩ : ∃ k, n = k + 1 := ⟨n - 1, by omega⟩
    obtain ⟨⟨n1, n2, n3⟩, a1, a2, a3, b1, b2⟩ := id hT
    have ej : ix j = r := by rw [ix_toNat]; omega
    have eN : ix (s.1 78 11) = (s.1 78 11).toInt.toNat := ix_toNat _
    have hj : ¬ j < 0 := by rw [lt_i, i32_0]; omega
    have hi : inb j 40 = true := inb_iff.mpr ⟨by omega, by omega⟩
    have et : (j + cI (-1)).toInt = (r : Int) - 1 := by
      rw [add_toInt (by rw [show (cI (-1)).toInt = -1 from rfl]; omega) (by rw [show (cI (-1)).toInt = -1 from rfl]; omega), show (cI (-1)).toInt = -1 from rfl]
      omega
    have m2 : t.1 638 r = s.1 94 r := a2 r (by omega)
    have m3 : t.1 639 r = s.1 95 r := a3 r (by omega)
    have c0 := (b2 r (by omega)).1
    have g0 := (b1 r (by omega)).1
    have ih := fun x y => price_m hT hb e1 e2 e3 hk hv r n x y (j + cI (-1)) et (by omega) (by omega)
    have hc : ¬ s.1 95 r = cI (-1) := fun z => by rw [z] at c0; exact absurd c0 (by decide)
    have swap : ∀ a b c : Int32, a + b + c = a + (c + b) := fun a b c => by rw [Int32.add_assoc, Int32.add_comm b c]
    have z0 : ∀ x : Int32, x + cI 0 = x := fun x => Int32.add_zero x
    have k4 : ¬ cI 4 = k := fun z => by rw [← z] at hk; exact absurd hk.2 (by decide)
    have kn : ¬ cI (-1) = k := fun z => by rw [← z] at hk; exact absurd hk.1 (by decide)
    simp only [fM_priceOf_h12, if_neg hj, if_pos hi, if_pos hb, ej, e1, e2, m2, m3]
    rcases a1 r (by omega) with ⟨w1, w2⟩ | ⟨w1, w2, w3⟩
    · simp only [tbas, w1, kn, false_and, if_false] at hx
      rw [show (if tbas (s.1 93) (s.1 94) (s.1 95) k w r = cI (-1) then cI (-1) else tbas (s.1 93) (s.1 94) (s.1 95) k w r) = tbas (s.1 93) (s.1 94) (s.1 95) k w r by split <;> simp_all] at hx
      simp only [w2, if_neg k4, fM_priceOf_b59, fM_priceOf_b60, fM_priceOf_b101, fM_priceOf_b102, ej, if_pos hi, if_pos hb, if_true, e3, m2, m3]
      by_cases q : v &&& s.1 94 r ≤ 0
      · have q2 : s.1 94 r &&& v = 0 := by rw [Int32.and_comm]; exact (and_le hv g0).mp q
        rw [if_pos q]
        simp only [text, w1, q2, not_true_eq_false, and_false, if_false, z0] at hy
        exact ih x y hx hy
      · have q2 : ¬ s.1 94 r &&& v = 0 := fun z => q ((and_le hv g0).mpr (by rw [Int32.and_comm]; exact z))
        rw [if_neg q]
        simp only [text, w1, q2, not_false_eq_true, and_true, if_true] at hy
        rw [swap] at hy
        exact ih x (y + s.1 95 r) hx hy
    · have f1 : ¬ s.1 93 r = cI (-1) := fun z => by rw [z] at w2; exact absurd w2 (by decide)
      have f4 : ¬ s.1 93 r = cI 4 := fun z => by rw [z] at w3; exact absurd w3 (by decide)
      simp only [text, f1, false_and, if_false, z0] at hy
      simp only [w1, fM_priceOf_b59, fM_priceOf_b60, fM_priceOf_b101, fM_priceOf_b102, ej, if_pos hi, if_neg f4]
      by_cases q : s.1 93 r = k
      · by_cases u : w ≤ s.1 94 r
        · simp only [if_pos q, if_pos u, w1, if_neg f4]
          simp only [tbas, q, u, and_self, if_true] at hx
          refine ih (s.1 95 r) y ?_ hy
          by_cases p : tbas (s.1 93) (s.1 94) (s.1 95) k w r = cI (-1)
          · rw [if_pos p]
            rw [if_pos p, if_neg hc] at hx
            exact hx
          · rw [if_neg p]
            rw [if_neg p, if_neg p] at hx
            exact hx
        · simp only [if_pos q, if_neg u, w1, if_neg f4]
          simp only [tbas, q, u, and_false, if_false] at hx
          rw [show (if tbas (s.1 93) (s.1 94) (s.1 95) k w r = cI (-1) then cI (-1) else tbas (s.1 93) (s.1 94) (s.1 95) k w r) = tbas (s.1 93) (s.1 94) (s.1 95) k w r by split <;> simp_all] at hx
          exact ih x y hx hy
      · simp only [if_neg q, w1, if_neg f4]
        simp only [tbas, q, false_and, if_false] at hx
        rw [show (if tbas (s.1 93) (s.1 94) (s.1 95) k w r = cI (-1) then cI (-1) else tbas (s.1 93) (s.1 94) (s.1 95) k w r) = tbas (s.1 93) (s.1 94) (s.1 95) k w r by split <;> simp_all] at hx
        exact ih x y hx hy
/-- the price of an item, class and reference -/
theorem RTa.price {s t : ev_M} {i : Int32} (hT : RTa s t) (h : RIt s t) (hi : Has i (s.1 100 5)) : ∃ p, fItems_priceOf s i = some p ∧ fM_priceOf t i = some p ∧ p.toInt ≤ 500000 ∧ (p = cI (-1) ∨ 0 ≤ p.toInt) := by
  obtain ⟨⟨n1, n2, n3⟩, a1, a2, a3, b1, b2⟩ := id hT
  obtain ⟨⟨m1, m2, m3⟩, -, g2, g3, g4, -, -, -, -, -, -, c2, c3, c4, -⟩ := h
  have hb : inb i 300 = true := hi.inb m3
  have w := hi.ix
  have d2 := c2 _ w
  have d4 := c4 _ w
  have eN : ix (s.1 78 11) = (s.1 78 11).toInt.toNat := ix_toNat _
  have e1 : (s.1 78 11 - cI 1).toInt = (ix (s.1 78 11) : Int) - 1 := by
    rw [sub_toInt (by rw [show (cI 1).toInt = 1 from rfl]; omega) (by rw [show (cI 1).toInt = 1 from rfl]; omega), show (cI 1).toInt = 1 from rfl]
    omega
  have hp := tprice_b (f := s.1 93) (g := s.1 94) (k := s.1 103 (ix i)) (w := s.1 104 (ix i)) (s := s.1 105 (ix i)) b2 (by omega)
  refine ⟨tprice (s.1 93) (s.1 94) (s.1 95) (s.1 103 (ix i)) (s.1 104 (ix i)) (s.1 105 (ix i)) (ix (s.1 78 11)), ?_, ?_, hp.2.1, hp.2.2⟩
  · have q := price_c (s := s) (k := s.1 103 (ix i)) (w := s.1 104 (ix i)) (v := s.1 105 (ix i)) d2.1 n3 (ix (s.1 78 11)) 1048576 (cI 0) (by decide) (by rw [show (cI 0).toInt = 0 from rfl]; omega) (by omega)
    simp only [fItems_priceOf, fMoney_priceFor, if_pos hb, ix_1, ix_2, ix_3, Nat.reduceAdd, bd1_eta]
    exact q
  · unfold fM_priceOf
    rw [ltI_eq, n1]
    exact price_m hT hb (g2 _ w) (g3 _ w) (g4 _ w) ⟨d2.1, d2.2⟩ ⟨d4.1, d4.2⟩ (ix (s.1 78 11)) 1048576 (cI (-1)) (cI 0) _ e1 (Nat.le_refl _) (by omega) (by split <;> simp_all) (Int32.add_zero _)
/-- what is due for an item, class and reference -/
theorem RTa.due {s t : ev_M} {i : Int32} (hT : RTa s t) (h : RIt s t) (hq : RIr s t) (hi : Has i (s.1 100 5)) : ∃ p c, fItems_priceDue s i = some p ∧ fM_priceDue t i = some p ∧ fItems_centsDue s i = some c ∧ fM_centsDue t i = some c ∧ 0 ≤ p.toInt ∧ p.toInt ≤ 500100 ∧ 0 ≤ c.toInt ∧ c.toInt ≤ 100000 := by
  obtain ⟨p, p1, p2, p3, p4⟩ := hT.price h hi
  obtain ⟨⟨m1, m2, m3⟩, -, -, -, -, -, -, g7, -, -, -, -, -, -, -, -, c7, -⟩ := h
  obtain ⟨-, -, q3, q4, -, -, -, -, -, q5, -⟩ := hq
  have hb : inb i 300 = true := hi.inb m3
  have w := hi.ix
  have e3 := q3 _ w
  have e4 := q4 _ w
  have e7 := g7 _ w
  have d7 := c7 _ w
  have d5 := q5 _ w
  have hd : ∃ x, fItems_priceDue s i = some x ∧ fM_priceDue t i = some x ∧ 0 ≤ x.toInt ∧ x.toInt ≤ 500100 := by
    by_cases z : s.1 113 (ix i) = cI (-1)
    · rcases p4 with y | y
      · refine ⟨cI 0, ?_, ?_, by decide, by decide⟩
        · simp only [fItems_priceDue, fItems_priceDue_b22, if_pos hb, ix_11, Nat.reduceAdd, if_pos z, p1, bd1_some, y, if_true]
        · simp only [fM_priceDue, fM_priceDue_b19, if_pos hb, e4, if_pos z, p2, bd1_some, y, if_true]
      · have y2 : ¬ p = cI (-1) := fun u => by rw [u] at y; exact absurd y (by decide)
        have y3 : (p + cI 100).toInt = p.toInt + 100 := by
          rw [add_toInt (by rw [show (cI 100).toInt = 100 from rfl]; omega) (by rw [show (cI 100).toInt = 100 from rfl]; omega)]
          rfl
        refine ⟨p + cI 100, ?_, ?_, by omega, by omega⟩
        · simp only [fItems_priceDue, fItems_priceDue_b22, if_pos hb, ix_11, Nat.reduceAdd, if_pos z, p1, bd1_some, if_neg y2]
        · simp only [fM_priceDue, fM_priceDue_b19, if_pos hb, e4, if_pos z, p2, bd1_some, if_neg y2]
    · refine ⟨cI 0, ?_, ?_, by decide, by decide⟩
      · simp only [fItems_priceDue, fItems_priceDue_b22, if_pos hb, ix_11, Nat.reduceAdd, if_neg z, if_true]
      · simp only [fM_priceDue, fM_priceDue_b19, if_pos hb, e4, if_neg z, if_true]
  have hc : ∃ x, fItems_centsDue s i = some x ∧ fM_centsDue t i = some x ∧ 0 ≤ x.toInt ∧ x.toInt ≤ 100000 := by
    by_cases z : s.1 112 (ix i) = cI 1
    · have z2 : ¬ s.1 112 (ix i) = 0 := by rw [z]; decide
      refine ⟨cI 0, ?_, ?_, by decide, by decide⟩
      · simp only [fItems_centsDue, if_pos hb, ix_10, Nat.reduceAdd, if_pos z]
      · simp only [fM_centsDue, if_pos hb, e3, if_neg z2]
    · have z2 : s.1 112 (ix i) = 0 := by
        have z3 : ¬ (s.1 112 (ix i)).toInt = 1 := fun u => z (by rw [eq_i]; exact u)
        rw [eq_i, i32_0]; omega
      refine ⟨s.1 108 (ix i), ?_, ?_, d7.1, d7.2⟩
      · simp only [fItems_centsDue, if_pos hb, ix_10, ix_6, Nat.reduceAdd, if_neg z]
      · simp only [fM_centsDue, if_pos hb, e3, if_pos z2, e7]
  obtain ⟨x, x1, x2, x3, x4⟩ := hd
  obtain ⟨y, y1, y2, y3, y4⟩ := hc
  exact ⟨x, y, x1, x2, y1, y2, x3, x4, y3, y4⟩
