/-! ===== LEVEL 3: the act clerk, whole ===== -/
section
variable {s t s' t' : ev_M}
/-- one clerk more told of an item -/
theorem RCk.tell {i w p x y z u2 u3 e : Int32} {m : Nat} (h : RCk s t) (hi : Has i (s.1 100 5)) (n3 : (s.1 100 5).toInt ≤ 300) (hm : m ≤ 2) (em : ix (t.1 604 (ix i)) = m) (ee : ix e = 3 * ix i + m) (hw : 0 ≤ w.toInt ∧ w.toInt ≤ 9) (hnot : (0 < m → ¬ t.1 605 (3 * ix i) = w) ∧ (1 < m → ¬ t.1 605 (3 * ix i + 1) = w)) (hx : x = msk (m + 1) (if m = 0 then w else t.1 605 (3 * ix i)) (if m = 1 then w else t.1 605 (3 * ix i + 1)) (if m = 2 then w else t.1 605 (3 * ix i + 2))) (hy : y = cI 1 → m + 1 ≤ 2 ∧ u2 = up1 (t.1 606) (ix e) p (3 * ix i) ∧ (1 < m + 1 → u3 = up1 (t.1 606) (ix e) p (3 * ix i + 1))) (hz : y = 0 → ¬ z = cI (-1)) (e1 : s'.1 100 5 = s.1 100 5) (e2 : s'.1 115 = up1 (s.1 115) (ix i) y) (e3 : s'.1 109 = up1 (s.1 109) (ix i) z) (e4 : s'.1 121 = up1 (s.1 121) (ix i) x) (e5 : s'.1 122 = up1 (s.1 122) (ix i) u2) (e6 : s'.1 123 = up1 (s.1 123) (ix i) u3) (e7 : t'.1 604 = up1 (t.1 604) (ix i) (t.1 604 (ix i) + cI 1)) (e8 : t'.1 605 = up1 (t.1 605) (ix e) w) (e9 : t'.1 606 = up1 (t.1 606) (ix e) p) : RCk s' t' := by
  obtain ⟨⟨a1, a2⟩, a3, a4, a5, a6, a7, a8, a9⟩ := h _ hi.ix
  have mt : (t.1 604 (ix i)).toInt = (m : Int) := by
    have := ix_toNat (t.1 604 (ix i))
    omega
  have m1 : (t.1 604 (ix i) + cI 1).toInt = (m : Int) + 1 := by rw [inc_i (by omega)]; omega
  have mi : ix (t.1 604 (ix i) + cI 1) = m + 1 := by rw [ix_toNat, m1]; omega
  have i3 : ix i < 300 := by have := hi.1; have := hi.2; rw [ix_toNat]; omega
  unfold RCk at h ⊢
  rw [e1, e2, e3, e4, e5, e6, e7, e8, e9]
  intro j hj
  by_cases q : j = ix i
  · subst q
    simp only [up1_eq, mi]
    have o : ∀ (f : Nat → Int32) (v : Int32) (c : Nat), c ≠ m → up1 f (ix e) v (3 * ix i + c) = f (3 * ix i + c) := fun f v c hc => up1_ne (by omega)
    have o0 : ∀ (f : Nat → Int32) (v : Int32), m ≠ 0 → up1 f (ix e) v (3 * ix i) = f (3 * ix i) := fun f v hc => up1_ne (by omega)
    have on : ∀ (f : Nat → Int32) (v : Int32), up1 f (ix e) v (3 * ix i + m) = v := fun f v => by rw [ee, up1_eq]
    have p0 : up1 (t.1 605) (ix e) w (3 * ix i) = if m = 0 then w else t.1 605 (3 * ix i) := by
      by_cases c : m = 0
      · rw [if_pos c]; have := on (t.1 605) w; rw [c, Nat.add_zero] at this; exact this
      · rw [if_neg c, o0 _ _ c]
    have p1 : up1 (t.1 605) (ix e) w (3 * ix i + 1) = if m = 1 then w else t.1 605 (3 * ix i + 1) := by
      by_cases c : m = 1
      · rw [if_pos c]; have := on (t.1 605) w; rw [c] at this; exact this
      · rw [if_neg c, o _ _ 1 (by omega)]
    have p2 : up1 (t.1 605) (ix e) w (3 * ix i + 2) = if m = 2 then w else t.1 605 (3 * ix i + 2) := by
      by_cases c : m = 2
      · rw [if_pos c]; have := on (t.1 605) w; rw [c] at this; exact this
      · rw [if_neg c, o _ _ 2 (by omega)]
    rw [p0, p1, p2]
    refine ⟨⟨by omega, by omega⟩, fun c => ?_, fun c d => absurd d (hz c), fun k hk => ?_, fun c => ?_, fun c => ?_, hx, fun c => ⟨fun _ => (hy c).2.1, (hy c).2.2⟩⟩
    · have := (hy c).1; omega
    · by_cases c : k = m
      · rw [c, on]; exact hw
      · rw [o _ _ k c]
        exact a5 k (by rw [em]; omega)
    · by_cases c0 : m = 1
      · rw [if_neg (by omega), if_pos c0]
        exact hnot.1 (by omega)
      · rw [if_neg (by omega), if_neg c0]
        exact a6 (by rw [em]; omega)
    · have c0 : m = 2 := by omega
      rw [if_neg (show ¬ m = 0 by omega), if_neg (show ¬ m = 1 by omega), if_pos c0]
      exact ⟨hnot.1 (by omega), hnot.2 (by omega)⟩
  · simp only [up1_ne q]
    obtain ⟨⟨b1, b2⟩, b3, b4, b5, b6, b7, b8, b9⟩ := h j hj
    have mj : ix (t.1 604 j) ≤ 3 := by rw [ix_toNat]; omega
    have o : ∀ (f : Nat → Int32) (v : Int32) (c : Nat), c < 3 → up1 f (ix e) v (3 * j + c) = f (3 * j + c) := fun f v c hc => up1_ne (by omega)
    have o0 : ∀ (f : Nat → Int32) (v : Int32), up1 f (ix e) v (3 * j) = f (3 * j) := fun f v => up1_ne (by omega)
    rw [o0, o _ _ 1 (by decide), o _ _ 2 (by decide), o0, o _ _ 1 (by decide)]
    exact ⟨⟨b1, b2⟩, b3, b4, fun k hk => by rw [o _ _ k (by omega)]; exact b5 k hk, b6, b7, b8, b9⟩
end
section
variable {s t : ev_M} {F : Bool} {A : Nat → Nat → Int32}
def Fclk : List (Nat × (Nat × Nat)) := [(109, 109, 0), (115, 115, 0), (121, 121, 0), (122, 122, 0), (123, 123, 0)]
abbrev RK3 (s t : ev_M) : Prop := RIt s t ∧ RCk s t ∧ RSx s t
/-- the class's end of a clerk's word -/
theorem clk_c {a w p X : Int32} {m : Nat} {s7 : ev_M} (hb : inb a 300 = true) (hm : m ≤ 2) (ep : pc X = cI (m : Int)) : (bd1 (fInt_bitCount s7 X) fun v9 => if v9 < cI 1 then fItems_hearClerk_b115 s7 a w p X v9 else if inb a 300 = true then (if s7.1 122 (ix a) = p then fItems_hearClerk_b134 s7 a w p X v9 else fItems_hearClerk_b115 s7 a w p X v9) else none) = (if (0 < m ∧ s7.1 122 (ix a) = p) ∨ (1 < m ∧ s7.1 123 (ix a) = p) then (if p = cI (-1) then some (wI (wI s7 121 (ix a) (X ||| (cI 1 <<< (w &&& 31)))) 115 (ix a) (cI 2), cI 2) else some (wI (wI (wI s7 121 (ix a) (X ||| (cI 1 <<< (w &&& 31)))) 109 (ix a) p) 115 (ix a) (cI 0), cI 1)) else if m = 2 then some (wI (wI s7 121 (ix a) (X ||| (cI 1 <<< (w &&& 31)))) 115 (ix a) (cI 2), cI 2) else some (wI (wI s7 121 (ix a) (X ||| (cI 1 <<< (w &&& 31)))) (122 + m) (ix a) p, cI 0)) := by
  rw [e_pc, bd1_some, ep]
  have c1 : cI 1 = (0 : Int32) ↔ False := ⟨fun h => absurd h (by decide), fun h => h.elim⟩
  have c0 : cI 0 = (0 : Int32) ↔ True := ⟨fun _ => trivial, fun _ => rfl⟩
  rcases (by omega : m = 0 ∨ m = 1 ∨ m = 2) with rfl | rfl | rfl
  · have q1 : cI ((0 : Nat) : Int) < cI 1 := by decide
    have q2 : cI ((0 : Nat) : Int) < cI 2 := by decide
    have q3 : cI ((0 : Nat) : Int) = 0 := rfl
    rw [if_pos q1, if_neg (by omega), if_neg (by decide)]
    simp only [fItems_hearClerk_b115, if_pos q2, fItems_hearClerk_b138, fItems_hearClerk_b139, hb, if_true, ltM_eq, ix_19, Nat.reduceAdd, c0, fItems_hearClerk_b174, if_pos q3, fItems_hearClerk_b213, show inb (cI 20) 22 = true by decide, ix_20]
  · have q1 : ¬ cI ((1 : Nat) : Int) < cI 1 := by decide
    have q2 : cI ((1 : Nat) : Int) < cI 2 := by decide
    have q3 : ¬ cI ((1 : Nat) : Int) = 0 := by decide
    rw [if_neg q1, if_pos hb]
    by_cases r1 : s7.1 122 (ix a) = p
    · rw [if_pos r1, if_pos (Or.inl ⟨by decide, r1⟩)]
      by_cases r2 : p = cI (-1)
      · rw [if_pos r2]
        simp only [fItems_hearClerk_b134, fItems_hearClerk_b139, hb, if_true, ltM_eq, ix_19, ix_13, Nat.reduceAdd, c1, if_false, if_pos r2, fItems_hearClerk_b174, fItems_hearClerk_b185]
      · rw [if_neg r2]
        simp only [fItems_hearClerk_b134, fItems_hearClerk_b139, hb, if_true, ltM_eq, ix_19, ix_7, ix_13, Nat.reduceAdd, c1, if_false, if_neg r2, fItems_fixAddress, bd1_some]
    · rw [if_neg r1, if_neg (fun z => z.elim (fun z => r1 z.2) (fun z => absurd z.1 (by decide))), if_neg (by decide)]
      simp only [fItems_hearClerk_b115, if_pos q2, fItems_hearClerk_b138, fItems_hearClerk_b139, hb, if_true, ltM_eq, ix_19, Nat.reduceAdd, c0, fItems_hearClerk_b174, if_neg q3, fItems_hearClerk_b213, show inb (cI 21) 22 = true by decide, ix_21]
  · have q1 : ¬ cI ((2 : Nat) : Int) < cI 1 := by decide
    have q2 : ¬ cI ((2 : Nat) : Int) < cI 2 := by decide
    rw [if_neg q1, if_pos hb]
    by_cases r1 : s7.1 122 (ix a) = p
    · rw [if_pos r1, if_pos (Or.inl ⟨by decide, r1⟩)]
      by_cases r2 : p = cI (-1)
      · rw [if_pos r2]
        simp only [fItems_hearClerk_b134, fItems_hearClerk_b139, hb, if_true, ltM_eq, ix_19, ix_13, Nat.reduceAdd, c1, if_false, if_pos r2, fItems_hearClerk_b174, fItems_hearClerk_b185]
      · rw [if_neg r2]
        simp only [fItems_hearClerk_b134, fItems_hearClerk_b139, hb, if_true, ltM_eq, ix_19, ix_7, ix_13, Nat.reduceAdd, c1, if_false, if_neg r2, fItems_fixAddress, bd1_some]
    · rw [if_neg r1]
      by_cases r3 : s7.1 123 (ix a) = p
      · rw [if_pos (Or.inr ⟨by decide, r3⟩)]
        by_cases r2 : p = cI (-1)
        · rw [if_pos r2]
          simp only [fItems_hearClerk_b115, if_neg q2, ix_21, fItems_hearClerk_b134, fItems_hearClerk_b139, hb, if_true, ltM_eq, ix_19, ix_13, Nat.reduceAdd, eq_true r3, c1, if_false, if_pos r2, fItems_hearClerk_b174, fItems_hearClerk_b185]
        · rw [if_neg r2]
          simp only [fItems_hearClerk_b115, if_neg q2, ix_21, fItems_hearClerk_b134, fItems_hearClerk_b139, hb, if_true, ltM_eq, ix_19, ix_7, ix_13, Nat.reduceAdd, eq_true r3, c1, if_false, if_neg r2, fItems_fixAddress, bd1_some]
      · rw [if_neg (fun z => z.elim (fun z => r1 z.2) (fun z => r3 z.2)), if_pos rfl]
        simp only [fItems_hearClerk_b115, if_neg q2, ix_21, fItems_hearClerk_b138, fItems_hearClerk_b139, hb, if_true, ltM_eq, ix_19, ix_13, Nat.reduceAdd, eq_false r3, if_false, c0, fItems_hearClerk_b174, fItems_hearClerk_b185]
end
