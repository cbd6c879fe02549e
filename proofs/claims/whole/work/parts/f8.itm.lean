/-! ===== LEVEL 3: the act item ===== -/
def sv2Ok (x : Nat) : Bool := let w := cI (x : Int) &&& cI 2; decide (w = 0) || decide (w = cI 2)
theorem sv2_all : ((List.range 8).all fun x => sv2Ok x) = true := by decide +kernel
theorem sv2 {X : Int32} (h : InR X (cI 0) (cI 7)) : X &&& cI 2 = 0 ∨ X &&& cI 2 = cI 2 := by
  have h1 : 0 ≤ X.toInt := h.1
  have h2 : X.toInt ≤ 7 := h.2
  have q : sv2Ok (ix X) = true := List.all_eq_true.mp sv2_all (ix X) (List.mem_range.mpr (by rw [ix_toNat]; omega))
  unfold sv2Ok at q
  rw [cI_ix h1] at q
  simpa using q
/-- a new item's first facts in the class -/
def tlS (w : ev_M) (k : Nat) (x1 x2 x3 x4 x5 x6 : Int32) : ev_M := wI (wI (wI (wI (wI (wI (wI (wI (wI (wI w 103 k x1) 104 k x2) 105 k x3) 106 k x4) 107 k x5) 108 k x6) 112 k (cI 0)) 115 k (cI 0)) 120 k (cI 0)) 121 k (cI 0)
theorem tell_lp {x1 x2 x3 x4 x5 x6 k : Int32} (hk : inb k 300 = true) : ∀ (r n : Nat) (s : ev_M) (j : Int32), 0 ≤ j.toInt → j.toInt + r = 22 → r < n → ∃ w, fItems_tell_h138 n s x1 x2 x3 x4 x5 x6 k j = (bd1 (fItems_come (tlS w (ix k) x1 x2 x3 x4 x5 x6) k (cI 0)) fun s12 => some (s12, k)) ∧ (∀ q, ix j ≤ q → q < 22 → w.1 (102 + q) = up1 (s.1 (102 + q)) (ix k) (cI (-1))) ∧ (∀ c, c < 102 + ix j ∨ 124 ≤ c → w.1 c = s.1 c) ∧ fr [(102, 123, 0)] s w
  | 0, n, s, j, h0, h1, hn => by
    obtain ⟨n, rfl⟩ : ∃ k, n = k + 1 := ⟨n - 1, by omega⟩
    have hj : ¬ j < cI 22 := by rw [lt_i, show (cI 22).toInt = 22 from rfl]; omega
    refine ⟨s, ?_, fun q q1 q2 => ?_, fun _ _ => rfl, fr.rf⟩
    · simp only [fItems_tell_h138, if_neg hj, if_pos hk, ltM_eq, ix_1, ix_2, ix_3, ix_4, ix_5, ix_6, ix_10, ix_13, ix_18, ix_19, Nat.reduceAdd, tlS]
    · rw [ix_toNat] at q1; omega
  | r + 1, n, s, j, h0, h1, hn => by
    obtain ⟨n, rfl⟩ : ∃ k, n = k + 1 := ⟨n - 1, by omega⟩
    have hj : j < cI 22 := by rw [lt_i, show (cI 22).toInt = 22 from rfl]; omega
    have hi : inb j 22 = true := inb_iff.mpr ⟨h0, by omega⟩
    have ei : ix (j + cI 1) = ix j + 1 := ix_inc h0 (by omega)
    have et : (j + cI 1).toInt = j.toInt + 1 := inc_i (by omega)
    have j22 : ix j < 22 := by rw [ix_toNat]; omega
    have f1 : fr [(102, 123, 0)] s (wI s (102 + ix j) (ix k) (cI (-1))) := fr.rf.wI (inF_row (lo := 102) (hi := 123) rfl (Nat.le_add_right _ _) (by omega))
    obtain ⟨w, y1, y2, y3, y4⟩ := tell_lp (x1 := x1) (x2 := x2) (x3 := x3) (x4 := x4) (x5 := x5) (x6 := x6) hk r n (wI s (102 + ix j) (ix k) (cI (-1))) (j + cI 1) (by omega) (by omega) (by omega)
    rw [ei] at y2 y3
    refine ⟨w, ?_, fun q q1 q2 => ?_, fun c hc => ?_, f1.tr y4⟩
    · simp only [fItems_tell_h138, if_pos hj, if_pos hi, if_pos hk, ltM_eq]
      exact y1
    · by_cases z : q = ix j
      · rw [z, y3 (102 + ix j) (Or.inl (by omega)), wI_c]
      · rw [y2 q (by omega) q2, wI_ne (by omega)]
    · rw [y3 c (by omega), wI_ne (by omega)]
section
variable {s t s' t' : ev_M} {n : Nat}
theorem RNt.add (h : RNt n s t) (n2 : 0 ≤ (s.1 100 5).toInt) (n3 : (s.1 100 5).toInt < 300) {x : Int32} (e1 : s'.1 15 7 = s.1 15 7) (e2 : s'.1 24 = s.1 24) (e3 : s'.1 25 = s.1 25) (e4 : s'.1 26 = s.1 26) (e5 : s'.1 27 = s.1 27) (e6 : s'.1 100 5 = s.1 100 5 + cI 1) (e7 : s'.1 106 = up1 (s.1 106) (ix (s.1 100 5)) x) (e8 : t'.1 549 134 = t.1 549 134) (e9 : t'.1 644 = t.1 644) (e10 : t'.1 645 = t.1 645) (e11 : t'.1 646 = t.1 646) : RNt n s' t' := by
  obtain ⟨q1, q2, q3, q4, q5⟩ := h
  have xi : (s.1 100 5 + cI 1).toInt = (s.1 100 5).toInt + 1 := inc_i (by omega)
  unfold RNt
  rw [e1, e2, e3, e4, e5, e6, e7, e8, e9, e10, e11]
  refine ⟨q1, q2, q3, q4, fun e he => ?_⟩
  obtain ⟨a1, a2⟩ := q5 e he
  refine ⟨⟨a1.1, by have := a1.2; omega⟩, ?_⟩
  have := a1.ix
  rw [up1_ne (by omega)]
  exact a2
theorem RRw.add (h : RRw s t) (n2 : 0 ≤ (s.1 100 5).toInt) (n3 : (s.1 100 5).toInt < 300) (h3 : 0 ≤ (s.1 138 3).toInt) (h12 : (s.1 138 3).toInt ≤ 12) (e1 : s'.1 138 3 = s.1 138 3) (e2 : rowsOf s' 160 12 = rowsOf s 160 12) (e3 : s'.1 144 = s.1 144) (e4 : s'.1 100 5 = s.1 100 5 + cI 1) (e5 : t'.1 595 = up1 (t.1 595) (ix (s.1 100 5)) (cI (-1))) (e6 : t'.1 596 = t.1 596) : RRw s' t' := by
  obtain ⟨q1, q2⟩ := h
  have xi : ix (s.1 100 5 + cI 1) = ix (s.1 100 5) + 1 := ix_inc n2 (by omega)
  have n12 : ix (s.1 138 3) ≤ 12 := by rw [ix_toNat]; omega
  unfold RRw
  rw [e1, e2, e3, e4, e5, e6, xi]
  refine ⟨q1.ext ⟨by decide, by show (-1 : Int) ≤ _; omega⟩ rfl, fun r hr => ?_⟩
  obtain ⟨l, p1, p2, p3⟩ := q2 r hr
  refine ⟨l, p1, p2, fun i => ?_⟩
  rw [p3 i]
  by_cases z : i = ix (s.1 100 5)
  · rw [z, up1_eq]
    constructor
    · intro u; exact absurd u.1 (by omega)
    · intro u; exact absurd u.2 (neg1_ne (by omega))
  · rw [up1_ne z]
    exact ⟨fun u => ⟨by omega, u.2⟩, fun u => ⟨by omega, u.2⟩⟩
theorem RBc.add (h : RBc s t) (n2 : 0 ≤ (s.1 100 5).toInt) (n3 : (s.1 100 5).toInt < 300) (h3 : 0 ≤ (s.1 449 6).toInt) (h80 : (s.1 449 6).toInt ≤ 80) (e1 : s'.1 449 6 = s.1 449 6) (e2 : rowsOf s' 466 80 = rowsOf s 466 80) (e3 : s'.1 462 = s.1 462) (e4 : s'.1 100 5 = s.1 100 5 + cI 1) (e5 : t'.1 593 = up1 (t.1 593) (ix (s.1 100 5)) (cI (-1))) (e6 : t'.1 594 = t.1 594) : RBc s' t' := by
  obtain ⟨q1, q2⟩ := h
  have xi : ix (s.1 100 5 + cI 1) = ix (s.1 100 5) + 1 := ix_inc n2 (by omega)
  have n80 : ix (s.1 449 6) ≤ 80 := by rw [ix_toNat]; omega
  unfold RBc
  rw [e1, e2, e3, e4, e5, e6, xi]
  refine ⟨q1.ext ⟨by decide, by show (-1 : Int) ≤ _; omega⟩ rfl, fun r hr => ?_⟩
  obtain ⟨l, p1, p2, p3, p4⟩ := q2 r hr
  refine ⟨l, p1, p2, p3, fun i => ?_⟩
  rw [p4 i]
  by_cases z : i = ix (s.1 100 5)
  · rw [z, up1_eq]
    constructor
    · intro u; exact absurd u.1 (by omega)
    · intro u; exact absurd u.2 (neg1_ne (by omega))
  · rw [up1_ne z]
    exact ⟨fun u => ⟨by omega, u.2⟩, fun u => ⟨by omega, u.2⟩⟩
theorem RBx.add (h : RBx s t) (n2 : 0 ≤ (s.1 100 5).toInt) (n3 : (s.1 100 5).toInt < 300) (h3 : 0 ≤ (s.1 125 3).toInt) (h8 : (s.1 125 3).toInt ≤ 8) (e1 : s'.1 125 3 = s.1 125 3) (e2 : rowsOf s' 130 8 = rowsOf s 130 8) (e3 : s'.1 127 = s.1 127) (e4 : s'.1 100 5 = s.1 100 5 + cI 1) (e5 : t'.1 597 = up1 (t.1 597) (ix (s.1 100 5)) (cI (-1))) (e6 : t'.1 598 = up1 (t.1 598) (ix (s.1 100 5)) (cI (-1))) : RBx s' t' := by
  obtain ⟨q1, q2, q3⟩ := h
  have xi : ix (s.1 100 5 + cI 1) = ix (s.1 100 5) + 1 := ix_inc n2 (by omega)
  have xt : (s.1 100 5 + cI 1).toInt = (s.1 100 5).toInt + 1 := inc_i (by omega)
  have n8 : ix (s.1 125 3) ≤ 8 := by rw [ix_toNat]; omega
  have kc : cI ((ix (s.1 100 5) : Nat) : Int) = s.1 100 5 := cI_ix n2
  unfold RBx
  rw [e1, e2, e3, e4, e5, e6, xi]
  refine ⟨fun l b hl hb => ?_, fun i hi => ?_, fun i l b hi hl hb => ?_⟩
  · rcases q1 l b hl hb with z | z
    · exact Or.inl z
    · exact Or.inr ⟨z.1, by have := z.2; omega⟩
  · by_cases z : i = ix (s.1 100 5)
    · rw [z, up1_eq, up1_eq]; exact Or.inl ⟨rfl, rfl⟩
    · rw [up1_ne z, up1_ne z]; exact q2 i (by omega)
  · by_cases z : i = ix (s.1 100 5)
    · rw [z, up1_eq, up1_eq, kc]
      constructor
      · intro u
        rcases q1 l b hl hb with y | y
        · rw [y] at u; rw [← u] at n2; exact absurd n2 (by decide)
        · rw [u] at y; exact absurd y.2 (by omega)
      · intro u; exact absurd u.1 (neg1_ne (by omega))
    · rw [up1_ne z, up1_ne z]; exact q3 i l b (by omega) hl hb
theorem RCk.add (h : RCk s t) (n2 : 0 ≤ (s.1 100 5).toInt) (n3 : (s.1 100 5).toInt < 300) {x y z w : Int32} (e1 : s'.1 100 5 = s.1 100 5 + cI 1) (e2 : s'.1 115 = up1 (s.1 115) (ix (s.1 100 5)) (cI 0)) (e3 : s'.1 109 = up1 (s.1 109) (ix (s.1 100 5)) x) (e4 : s'.1 121 = up1 (s.1 121) (ix (s.1 100 5)) (cI 0)) (e5 : s'.1 122 = up1 (s.1 122) (ix (s.1 100 5)) z) (e6 : s'.1 123 = up1 (s.1 123) (ix (s.1 100 5)) w) (e7 : t'.1 604 = up1 (t.1 604) (ix (s.1 100 5)) (cI 0)) (e8 : t'.1 605 = t.1 605) (e9 : t'.1 606 = t.1 606) : RCk s' t' := by
  have xi : ix (s.1 100 5 + cI 1) = ix (s.1 100 5) + 1 := ix_inc n2 (by omega)
  unfold RCk at h ⊢
  rw [e1, e2, e3, e4, e5, e6, e7, e8, e9, xi]
  intro i hi
  by_cases q : i = ix (s.1 100 5)
  · rw [q]
    simp only [up1_eq]
    have m0 : ∀ a b c : Int32, cI 0 = msk (ix (cI 0)) a b c := fun a b c => by
      rw [ix_0]
      unfold msk
      rw [if_neg (by decide), if_neg (by decide), if_neg (by decide)]
      decide
    exact ⟨by unfold Rg; decide, fun u => absurd u (by decide), fun _ _ => rfl, fun k hk => absurd hk (by rw [ix_0]; omega), fun u => absurd u (by rw [ix_0]; omega), fun u => absurd u (by rw [ix_0]; omega), m0 _ _ _, fun u => absurd u (by decide)⟩
  · simp only [up1_ne q]
    exact h i (by omega)
end
