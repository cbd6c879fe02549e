/-! ===== LEVEL 3: the next minute at which something happens ===== -/
/-- v is the least of a set -/
def Lst (S : Int → Prop) (v : Int) : Prop := S v ∧ ∀ w, S w → v ≤ w
theorem Lst.eq {S S' : Int → Prop} {v v' : Int} (h : Lst S v) (h' : Lst S' v') (e1 : ∀ w, S w → ∃ w', S' w' ∧ w' ≤ w) (e2 : ∀ w, S' w → ∃ w', S w' ∧ w' ≤ w) : v = v' := by
  obtain ⟨w, w1, w2⟩ := e1 v h.1
  obtain ⟨u, u1, u2⟩ := e2 v' h'.1
  have := h.2 u u1
  have := h'.2 w w1
  omega
theorem Lst.more {S S' : Int → Prop} {v c : Int} (h : Lst S v) (e : ∀ w, S' w ↔ S w ∨ w = c) : Lst S' (if v ≤ c then v else c) := by
  by_cases z : v ≤ c
  · rw [if_pos z]
    refine ⟨(e v).mpr (Or.inl h.1), fun w hw => ?_⟩
    rcases (e w).mp hw with q | q
    · exact h.2 w q
    · omega
  · rw [if_neg z]
    refine ⟨(e c).mpr (Or.inr rfl), fun w hw => ?_⟩
    rcases (e w).mp hw with q | q
    · have := h.2 w q; omega
    · omega
theorem Lst.iff {S S' : Int → Prop} {v : Int} (h : Lst S v) (e : ∀ w, S' w ↔ S w) : Lst S' v := ⟨(e v).mpr h.1, fun w hw => h.2 w ((e w).mp hw)⟩
theorem e_min {s : ev_M} {a b : Int32} : ∃ v, fMath_min s a b = some v ∧ v.toInt = if a.toInt ≤ b.toInt then a.toInt else b.toInt := by
  unfold fMath_min
  by_cases z : a ≤ b
  · exact ⟨a, by rw [if_pos z], by rw [le_i] at z; rw [if_pos z]⟩
  · exact ⟨b, by rw [if_neg z], by rw [le_i] at z; rw [if_neg z]⟩
/-- the minutes at which lines leave, of the first k -/
def Sln (s : ev_M) (k : Nat) (w : Int) : Prop := ∃ q, q < k ∧ w = (s.1 456 q).toInt
def Sbg (s : ev_M) (k : Nat) (w : Int) : Prop := ∃ q, q < k ∧ s.1 459 q = cI 2 ∧ w = (s.1 464 q).toInt
theorem Sln.s {s : ev_M} {k : Nat} {w : Int} : Sln s (k + 1) w ↔ Sln s k w ∨ w = (s.1 456 k).toInt := by
  constructor
  · rintro ⟨q, h1, h2⟩
    by_cases z : q = k
    · exact Or.inr (by rw [h2, z])
    · exact Or.inl ⟨q, by omega, h2⟩
  · rintro (⟨q, h1, h2⟩ | h)
    · exact ⟨q, by omega, h2⟩
    · exact ⟨k, by omega, h⟩
theorem Sbg.s {s : ev_M} {k : Nat} {w : Int} (h2 : s.1 459 k = cI 2) : Sbg s (k + 1) w ↔ Sbg s k w ∨ w = (s.1 464 k).toInt := by
  constructor
  · rintro ⟨q, h1, h2, h3⟩
    by_cases z : q = k
    · exact Or.inr (by rw [h3, z])
    · exact Or.inl ⟨q, by omega, h2, h3⟩
  · rintro (⟨q, h1, h2, h3⟩ | h)
    · exact ⟨q, by omega, h2, h3⟩
    · exact ⟨k, by omega, h2, h⟩
theorem Sbg.n {s : ev_M} {k : Nat} {w : Int} (h2 : ¬ s.1 459 k = cI 2) : Sbg s (k + 1) w ↔ Sbg s k w := by
  constructor
  · rintro ⟨q, h1, h4, h3⟩
    by_cases z : q = k
    · rw [z] at h4; exact absurd h4 h2
    · exact ⟨q, by omega, h4, h3⟩
  · rintro ⟨q, h1, h2, h3⟩
    exact ⟨q, by omega, h2, h3⟩
theorem nb_C {s : ev_M} (h0 : 0 ≤ (s.1 449 6).toInt) (h80 : (s.1 449 6).toInt ≤ 80) (S : Int → Prop) : ∀ (r m k : Nat) (x1 : Int32), k + r = ix (s.1 449 6) → r < m → Lst (fun w => S w ∨ Sbg s k w) x1.toInt → ∃ v, fLines_nextMinute_h34 s m x1 (cI (k : Int)) = some v ∧ Lst (fun w => S w ∨ Sbg s (ix (s.1 449 6)) w) v.toInt
  | 0, m, k, x1, hk, hm, hx => by
    obtain ⟨m, rfl⟩ : ∃ k, m = k + 1 := ⟨m - 1, by omega⟩
    have bb := ix_toNat (s.1 449 6)
    refine ⟨x1, ?_, by rw [show ix (s.1 449 6) = k by omega]; exact hx⟩
    rw [fLines_nextMinute_h34, if_neg (by rw [lt_i, k_ti (by omega)]; omega)]
  | r + 1, m, k, x1, hk, hm, hx => by
    obtain ⟨m, rfl⟩ : ∃ k, m = k + 1 := ⟨m - 1, by omega⟩
    have bb := ix_toNat (s.1 449 6)
    have lt : cI (k : Int) < s.1 449 6 := by rw [lt_i, k_ti (by omega)]; omega
    have kb : inb (cI (k : Int)) 80 = true := k_in (by omega) (by decide)
    have kx : ix (cI (k : Int)) = k := k_ix (by omega)
    rw [fLines_nextMinute_h34, if_pos lt]
    simp (disch := decide) only [if_pos kb, kx, ix_0, ix_1, ix_2, ix_3, ix_4, ix_5, ix_6, ix_7, ix_8, ix_9, ix_10, ix_11, ix_12, ix_13, ix_14, ix_15, ix_16, ix_17, ix_18, ix_19, ix_20, ix_21, Nat.reduceAdd, wI_c, wI_ne, wL_1, lupd_ne, up1_eq, up1_ne, fLines_nextMinute_b67]
    rw [k_s (by omega)]
    by_cases z : s.1 459 k = cI 2
    · obtain ⟨v, v1, v2⟩ := e_min (s := s) (a := x1) (b := s.1 464 k)
      rw [if_pos z, v1, bd1_some]
      refine nb_C h0 h80 S r m (k + 1) v (by omega) (by omega) ?_
      rw [v2]
      exact hx.more (fun w => by rw [Sbg.s z, or_assoc])
    · rw [if_neg z]
      exact nb_C h0 h80 S r m (k + 1) x1 (by omega) (by omega) (hx.iff (fun w => by rw [Sbg.n z]))
theorem nl_C {s : ev_M} (h0 : 0 ≤ (s.1 449 4).toInt) (h20 : (s.1 449 4).toInt ≤ 20) (g0 : 0 ≤ (s.1 449 6).toInt) (g80 : (s.1 449 6).toInt ≤ 80) : ∀ (r m k : Nat) (x1 : Int32), k + r = ix (s.1 449 4) → r < m → Lst (fun w => w = 2147483647 ∨ Sln s k w) x1.toInt → ∃ v, fLines_nextMinute_h5 s m x1 (cI (k : Int)) = some v ∧ Lst (fun w => (w = 2147483647 ∨ Sln s (ix (s.1 449 4)) w) ∨ Sbg s (ix (s.1 449 6)) w) v.toInt
  | 0, m, k, x1, hk, hm, hx => by
    obtain ⟨m, rfl⟩ : ∃ k, m = k + 1 := ⟨m - 1, by omega⟩
    have bb := ix_toNat (s.1 449 4)
    have b6 := ix_toNat (s.1 449 6)
    rw [fLines_nextMinute_h5, if_neg (by rw [lt_i, k_ti (by omega)]; omega)]
    refine nb_C g0 g80 (fun w => w = 2147483647 ∨ Sln s (ix (s.1 449 4)) w) (ix (s.1 449 6)) 1048576 0 x1 (by omega) (by omega) ?_
    rw [show ix (s.1 449 4) = k by omega]
    exact hx.iff (fun w => ⟨fun q => q.elim id (fun ⟨q, h, _⟩ => absurd h (Nat.not_lt_zero _)), Or.inl⟩)
  | r + 1, m, k, x1, hk, hm, hx => by
    obtain ⟨m, rfl⟩ : ∃ k, m = k + 1 := ⟨m - 1, by omega⟩
    have bb := ix_toNat (s.1 449 4)
    have lt : cI (k : Int) < s.1 449 4 := by rw [lt_i, k_ti (by omega)]; omega
    have kb : inb (cI (k : Int)) 20 = true := k_in (by omega) (by decide)
    have kx : ix (cI (k : Int)) = k := k_ix (by omega)
    obtain ⟨v, v1, v2⟩ := e_min (s := s) (a := x1) (b := s.1 456 k)
    rw [fLines_nextMinute_h5, if_pos lt]
    simp (disch := decide) only [if_pos kb, kx, ix_0, ix_1, ix_2, ix_3, ix_4, ix_5, ix_6, ix_7, ix_8, ix_9, ix_10, ix_11, ix_12, ix_13, ix_14, ix_15, ix_16, ix_17, ix_18, ix_19, ix_20, ix_21, Nat.reduceAdd, wI_c, wI_ne, wL_1, lupd_ne, up1_eq, up1_ne, v1, bd1_some]
    rw [k_s (by omega)]
    refine nl_C h0 h20 g0 g80 r m (k + 1) v (by omega) (by omega) ?_
    rw [v2]
    exact hx.more (fun w => by rw [Sln.s, or_assoc])
theorem nl_M {k : Nat} {s t : ev_M} (hL : RLn k s t) (hT : t.1 549 22 = s.1 15 1) (S : Int → Prop) : ∀ (r m j : Nat) (x3 : Int32), j + r = ix (s.1 449 4) → r < m → Lst (fun w => S w ∨ Sln s j w) x3.toInt → ∃ v, fM_nextMinute_h95 t m x3 (cI (j : Int)) = some v ∧ Lst (fun w => S w ∨ Sln s (ix (s.1 449 4)) w) v.toInt
  | 0, m, j, x3, hk, hm, hx => by
    obtain ⟨m, rfl⟩ : ∃ k, m = k + 1 := ⟨m - 1, by omega⟩
    obtain ⟨⟨l1, l2, l3⟩, -⟩ := id hL
    have bb := ix_toNat (s.1 449 4)
    refine ⟨x3, ?_, by rw [show ix (s.1 449 4) = j by omega]; exact hx⟩
    rw [fM_nextMinute_h95, l1, if_neg (by rw [lt_i, k_ti (by omega)]; omega)]
  | r + 1, m, j, x3, hk, hm, hx => by
    obtain ⟨m, rfl⟩ : ∃ k, m = k + 1 := ⟨m - 1, by omega⟩
    obtain ⟨⟨l1, l2, l3⟩, f1, f2, f3, f4, f5, f6, f7, e1, e2, e3, e4, e5, e6, e7⟩ := id hL
    have bb := ix_toNat (s.1 449 4)
    have lt : cI (j : Int) < s.1 449 4 := by rw [lt_i, k_ti (by omega)]; omega
    have kb : inb (cI (j : Int)) 20 = true := k_in (by omega) (by decide)
    have kx : ix (cI (j : Int)) = j := k_ix (by omega)
    have nle : ¬ s.1 456 j ≤ s.1 15 1 := by rw [le_i]; have := (e6 j (by omega)).1; omega
    have mo := hx.more (S' := fun w => S w ∨ Sln s (j + 1) w) (c := (s.1 456 j).toInt) (fun w => by rw [Sln.s, or_assoc])
    rw [fM_nextMinute_h95, l1, if_pos lt]
    simp (disch := decide) only [if_pos kb, kx, f6 j (by omega), hT, if_neg nle, fM_nextMinute_b139, fM_nextMinute_b140]
    rw [k_s (by omega)]
    by_cases z : s.1 456 j < x3
    · rw [if_pos z]
      rw [lt_i] at z
      refine nl_M hL hT S r m (j + 1) (s.1 456 j) (by omega) (by omega) ?_
      rw [if_neg (by omega)] at mo
      exact mo
    · rw [if_neg z]
      rw [lt_i] at z
      refine nl_M hL hT S r m (j + 1) x3 (by omega) (by omega) ?_
      rw [if_pos (by omega)] at mo
      exact mo
theorem nb_M {k : Nat} {s t : ev_M} (hL : RLn k s t) (hB : RBg s t) (hA : RAv s t) (hT : t.1 549 22 = s.1 15 1) (S : Int → Prop) : ∀ (r m j : Nat) (x3 : Int32), j + r = ix (s.1 449 6) → r < m → Lst (fun w => S w ∨ Sbg s j w) x3.toInt → ∃ v, fM_nextMinute_h29 t m x3 (cI (j : Int)) = some v ∧ Lst (fun w => (S w ∨ Sbg s (ix (s.1 449 6)) w) ∨ Sln s (ix (s.1 449 4)) w) v.toInt
  | 0, m, j, x3, hk, hm, hx => by
    obtain ⟨m, rfl⟩ : ∃ k, m = k + 1 := ⟨m - 1, by omega⟩
    obtain ⟨⟨n1, n2, n3⟩, -⟩ := id hB
    obtain ⟨⟨l1, l2, l3⟩, -⟩ := id hL
    have bb := ix_toNat (s.1 449 6)
    have b4 := ix_toNat (s.1 449 4)
    rw [fM_nextMinute_h29, n1, if_neg (by rw [lt_i, k_ti (by omega)]; omega)]
    refine nl_M hL hT (fun w => S w ∨ Sbg s (ix (s.1 449 6)) w) (ix (s.1 449 4)) 1048576 0 x3 (by omega) (by omega) ?_
    rw [show ix (s.1 449 6) = j by omega]
    exact hx.iff (fun w => ⟨fun q => q.elim id (fun ⟨q, h, _⟩ => absurd h (Nat.not_lt_zero _)), Or.inl⟩)
  | r + 1, m, j, x3, hk, hm, hx => by
    obtain ⟨m, rfl⟩ : ∃ k, m = k + 1 := ⟨m - 1, by omega⟩
    obtain ⟨⟨n1, n2, n3⟩, g1, g2, g3, g4, g5, -⟩ := id hB
    have bb := ix_toNat (s.1 449 6)
    have lt : cI (j : Int) < s.1 449 6 := by rw [lt_i, k_ti (by omega)]; omega
    have kb : inb (cI (j : Int)) 80 = true := k_in (by omega) (by decide)
    have kx : ix (cI (j : Int)) = j := k_ix (by omega)
    have hj : j < ix (s.1 449 6) := by omega
    rw [fM_nextMinute_h29, n1, if_pos lt]
    simp (disch := decide) only [if_pos kb, kx, g1 j hj, g4 j hj, hT, fM_nextMinute_b84, fM_nextMinute_b85]
    rw [k_s (by omega)]
    by_cases u : s.1 459 j = cI 2
    · have nle : ¬ s.1 464 j ≤ s.1 15 1 := by rw [le_i]; have := (hA.1 j hj u).1; omega
      have mo := hx.more (S' := fun w => S w ∨ Sbg s (j + 1) w) (c := (s.1 464 j).toInt) (fun w => by rw [Sbg.s u, or_assoc])
      rw [if_pos u, if_neg nle]
      by_cases z : s.1 464 j < x3
      · rw [if_pos z]
        rw [lt_i] at z
        refine nb_M hL hB hA hT S r m (j + 1) (s.1 464 j) (by omega) (by omega) ?_
        rw [if_neg (by omega)] at mo
        exact mo
      · rw [if_neg z]
        rw [lt_i] at z
        refine nb_M hL hB hA hT S r m (j + 1) x3 (by omega) (by omega) ?_
        rw [if_pos (by omega)] at mo
        exact mo
    · rw [if_neg u]
      exact nb_M hL hB hA hT S r m (j + 1) x3 (by omega) (by omega) (hx.iff (fun w => by rw [Sbg.n u]))
/-- the minute to which the clock leaps: class and reference -/
theorem nm_ok {k : Nat} {s t : ev_M} {x2 v4 : Int32} (hL : RLn k s t) (hB : RBg s t) (hA : RAv s t) (ht : RTim s t) (hx : (s.1 15 1).toInt < x2.toInt) (h4 : v4 = (s.1 15 1 / cI 1440 + cI 1) * cI 1440) (h5 : (s.1 15 1).toInt < v4.toInt) : ∃ v5 v6 v7, fLines_nextMinute s = some v5 ∧ fMath_min s v4 v5 = some v6 ∧ fMath_min s x2 v6 = some v7 ∧ fM_nextMinute t x2 = some v7 ∧ (s.1 15 1).toInt < v7.toInt ∧ v7.toInt ≤ x2.toInt ∧ v7.toInt ≤ v4.toInt ∧ (∀ q, q < ix (s.1 449 4) → v7.toInt ≤ (s.1 456 q).toInt) ∧ (∀ q, q < ix (s.1 449 6) → s.1 459 q = cI 2 → v7.toInt ≤ (s.1 464 q).toInt) := by
  obtain ⟨⟨n1, n2, n3⟩, -⟩ := id hB
  obtain ⟨⟨l1, l2, l3⟩, -, -, -, -, -, -, -, -, -, -, -, -, e6, -⟩ := id hL
  obtain ⟨⟨c1, c2, c3⟩, -⟩ := id ht
  have bb := ix_toNat (s.1 449 6)
  have b4 := ix_toNat (s.1 449 4)
  obtain ⟨v5, a1, a2⟩ := nl_C (s := s) l2 l3 n2 n3 (ix (s.1 449 4)) 1048576 0 (cI 2147483647) (by omega) (by omega) ⟨Or.inl rfl, fun w hw => by
    rcases hw with h | ⟨q, h, -⟩
    · rw [h]; exact Int.le_refl _
    · exact absurd h (Nat.not_lt_zero _)⟩
  obtain ⟨v6, d1, d2⟩ := e_min (s := s) (a := v4) (b := v5)
  obtain ⟨v7, d3, d4⟩ := e_min (s := s) (a := x2) (b := v6)
  obtain ⟨y, y1⟩ : ∃ y : Int32, y = if v4 < x2 then v4 else x2 := ⟨_, rfl⟩
  have y2 : Lst (fun w => (w = x2.toInt ∨ w = v4.toInt) ∨ Sbg s 0 w) y.toInt := by
    rw [y1]
    by_cases z : v4 < x2
    · rw [if_pos z]
      rw [lt_i] at z
      refine ⟨Or.inl (Or.inr rfl), fun w hw => ?_⟩
      rcases hw with (h | h) | ⟨q, h, -⟩
      · omega
      · omega
      · exact absurd h (Nat.not_lt_zero _)
    · rw [if_neg z]
      rw [lt_i] at z
      refine ⟨Or.inl (Or.inl rfl), fun w hw => ?_⟩
      rcases hw with (h | h) | ⟨q, h, -⟩
      · omega
      · omega
      · exact absurd h (Nat.not_lt_zero _)
  obtain ⟨v, m1, m2⟩ := nb_M hL hB hA c1 (fun w => w = x2.toInt ∨ w = v4.toInt) (ix (s.1 449 6)) 1048576 0 y (by omega) (by omega) y2
  have x2h := Int32.toInt_lt x2
  have L7 : Lst (fun w => (((w = 2147483647 ∨ Sln s (ix (s.1 449 4)) w) ∨ Sbg s (ix (s.1 449 6)) w) ∨ w = v4.toInt) ∨ w = x2.toInt) v7.toInt := by
    have e := (a2.more (S' := fun w => ((w = 2147483647 ∨ Sln s (ix (s.1 449 4)) w) ∨ Sbg s (ix (s.1 449 6)) w) ∨ w = v4.toInt) (c := v4.toInt) (fun w => Iff.rfl))
    have e6' : v6.toInt = if v5.toInt ≤ v4.toInt then v5.toInt else v4.toInt := by
      rw [d2]; split <;> split <;> omega
    rw [← e6'] at e
    have e2 := e.more (S' := fun w => (((w = 2147483647 ∨ Sln s (ix (s.1 449 4)) w) ∨ Sbg s (ix (s.1 449 6)) w) ∨ w = v4.toInt) ∨ w = x2.toInt) (c := x2.toInt) (fun w => Iff.rfl)
    have e7' : v7.toInt = if v6.toInt ≤ x2.toInt then v6.toInt else x2.toInt := by
      rw [d4]; split <;> split <;> omega
    rw [← e7'] at e2
    exact e2
  have ev : v7.toInt = v.toInt := L7.eq m2 (fun w hw => by
    rcases hw with (((h | h) | h) | h) | h
    · exact ⟨x2.toInt, Or.inl (Or.inl (Or.inl rfl)), by omega⟩
    · exact ⟨w, Or.inr h, Int.le_refl _⟩
    · exact ⟨w, Or.inl (Or.inr h), Int.le_refl _⟩
    · exact ⟨w, Or.inl (Or.inl (Or.inr h)), Int.le_refl _⟩
    · exact ⟨w, Or.inl (Or.inl (Or.inl h)), Int.le_refl _⟩) (fun w hw => by
    rcases hw with ((h | h) | h) | h
    · exact ⟨w, Or.inr h, Int.le_refl _⟩
    · exact ⟨w, Or.inl (Or.inr h), Int.le_refl _⟩
    · exact ⟨w, Or.inl (Or.inl (Or.inr h)), Int.le_refl _⟩
    · exact ⟨w, Or.inl (Or.inl (Or.inl (Or.inr h))), Int.le_refl _⟩)
  obtain rfl : v7 = v := eq_i.mpr ev
  refine ⟨v5, v6, v7, a1, d1, d3, ?_, ?_, L7.2 _ (Or.inr rfl), L7.2 _ (Or.inl (Or.inr rfl)), fun q h => L7.2 _ (Or.inl (Or.inl (Or.inl (Or.inr ⟨q, h, rfl⟩)))), fun q h h2 => L7.2 _ (Or.inl (Or.inl (Or.inr ⟨q, h, h2, rfl⟩)))⟩
  · unfold fM_nextMinute
    rw [if_neg (show ¬ cI 1440 = 0 by decide), ltI_eq, c1, ← h4]
    simp only [fM_nextMinute_b25]
    by_cases z : v4 < x2
    · rw [if_pos z]
      rw [if_pos z] at y1
      rw [← y1]; exact m1
    · rw [if_neg z]
      rw [if_neg z] at y1
      rw [← y1]; exact m1
  · rcases L7.1 with (((h | ⟨q, q1, q2⟩) | ⟨q, q1, q2, q3⟩) | h) | h
    · rw [h]; omega
    · have := (e6 q q1).1; omega
    · have := (hA.1 q q1 q2).1; omega
    · omega
    · omega
