/-! ===== LEVEL 3: the act arrange ===== -/
theorem sorted_eq {l l' : List Nat} (h : l.Pairwise (· < ·)) (h' : l'.Pairwise (· < ·)) (e : ∀ x, x ∈ l' ↔ x ∈ l) : l' = l := by
  have n : l.Nodup := h.imp (fun {x y} hab => Nat.ne_of_lt hab)
  have n' : l'.Nodup := h'.imp (fun {x y} hab => Nat.ne_of_lt hab)
  exact List.Perm.eq_of_pairwise (le := (· < ·)) (fun a b _ _ h1 h2 => absurd h1 (Nat.not_lt.mpr (Nat.le_of_lt h2))) h' h ((List.perm_ext_iff_of_nodup n' n).mpr e)
theorem surj_n {n : Nat} {o : Nat → Nat} (ho : ∀ q, q < n → o q < n) (hi : ∀ q q', q < q' → q' < n → o q ≠ o q') : ∀ k, k < n → ∃ q, q < n ∧ o q = k := by
  intro k hk
  apply Classical.byContradiction
  intro hc
  have nd : ((List.range n).map o).Nodup := by
    refine List.pairwise_map.mpr ?_
    refine List.Pairwise.imp_of_mem (fun {a b} _ hb hab => ?_) List.pairwise_lt_range
    exact hi a b hab (List.mem_range.mp hb)
  have nk : k ∉ (List.range n).map o := fun h => by
    obtain ⟨q, q1, q2⟩ := List.mem_map.mp h
    exact hc ⟨q, List.mem_range.mp q1, q2⟩
  have sub : (k :: (List.range n).map o) ⊆ List.range n := fun x hx => by
    rcases List.mem_cons.mp hx with w | w
    · rw [w]; exact List.mem_range.mpr hk
    · obtain ⟨q, q1, q2⟩ := List.mem_map.mp w
      rw [← q2]; exact List.mem_range.mpr (ho q (List.mem_range.mp q1))
  have := List.Nodup.length_le_of_subset (List.nodup_cons.mpr ⟨nk, nd⟩) sub
  rw [List.length_cons, List.length_map, List.length_range] at this
  omega
theorem RSp.arr {s t s' t' : ev_M} {a : Int32} {n : Nat} {P o : Nat → Nat} (h : RSp s t) (h3 : (s.1 138 3).toInt ≤ 12) (ha : Has a (s.1 138 3)) (hn : s.1 143 (ix a) = cI (n : Int)) (n20 : n ≤ 20) (h9 : (s.1 30 9).toInt ≤ 120) (hP1 : ∀ k, k < n → P k < ix (s.1 30 9) ∧ s.1 158 (P k) = a) (hP2 : ∀ p, p < ix (s.1 30 9) → s.1 158 p = a → ∃ k, k < n ∧ p = P k) (ho : ∀ q, q < n → o q < n) (hs : ∀ k, k < n → ∃ q, q < n ∧ o q = k) (e1 : s'.1 138 = s.1 138) (e2 : s'.1 30 = s.1 30) (e3 : s'.1 143 = s.1 143) (e4 : s'.1 158 = s.1 158) (e5 : ∀ q, q < n → s'.1 (146 + ix a) q = cI (P (o q) : Int)) (e5' : ∀ r, r < 12 → r ≠ ix a → s'.1 (146 + r) = s.1 (146 + r)) (e6 : t'.1 571 = t.1 571) (e7 : ∀ q, q < n → t'.1 572 (P (o q)) = cI (q : Int)) (e8 : ∀ i, (∀ q, q < n → i ≠ P (o q)) → t'.1 572 i = t.1 572 i) : RSp s' t' := by
  obtain ⟨q0, q1, q2, q3, q4, q5⟩ := h
  have r1 := ha.ix
  have n12 : ix (s.1 138 3) ≤ 12 := by rw [ix_toNat]; omega
  have n120 : ix (s.1 30 9) ≤ 120 := by rw [ix_toNat]; omega
  have en : ix (s.1 143 (ix a)) = n := by rw [hn, k_ix (by omega)]
  have rc : cI ((ix a : Nat) : Int) = a := cI_ix ha.1
  unfold RSp
  rw [e1, e2, e3, e4, e6]
  refine ⟨q0, q1, q2, q3, fun p hp => ?_, fun r k hr hk => ?_⟩
  · by_cases z : s.1 158 p = a
    · obtain ⟨k, k1, k2⟩ := hP2 p hp z
      obtain ⟨q, g1, g2⟩ := hs k k1
      have w := e7 q g1
      rw [g2, ← k2] at w
      refine Or.inr ⟨by rw [z]; exact ha, ?_, ?_⟩
      · rw [w, z, hn]
        exact ⟨by rw [k_ti (by omega)]; omega, by rw [k_ti (by omega), k_ti (by omega)]; omega⟩
      · rw [w, z, k_ix (by omega), rows_at (by omega), e5 q g1, g2, ← k2]
    · have nm : ∀ q, q < n → p ≠ P (o q) := fun q hq w => z (by rw [w]; exact (hP1 _ (ho q hq)).2)
      rw [e8 p nm]
      rcases q4 p hp with w | ⟨w1, w2, w3⟩
      · exact Or.inl w
      · refine Or.inr ⟨w1, w2, ?_⟩
        have w4 := w1.ix
        have ne : ix (s.1 158 p) ≠ ix a := fun v => z ((ix_eq w1.1 ha.1).mp v)
        rw [rows_at (by omega), e5' _ (by omega) ne, ← rows_at (n := 12) (by omega)]
        exact w3
  · by_cases z : r = ix a
    · subst z
      rw [en] at hk
      obtain ⟨g1, g2⟩ := hP1 _ (ho k hk)
      rw [rows_at (by omega), e5 k hk, k_ix (by omega), e7 k hk, rc]
      exact ⟨⟨by rw [k_ti (by omega)]; omega, by rw [k_ti (by omega)]; rw [ix_toNat] at g1; omega⟩, g2, rfl⟩
    · obtain ⟨w1, w2, w3⟩ := q5 r k hr hk
      rw [rows_at (by omega)] at w1 w2 w3
      rw [rows_at (by omega), e5' r (by omega) z]
      refine ⟨w1, w2, ?_⟩
      rw [e8 _ (fun q hq v => ?_)]
      · exact w3
      · have g := (hP1 _ (ho q hq)).2
        rw [← v, w2] at g
        rw [← g, k_ix (by omega)] at z
        exact z rfl
theorem pX_cg {s s' : ev_M} {p : Nat} (h : ∀ c, c < 146 → s'.1 c = s.1 c) : pX s' p = pX s p ∧ pY s' p = pY s p := by
  unfold pX pY
  rw [h 33 (by decide), h 34 (by decide), h 35 (by decide), h 44 (by decide), h 45 (by decide)]
  exact ⟨rfl, rfl⟩
theorem st_all {s : ev_M} {a : Int32} {n : Nat} {R : Nat → Nat} (hi : ix a < 12) (hn : n ≤ 20) (hR : ∀ q, q < n → R q < 300) (hJ : ∀ q q', q < q' → q' < n → R q ≠ R q') (h4 : ∀ q, q < n → s.1 (146 + ix a) q = cI (R q : Int)) : ∃ (P : List Nat) (s' : ev_M), fRounds_arrangeStops_h43 1048576 s a (cI (n : Int)) (ix a) (cI 1) = (if cI (n : Int) ≤ cI 8 then bd1 (fRounds_goLeastWay s' a) fun s5 => fRounds_arrangeStops_b122 s5 a else bd1 (fRounds_goToNearest s' a) fun s6 => fRounds_arrangeStops_b122 s6 a) ∧ P.length = n ∧ (∀ q (h : q < P.length), s'.1 (146 + ix a) q = cI ((P[q] : Nat) : Int)) ∧ P.Pairwise (· < ·) ∧ (∀ y, y ∈ P ↔ ∃ q, q < n ∧ y = R q) ∧ (∀ c, c ≠ 146 + ix a → s'.1 c = s.1 c) ∧ fr [(146, 157, 0)] s s' := by
  by_cases z : n = 0
  · subst z
    refine ⟨[], s, ?_, rfl, fun q h => absurd h (Nat.not_lt_zero _), List.Pairwise.nil, fun y => ⟨fun h => (by cases h), fun ⟨q, h, _⟩ => absurd h (Nat.not_lt_zero _)⟩, fun _ _ => rfl, fr.rf⟩
    show fRounds_arrangeStops_h43 (1048575 + 1) s a (cI ((0 : Nat) : Int)) (ix a) (cI 1) = _
    rw [fRounds_arrangeStops_h43, if_neg (show ¬ cI 1 < cI ((0 : Nat) : Int) by decide)]
  · refine stp_lp (x1 := a) (x2 := cI (n : Int)) hi hn (k_ti (by omega)) hR hJ (n - 1) 1048576 1 [R 0] s (cI 1) (by omega) rfl (by omega) rfl (fun q h => ?_) (fun q h1 h2 => h4 q h2) (List.pairwise_singleton _ _) (fun y => ?_)
    · have : q = 0 := by simpa using h
      subst this
      exact h4 0 (by omega)
    · rw [List.mem_singleton]
      exact ⟨fun h => ⟨0, by decide, h⟩, fun ⟨q, h1, h2⟩ => by rw [h2, show q = 0 by omega]⟩
