/-! ===== LEVEL 3: a row of stops is sorted, whole ===== -/
theorem insP_sorted {L : List Nat} {p x : Nat} (hp : L.Pairwise (· < ·)) (hn : x ∉ L) (q4 : ∀ q (h : q < L.length), p ≤ q → x < L[q]) (q5 : ∀ (h : 0 < p) (h2 : p - 1 < L.length), L[p - 1] ≤ x) (hl : p ≤ L.length) : (insP L p x).Pairwise (· < ·) := by
  have pg := List.pairwise_iff_getElem.mp hp
  unfold insP
  have e := List.take_append_drop p L
  rw [← e] at hp
  obtain ⟨a1, a2, a3⟩ := List.pairwise_append.mp hp
  refine List.pairwise_append.mpr ⟨a1, List.pairwise_cons.mpr ⟨fun y hy => ?_, a2⟩, fun y hy z hz => ?_⟩
  · obtain ⟨q, hq, e2⟩ := List.mem_iff_getElem.mp hy
    rw [List.getElem_drop] at e2
    rw [← e2]
    rw [List.length_drop] at hq
    exact q4 _ (by omega) (by omega)
  · rcases List.mem_cons.mp hz with w | w
    · rw [w]
      obtain ⟨q, hq, e2⟩ := List.mem_iff_getElem.mp hy
      rw [List.getElem_take] at e2
      rw [List.length_take] at hq
      have q5' := q5 (by omega) (by omega)
      have ne : y ≠ x := fun u => hn (by rw [← u, ← e2]; exact List.getElem_mem _)
      by_cases v : q = p - 1
      · subst v; rw [e2] at q5'; omega
      · have := pg q (p - 1) (by omega) (by omega) (by omega)
        rw [e2] at this
        omega
    · exact a3 y hy z w
/-- the row in rising order -/
theorem stp_lp {i n : Nat} {R : Nat → Nat} {x1 x2 : Int32} (hi : i < 12) (hn : n ≤ 20) (h2 : x2.toInt = (n : Int)) (hR : ∀ q, q < n → R q < 300) (hJ : ∀ q q', q < q' → q' < n → R q ≠ R q') : ∀ (r m k : Nat) (L : List Nat) (s : ev_M) (x4 : Int32), k + r = n → x4.toInt = (k : Int) → r < m → L.length = k → (∀ q (h : q < L.length), s.1 (146 + i) q = cI ((L[q] : Nat) : Int)) → (∀ q, k ≤ q → q < n → s.1 (146 + i) q = cI ((R q : Nat) : Int)) → L.Pairwise (· < ·) → (∀ y, y ∈ L ↔ ∃ q, q < k ∧ y = R q) → ∃ (P : List Nat) (s' : ev_M), fRounds_arrangeStops_h43 m s x1 x2 i x4 = (if x2 ≤ cI 8 then bd1 (fRounds_goLeastWay s' x1) fun s5 => fRounds_arrangeStops_b122 s5 x1 else bd1 (fRounds_goToNearest s' x1) fun s6 => fRounds_arrangeStops_b122 s6 x1) ∧ P.length = n ∧ (∀ q (h : q < P.length), s'.1 (146 + i) q = cI ((P[q] : Nat) : Int)) ∧ P.Pairwise (· < ·) ∧ (∀ y, y ∈ P ↔ ∃ q, q < n ∧ y = R q) ∧ (∀ c, c ≠ 146 + i → s'.1 c = s.1 c) ∧ fr [(146, 157, 0)] s s'
  | 0, m, k, L, s, x4, hk, hx, hm, hl, h3, h4, h5, h6 => by
    obtain ⟨m, rfl⟩ : ∃ k, m = k + 1 := ⟨m - 1, by omega⟩
    have hj : ¬ x4 < x2 := by rw [lt_i]; omega
    have e : k = n := by omega
    subst e
    refine ⟨L, s, ?_, hl, h3, h5, h6, fun _ _ => rfl, fr.rf⟩
    rw [fRounds_arrangeStops_h43, if_neg hj]
  | r + 1, m, k, L, s, x4, hk, hx, hm, hl, h3, h4, h5, h6 => by
    obtain ⟨m, rfl⟩ : ∃ k, m = k + 1 := ⟨m - 1, by omega⟩
    have hj : x4 < x2 := by rw [lt_i]; omega
    have hb : inb x4 20 = true := inb_iff.mpr ⟨by omega, by omega⟩
    have ex : ix x4 = k := by rw [ix_toNat]; omega
    have et : (x4 + cI 1).toInt = ((k + 1 : Nat) : Int) := by rw [inc_i (by omega)]; omega
    have hv := h4 k (Nat.le_refl _) (by omega)
    have nm : R k ∉ L := fun z => by
      obtain ⟨q, q1, q2⟩ := (h6 _).mp z
      exact hJ q k q1 (by omega) q2.symm
    obtain ⟨p, s1, a1, a2, a3, a4, a5, a6, a7, a8⟩ := stp_in (x := R k) (i := i) (L := L) (x1 := x1) (x2 := x2) (x4 := x4) (kk := fRounds_arrangeStops_h43 m) hi (by omega) (hR k (by omega)) (fun y hy => by
      obtain ⟨q, q1, q2⟩ := (h6 y).mp hy
      rw [q2]; exact hR q (by omega)) L.length 1048576 s x4 (by omega) (Nat.le_refl _) (by omega) (Shf.top h3) (fun q h hq => absurd h (by omega))
    obtain ⟨P, s', b1, b2, b3, b4, b5, b6, b7⟩ := stp_lp (i := i) (n := n) (R := R) (x1 := x1) (x2 := x2) hi hn h2 hR hJ r m (k + 1) (insP L p (R k)) s1 (x4 + cI 1) (by omega) et (by omega) (by rw [insP_len, hl]) a3 (fun q hq hq2 => by rw [a6 q (by omega)]; exact h4 q (by omega) hq2) (insP_sorted h5 nm a4 a5 a1) (fun y => by
      rw [insP_mem, h6]
      constructor
      · rintro (z | ⟨q, q1, q2⟩)
        · exact ⟨k, by omega, z⟩
        · exact ⟨q, by omega, q2⟩
      · rintro ⟨q, q1, q2⟩
        by_cases z : q = k
        · exact Or.inl (by rw [q2, z])
        · exact Or.inr ⟨q, by omega, q2⟩)
    refine ⟨P, s', ?_, b2, b3, b4, b5, fun c hc => by rw [b6 c hc, a7 c hc], a8.tr b7⟩
    rw [fRounds_arrangeStops_h43, if_pos hj, if_pos hb, ltI_eq, ex, hv, a2]
    exact b1
