/-! ===== LEVEL 3: the sheet: numbers read ===== -/
/-- the nearest digits: the class's, the reference's -/
def Dg (N : Nat) (s t : ev_M) : Prop := N ≤ 200 ∧ ∀ q, q < N → fM_nearest t (t.1 582 q) (cI 0) (cI 10) = some (s.1 73 q) ∧ (s.1 73 q = cI (-1) ∨ ∃ j : Nat, j < 10 ∧ s.1 73 q = cI (j : Int))
theorem nm_1 {N e : Nat} {s t : ev_M} {a1 x3 : Int32} (D : Dg N s t) (he : e ≤ N) : ∀ (r m x : Nat), x + r = e → r < m → fM_numberOf_h6 t m a1 (cI (e : Int)) x3 (cI (-1)) (cI (x : Int)) = some (cI (-1))
  | 0, m, x, hx, hm => by
    obtain ⟨m, rfl⟩ : ∃ k, m = k + 1 := ⟨m - 1, by omega⟩
    have := D.1
    rw [fM_numberOf_h6, if_neg (by rw [q_lt (by omega) (by omega)]; omega)]
  | r + 1, m, x, hx, hm => by
    obtain ⟨m, rfl⟩ : ∃ k, m = k + 1 := ⟨m - 1, by omega⟩
    have := D.1
    have ih := nm_1 (a1 := a1) (x3 := x3) D he r m (x + 1) (by omega) (by omega)
    rw [fM_numberOf_h6, if_pos ((q_lt (by omega) (by omega)).mpr (by omega)), if_pos (q_in (by omega) (by decide)), q_ix (by omega), (D.2 x (by omega)).1, bd1_some]
    unfold fM_numberOf_b47 fM_numberOf_b59
    rw [q_s (by omega), if_pos (show cI (-1) = cI (-1) from rfl), ite_self]
    exact ih
theorem nu_lp {N e : Nat} {s t : ev_M} {a1 x3 : Int32} (D : Dg N s t) (he : e ≤ N) (hc : cI (e : Int) - a1 ≤ x3) : ∀ (r m m' x V : Nat), x + r = e → r < m → r < m' → (V + 1) * 10 ^ r ≤ 100000 → ∃ out : Int32, fSheet_numberOf_h19 s m (cI (e : Int)) (cI (V : Int)) (cI (x : Int)) = some out ∧ fM_numberOf_h6 t m' a1 (cI (e : Int)) x3 (cI (V : Int)) (cI (x : Int)) = some out ∧ (out = cI (-1) ∨ ∃ v : Nat, v < 100000 ∧ out = cI (v : Int))
  | 0, m, m', x, V, hx, hm, hm', hV => by
    obtain ⟨m, rfl⟩ : ∃ k, m = k + 1 := ⟨m - 1, by omega⟩
    obtain ⟨m', rfl⟩ : ∃ k, m' = k + 1 := ⟨m' - 1, by omega⟩
    have := D.1
    have nl : ¬ cI (x : Int) < cI (e : Int) := by rw [q_lt (by omega) (by omega)]; omega
    rw [Nat.pow_zero, Nat.mul_one] at hV
    refine ⟨cI (V : Int), ?_, ?_, Or.inr ⟨V, by omega, rfl⟩⟩
    · rw [fSheet_numberOf_h19, if_neg nl]
    · rw [fM_numberOf_h6, if_neg nl]
  | r + 1, m, m', x, V, hx, hm, hm', hV => by
    obtain ⟨m, rfl⟩ : ∃ k, m = k + 1 := ⟨m - 1, by omega⟩
    obtain ⟨m', rfl⟩ : ∃ k, m' = k + 1 := ⟨m' - 1, by omega⟩
    have := D.1
    have lt : cI (x : Int) < cI (e : Int) := (q_lt (by omega) (by omega)).mpr (by omega)
    have xb : inb (cI (x : Int)) 200 = true := q_in (by omega) (by decide)
    have xx : ix (cI (x : Int)) = x := q_ix (by omega)
    obtain ⟨d1, d2⟩ := D.2 x (by omega)
    have p1 : 1 ≤ 10 ^ r := Nat.pow_pos (by decide)
    have hV2 : (V + 1) * 10 * 10 ^ r ≤ 100000 := by rw [Nat.mul_assoc, ← Nat.pow_succ']; exact hV
    rcases d2 with u | ⟨j, j1, u⟩
    · refine ⟨cI (-1), ?_, ?_, Or.inl rfl⟩
      · rw [fSheet_numberOf_h19, if_pos lt, if_pos xb, xx, show 68 + ix (cI 5) = 73 from rfl, if_pos u]
      · rw [fM_numberOf_h6, if_pos lt, if_pos xb, xx, d1, bd1_some, if_pos u]
        unfold fM_numberOf_b47 fM_numberOf_b59
        rw [q_s (by omega)]
        exact nm_1 D he r m' (x + 1) (by omega) (by omega)
    · have k1 : (10 * V + j + 1) * 10 ^ r ≤ 100000 := Nat.le_trans (Nat.mul_le_mul_right _ (by omega)) hV2
      have k2 : 10 * V + j + 1 ≤ (10 * V + j + 1) * 10 ^ r := Nat.le_mul_of_pos_right _ p1
      have e10 : (cI 10).toInt = 10 := rfl
      have mv : (cI 10 * cI (V : Int)).toInt = 10 * (V : Int) := by rw [mul_toInt (by rw [e10, q_ti (by omega)]; omega) (by rw [e10, q_ti (by omega)]; omega), e10, q_ti (by omega)]
      have val : cI 10 * cI (V : Int) + cI (j : Int) = cI ((10 * V + j : Nat) : Int) := by
        rw [eq_i, add_b (by rw [mv, q_ti (by omega)]; omega) (by rw [mv, q_ti (by omega)]; omega), mv, q_ti (by omega), q_ti (by omega)]; omega
      obtain ⟨out, o1, o2, o3⟩ := nu_lp D he hc r m m' (x + 1) (10 * V + j) (by omega) (by omega) (by omega) k1
      have nj : ¬ s.1 73 x = cI (-1) := by rw [u]; exact m1_ne (by omega)
      refine ⟨out, ?_, ?_, o3⟩
      · rw [fSheet_numberOf_h19, if_pos lt, if_pos xb, xx, show 68 + ix (cI 5) = 73 from rfl, if_neg nj, if_pos xb, ltI_eq, u, Int32.mul_comm, val, q_s (by omega)]
        exact o1
      · rw [fM_numberOf_h6, if_pos lt, if_pos xb, xx, d1, bd1_some, if_neg nj, if_neg (m1_ne (by omega)), if_pos hc]
        unfold fM_numberOf_b59
        rw [u, val, q_s (by omega)]
        exact o2
