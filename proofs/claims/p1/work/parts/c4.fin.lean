/-! ===== what the law needs of one call on a fresh object ===== -/
theorem p1_fin {xs : Nat → Int32} {L : Nat} (hL : L ≤ 7) : ∀ y, x_init xs L y → ∃ n q, fLaw_h23 n y (cI 0) = some (q, cI 1) ∧ q.2.2.2.2.1 ≤ 600002 ∧ q.2.2.2.2.2 ≤ 7302232 := fun y hy => by
  obtain ⟨n, q, e, c1, c2⟩ := p1_main hL y hy
  exact ⟨n, q, e, by omega, by omega⟩
