theorem l3_main {xs : Nat → Int32} {L : Nat} (hL : L ≤ 448) : ∀ y, x_init xs L y → ∃ n q, fLaw_h23 n y (cI 0) = some (q, cI 1) ∧ q.2.2.2.2.1 ≤ 600128 ∧ q.2.2.2.2.2 ≤ 7301098 := fun y hy => by
  have h := x_I0 hy
  have h21 : y.1 1021 0 = cI (L : Int) := by rw [h.2.2.2.1 1021 (by decide)]; rfl
  have P0 : II L 0 y := I0_II h h21
  obtain ⟨q, eq, e1, j, j1, -, hj⟩ := law_loop (I := II L) (L := L) hL (fun i m hm => hm.2.1) (fun i m hi hm => ⟨lcs hm (by omega), hm.up⟩) 70 0 y (cI 0) rfl rfl P0
  obtain ⟨q1, q2⟩ := q
  subst e1
  obtain ⟨-, -, b1, b2⟩ := hj
  have b1 : q1.2.2.2.2.1 ≤ 2000 + 4 * j := b1
  have b2 : q1.2.2.2.2.2 ≤ 4000000 + 64 * j := b2
  exact ⟨_, q1, eq, by omega, by omega⟩
