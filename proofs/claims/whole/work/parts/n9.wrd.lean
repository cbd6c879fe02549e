/-! ===== LEVEL 3: the sheet: where words begin and end ===== -/
/-- the lines and boxes, as RSh has them, with names -/
def ShB (L : Nat) (F : Nat → Nat) (s t : ev_M) : Prop := L ≤ 10 ∧ (∀ l, l < L → F l < F (l + 1)) ∧ F L ≤ 200 ∧ t.1 549 51 = cI (L : Int) ∧ (∀ l, l ≤ L → t.1 577 l = cI (F l : Int)) ∧ ∀ q, q < F L → (∃ l, l < L ∧ q = F l) ∧ s.1 75 q = cI 1 ∨ (¬ ∃ l, l < L ∧ q = F l) ∧ 0 < q ∧ s.1 75 q = if cI 5 * (t.1 578 q - t.1 578 (q - 1) - t.1 580 (q - 1)) < cI 2 * t.1 581 (q - 1) then cI 0 else cI 1
theorem F_mo {L : Nat} {F : Nat → Nat} (h : ∀ l, l < L → F l < F (l + 1)) {a : Nat} : ∀ b, a ≤ b → b ≤ L → F a ≤ F b
  | 0, h1, _ => by rw [Nat.le_zero.mp h1]; exact Nat.le_refl _
  | b + 1, h1, h2 => by
    by_cases z : a = b + 1
    · rw [z]; exact Nat.le_refl _
    · have := F_mo h (a := a) b (by omega) (by omega)
      have := h b (by omega)
      omega
theorem bw_ok {L l q : Nat} {F : Nat → Nat} {s t : ev_M} (B : ShB L F s t) (hl : l < L) (h1 : F l ≤ q) (h2 : q < F (l + 1)) : fM_beginsWord t (cI (q : Int)) (cI (F l : Int)) = some (cI 1) ∧ s.1 75 q = cI 1 ∨ fM_beginsWord t (cI (q : Int)) (cI (F l : Int)) = some (cI 0) ∧ s.1 75 q = cI 0 := by
  obtain ⟨b1, b2, b3, b4, b5, b6⟩ := B
  have m1 := F_mo b2 (a := l + 1) L hl (Nat.le_refl _)
  by_cases z : q = F l
  · have e : fM_beginsWord t (cI (q : Int)) (cI (F l : Int)) = some (cI 1) := by
      unfold fM_beginsWord
      rw [if_pos (by rw [z])]
      rfl
    rcases b6 q (by omega) with ⟨-, u⟩ | ⟨u, -, -⟩
    · exact Or.inl ⟨e, u⟩
    · exact absurd ⟨l, hl, z⟩ u
  · have nx : ¬ ∃ l, l < L ∧ q = F l := by
      rintro ⟨k, k1, k2⟩
      by_cases y : k ≤ l
      · have := F_mo b2 (a := k) l y (by omega)
        omega
      · have := F_mo b2 (a := l + 1) k (by omega) (by omega)
        omega
    have qb : inb (cI (q : Int)) 200 = true := q_in (by omega) (by decide)
    have qx : ix (cI (q : Int)) = q := q_ix (by omega)
    have e1 : cI (q : Int) - cI 1 = cI ((q - 1 : Nat) : Int) := q_sb (b := 1) (by omega) (by omega)
    have pb : inb (cI ((q - 1 : Nat) : Int)) 200 = true := q_in (by omega) (by decide)
    have px : ix (cI ((q - 1 : Nat) : Int)) = q - 1 := q_ix (by omega)
    rcases b6 q (by omega) with ⟨u, -⟩ | ⟨-, -, u⟩
    · exact absurd u nx
    · unfold fM_beginsWord
      rw [if_neg (fun v => z (by rw [eq_i, q_ti (by omega), q_ti (by omega)] at v; omega)), if_pos qb, e1, if_pos pb, if_pos pb, if_pos pb, qx, px, u]
      by_cases y : cI 5 * (t.1 578 q - t.1 578 (q - 1) - t.1 580 (q - 1)) < cI 2 * t.1 581 (q - 1)
      · rw [if_pos y, if_pos y]; exact Or.inr ⟨rfl, rfl⟩
      · rw [if_neg y, if_neg y]; exact Or.inl ⟨rfl, rfl⟩
/-- the first word of the last line ends -/
theorem we_ok {l : Nat} {F : Nat → Nat} {s t : ev_M} (B : ShB (l + 1) F s t) : ∀ (r m m' v : Nat), v + r = F (l + 1) → r < m → r < m' → F l < v → ∃ v' : Nat, v ≤ v' ∧ v' ≤ F (l + 1) ∧ fSheet_wordEnd_h4 s m (cI (F (l + 1) : Int)) (cI (v : Int)) = some (cI (v' : Int)) ∧ fM_readAddress_h31 m' t (cI (F l : Int)) (cI (v : Int)) = fM_readAddress_b59 t (cI (F l : Int)) (cI (v' : Int)) := by
  intro r
  have B0 := B
  obtain ⟨b1, b2, b3, b4, b5, b6⟩ := B
  have Lb : inb (cI ((l + 1 : Nat) : Int)) 11 = true := q_in (by omega) (by decide)
  have Lx : ix (cI ((l + 1 : Nat) : Int)) = l + 1 := q_ix (by omega)
  induction r with
  | zero =>
    intro m m' v hv hm hm' hl
    obtain ⟨m, rfl⟩ : ∃ k, m = k + 1 := ⟨m - 1, by omega⟩
    obtain ⟨m', rfl⟩ : ∃ k, m' = k + 1 := ⟨m' - 1, by omega⟩
    have nl : ¬ cI (v : Int) < cI (F (l + 1) : Int) := by rw [q_lt (by omega) (by omega)]; omega
    refine ⟨v, Nat.le_refl _, by omega, ?_, ?_⟩
    · rw [fSheet_wordEnd_h4, if_neg nl]
    · rw [fM_readAddress_h31, b4, if_pos Lb, Lx, b5 (l + 1) (Nat.le_refl _), if_neg nl]
  | succ r ih =>
    intro m m' v hv hm hm' hl
    obtain ⟨m, rfl⟩ : ∃ k, m = k + 1 := ⟨m - 1, by omega⟩
    obtain ⟨m', rfl⟩ : ∃ k, m' = k + 1 := ⟨m' - 1, by omega⟩
    have lt : cI (v : Int) < cI (F (l + 1) : Int) := (q_lt (by omega) (by omega)).mpr (by omega)
    have vb : inb (cI (v : Int)) 200 = true := q_in (by omega) (by decide)
    have vx : ix (cI (v : Int)) = v := q_ix (by omega)
    rcases bw_ok B0 (show l < l + 1 by omega) (show F l ≤ v by omega) (show v < F (l + 1) by omega) with ⟨u1, u2⟩ | ⟨u1, u2⟩
    · refine ⟨v, Nat.le_refl _, by omega, ?_, ?_⟩
      · rw [fSheet_wordEnd_h4, if_pos lt, if_pos vb, vx, show 68 + ix (cI 7) = 75 from rfl, u2, if_neg (show ¬ cI 1 = 0 by decide)]
      · rw [fM_readAddress_h31, b4, if_pos Lb, Lx, b5 (l + 1) (Nat.le_refl _), if_pos lt, u1, bd1_some, if_neg (show ¬ cI 1 = 0 by decide)]
    · obtain ⟨v', g1, g2, g3, g4⟩ := ih m m' (v + 1) (by omega) (by omega) (by omega) (by omega)
      refine ⟨v', by omega, g2, ?_, ?_⟩
      · rw [fSheet_wordEnd_h4, if_pos lt, if_pos vb, vx, show 68 + ix (cI 7) = 75 from rfl, u2, if_pos (show cI 0 = 0 from rfl), q_s (by omega)]
        exact g3
      · rw [fM_readAddress_h31, b4, if_pos Lb, Lx, b5 (l + 1) (Nat.le_refl _), if_pos lt, u1, bd1_some, if_pos (show cI 0 = 0 from rfl), q_s (by omega)]
        exact g4
