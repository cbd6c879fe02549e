/-! ===== LEVEL 3: the sheet: the street most like a word ===== -/
theorem sln_lp {N lo e : Nat} {p : Int32} (he : e ≤ N) (hlo : lo ≤ e) : ∀ (r m m' k B : Nat) (s t : ev_M) (who fl : Int32), k + r = ix (s.1 30 4) → r < m → r < m' → B ≤ 300 → (fl = cI 0 ∨ fl = cI 1) → (who = cI (-1) ∨ ∃ j : Nat, j < ix (s.1 30 4) ∧ who = cI (j : Int)) → LtD N s t → RSt s t → ∃ (s' t' : ev_M) (q : Int32), fSheet_streetLike_h9 m s p (cI (lo : Int)) (cI (e : Int)) (cI (B : Int)) (if fl = 0 then who else cI (-1)) (cI (k : Int)) = some (s', q) ∧ fM_nearestStreet_h12 m' t p (cI (lo : Int)) (cI (e : Int)) (cI (B : Int)) who fl (cI (k : Int)) = some (t', q) ∧ (q = cI (-1) ∨ ∃ j : Nat, j < ix (s.1 30 4) ∧ q = cI (j : Int)) ∧ fr FchC s s' ∧ fr FchM t t' := by
  intro r
  induction r with
  | zero =>
    intro m m' k B s t who fl hk hm hm' hB hf hw L R
    obtain ⟨m, rfl⟩ : ∃ k, m = k + 1 := ⟨m - 1, by omega⟩
    obtain ⟨m', rfl⟩ : ∃ k, m' = k + 1 := ⟨m' - 1, by omega⟩
    obtain ⟨⟨n1, n2, n3⟩, -⟩ := R
    have nn := ix_toNat (s.1 30 4)
    have nl : ¬ cI (k : Int) < s.1 30 4 := by rw [lt_i, q_ti (by omega)]; omega
    refine ⟨s, t, if fl = 0 then who else cI (-1), ?_, ?_, ?_, fr.rf, fr.rf⟩
    · rw [fSheet_streetLike_h9, if_neg nl]
    · rw [fM_nearestStreet_h12, n1, if_neg nl]
      by_cases y : fl = 0
      · rw [if_pos y, if_pos y]
      · rw [if_neg y, if_neg y]
    · split
      · exact hw
      · exact Or.inl rfl
  | succ r ih =>
    intro m m' k B s t who fl hk hm hm' hB hf hw L R
    obtain ⟨m, rfl⟩ : ∃ k, m = k + 1 := ⟨m - 1, by omega⟩
    obtain ⟨m', rfl⟩ : ∃ k, m' = k + 1 := ⟨m' - 1, by omega⟩
    have R0 := R
    obtain ⟨⟨n1, n2, n3⟩, g1, g2, g3, g4, g5, -⟩ := R
    have nn := ix_toNat (s.1 30 4)
    have lt : cI (k : Int) < s.1 30 4 := by rw [lt_i, q_ti (by omega)]; omega
    have kb : inb (cI (k : Int)) 30 = true := q_in (by omega) (by decide)
    have kx : ix (cI (k : Int)) = k := q_ix (by omega)
    have k4 := g4 k (by omega)
    have is : fBook_isStreetOf s (cI (k : Int)) p = some (if s.1 36 k = p then cI 1 else cI 0) := by
      unfold fBook_isStreetOf
      rw [if_pos kb, kx, ix_3]
      show (if s.1 36 k = p then some (cI 1) else some (cI 0)) = _
      by_cases z : s.1 36 k = p
      · rw [if_pos z, if_pos z]
      · rw [if_neg z, if_neg z]
    by_cases z : s.1 36 k = p
    · rw [if_pos z] at is
      obtain ⟨s1, t1, D, d1, d2, d3, d4, d5⟩ := ch_ok he hlo L R0 (show k < ix (s.1 30 4) by omega)
      have R1 : RSt s1 t1 := R0.keep d4 d5 (by decide +kernel) (by decide +kernel)
      have L1 := L.kk d4 d5
      have c4 : s1.1 30 4 = s.1 30 4 := (d4.1 30 4 rfl).1
      have e1 : (cI (D : Int) = cI (B : Int)) ↔ D = B := by rw [eq_i, q_ti (by omega), q_ti (by omega)]; omega
      have e2 : (cI (D : Int) ≤ cI (B : Int)) ↔ D ≤ B := by rw [le_i, q_ti (by omega), q_ti (by omega)]; omega
      have e3 : (cI (D : Int) < cI (B : Int)) ↔ D < B := q_lt (by omega) (by omega)
      have eC : fSheet_streetLike_h9 (m + 1) s p (cI (lo : Int)) (cI (e : Int)) (cI (B : Int)) (if fl = 0 then who else cI (-1)) (cI (k : Int)) = if D < B then fSheet_streetLike_h9 m s1 p (cI (lo : Int)) (cI (e : Int)) (cI (D : Int)) (cI (k : Int)) (cI ((k + 1 : Nat) : Int)) else if D = B then fSheet_streetLike_h9 m s1 p (cI (lo : Int)) (cI (e : Int)) (cI (B : Int)) (cI (-1)) (cI ((k + 1 : Nat) : Int)) else fSheet_streetLike_h9 m s1 p (cI (lo : Int)) (cI (e : Int)) (cI (B : Int)) (if fl = 0 then who else cI (-1)) (cI ((k + 1 : Nat) : Int)) := by
        rw [fSheet_streetLike_h9, if_pos lt, is, bd1_some, if_neg (show ¬ cI 1 = 0 by decide), d1, bd2_some]
        unfold fSheet_streetLike_b75
        rw [q_s (show k < 99999 by omega)]
        by_cases z1 : D < B
        · rw [if_pos z1, if_pos (e3.mpr z1)]
        · rw [if_neg z1, if_neg (fun u => z1 (e3.mp u))]
          by_cases z2 : D = B
          · rw [if_pos z2, if_pos (e1.mpr z2)]
          · rw [if_neg z2, if_neg (fun u => z2 (e1.mp u))]
      have eM : fM_nearestStreet_h12 (m' + 1) t p (cI (lo : Int)) (cI (e : Int)) (cI (B : Int)) who fl (cI (k : Int)) = if D < B then fM_nearestStreet_h12 m' t1 p (cI (lo : Int)) (cI (e : Int)) (cI (D : Int)) (cI (k : Int)) (cI 0) (cI ((k + 1 : Nat) : Int)) else if D = B then fM_nearestStreet_h12 m' t1 p (cI (lo : Int)) (cI (e : Int)) (cI (B : Int)) who (cI 1) (cI ((k + 1 : Nat) : Int)) else fM_nearestStreet_h12 m' t1 p (cI (lo : Int)) (cI (e : Int)) (cI (B : Int)) who fl (cI ((k + 1 : Nat) : Int)) := by
        rw [fM_nearestStreet_h12, n1, if_pos lt, if_pos kb, kx, k4, if_pos z, if_pos kb, d2, bd2_some]
        unfold fM_nearestStreet_b66 fM_nearestStreet_b70 fM_nearestStreet_b71 fM_nearestStreet_b87 fM_nearestStreet_b103 fM_nearestStreet_b105
        rw [q_s (show k < 99999 by omega)]
        by_cases z1 : D < B
        · rw [if_pos z1, if_neg (fun u => by have := e1.mp u; omega), if_pos (e3.mpr z1), if_pos (e3.mpr z1), if_pos (e2.mpr (by omega)), ite_self]
        · have n3' : ¬ cI (D : Int) < cI (B : Int) := fun u => z1 (e3.mp u)
          rw [if_neg z1]
          simp only [if_neg n3']
          by_cases z2 : D = B
          · rw [if_pos z2, if_pos (e1.mpr z2)]
          · rw [if_neg z2, if_neg (fun u => z2 (e1.mp u))]
            rcases hf with u | u
            · rw [u, if_pos (show cI 0 = 0 from rfl)]
            · rw [u, if_neg (show ¬ cI 1 = 0 by decide), if_neg (fun u => by have := e2.mp u; omega)]
      have i0 := fun B who fl => ih m m' (k + 1) B s1 t1 who fl (by rw [c4]; omega) (by omega) (by omega)
      rw [c4] at i0
      have wk : cI (k : Int) = cI (-1) ∨ ∃ j : Nat, j < ix (s.1 30 4) ∧ cI (k : Int) = cI (j : Int) := Or.inr ⟨k, by omega, rfl⟩
      rw [eC, eM]
      by_cases z1 : D < B
      · rw [if_pos z1, if_pos z1]
        obtain ⟨s', t', q, a1, a2, a3, a4, a5⟩ := i0 D (cI (k : Int)) (cI 0) d3 (Or.inl rfl) wk L1 R1
        rw [if_pos (show cI 0 = 0 from rfl)] at a1
        exact ⟨s', t', q, a1, a2, a3, d4.tr a4, d5.tr a5⟩
      · rw [if_neg z1, if_neg z1]
        by_cases z2 : D = B
        · rw [if_pos z2, if_pos z2]
          obtain ⟨s', t', q, a1, a2, a3, a4, a5⟩ := i0 B who (cI 1) hB (Or.inr rfl) hw L1 R1
          rw [if_neg (show ¬ cI 1 = 0 by decide)] at a1
          exact ⟨s', t', q, a1, a2, a3, d4.tr a4, d5.tr a5⟩
        · rw [if_neg z2, if_neg z2]
          obtain ⟨s', t', q, a1, a2, a3, a4, a5⟩ := i0 B who fl hB hf hw L1 R1
          exact ⟨s', t', q, a1, a2, a3, d4.tr a4, d5.tr a5⟩
    · rw [if_neg z] at is
      obtain ⟨s', t', q, a1, a2, a3, a4, a5⟩ := ih m m' (k + 1) B s t who fl (by omega) (by omega) (by omega) hB hf hw L R0
      refine ⟨s', t', q, ?_, ?_, a3, a4, a5⟩
      · rw [fSheet_streetLike_h9, if_pos lt, is, bd1_some, if_pos (show cI 0 = 0 from rfl)]
        unfold fSheet_streetLike_b75
        rw [q_s (show k < 99999 by omega)]
        exact a1
      · rw [fM_nearestStreet_h12, n1, if_pos lt, if_pos kb, kx, k4, if_neg z]
        unfold fM_nearestStreet_b105
        rw [q_s (show k < 99999 by omega)]
        exact a2
/-- the street most like a word, if one alone is like enough -/
theorem sl_ok {N lo e : Nat} {p : Int32} {s t : ev_M} (he : e ≤ N) (hlo : lo ≤ e) (L : LtD N s t) (R : RSt s t) : ∃ (s' t' : ev_M) (q : Int32), fSheet_streetLike s p (cI (lo : Int)) (cI (e : Int)) = some (s', q) ∧ fM_nearestStreet t p (cI (lo : Int)) (cI (e : Int)) = some (t', q) ∧ (q = cI (-1) ∨ ∃ j : Nat, j < ix (s.1 30 4) ∧ q = cI (j : Int)) ∧ fr FchC s s' ∧ fr FchM t t' := by
  have R0 := R
  obtain ⟨⟨n1, n2, n3⟩, -⟩ := R
  have nn := ix_toNat (s.1 30 4)
  obtain ⟨s', t', q, a1, a2, a3⟩ := sln_lp (p := p) he hlo (ix (s.1 30 4)) 1048576 1048576 0 3 s t (cI (-1)) (cI 0) (by omega) (by omega) (by omega) (by decide) (Or.inl rfl) (Or.inl rfl) L R0
  rw [if_pos (show cI 0 = 0 from rfl)] at a1
  exact ⟨s', t', q, a1, a2, a3⟩
