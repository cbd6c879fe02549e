/-! ===== LEVEL 3: the sheet: numbers and last words ===== -/
theorem nb_ok {N x e k : Nat} {s t : ev_M} (D : Dg N s t) (hx : x < e) (he : e ≤ N) (hk : k ≤ 5) : ∃ out : Int32, fSheet_numberOf s (cI (x : Int)) (cI (e : Int)) (cI (k : Int)) = some out ∧ fM_numberOf t (cI (x : Int)) (cI (e : Int)) (cI (k : Int)) = some out ∧ (out = cI (-1) ∨ ∃ v : Nat, v < 100000 ∧ out = cI (v : Int)) := by
  have D1 := D.1
  have es : cI (e : Int) - cI (x : Int) = cI ((e - x : Nat) : Int) := q_sb (by omega) (by omega)
  have n1 : ¬ cI ((e - x : Nat) : Int) < cI 1 := by rw [lt_i, q_ti (by omega), show (cI 1).toInt = 1 from rfl]; omega
  have ek : (cI ((e - x : Nat) : Int) ≤ cI (k : Int)) ↔ e - x ≤ k := by rw [le_i, q_ti (by omega), q_ti (by omega)]; omega
  by_cases z : e - x ≤ k
  · have pw : 10 ^ (e - x) ≤ 10 ^ 5 := Nat.pow_le_pow_right (by decide) (by omega)
    obtain ⟨out, o1, o2, o3⟩ := nu_lp (a1 := cI (x : Int)) (x3 := cI (k : Int)) D he (by rw [es]; exact ek.mpr z) (e - x) 1048576 1048576 x 0 (by omega) (by omega) (by omega) (by
      rw [Nat.zero_add, Nat.one_mul]
      exact pw)
    refine ⟨out, ?_, ?_, o3⟩
    · unfold fSheet_numberOf fPH_outside
      rw [es, if_neg n1, if_pos (ek.mpr z), bd1_some, if_pos (show cI 0 = 0 from rfl)]
      exact o1
    · unfold fM_numberOf
      exact o2
  · refine ⟨cI (-1), ?_, ?_, Or.inl rfl⟩
    · unfold fSheet_numberOf fPH_outside fPH_outside_b10
      rw [es, if_neg n1, if_neg (fun u => z (ek.mp u)), bd1_some, if_neg (show ¬ cI 1 = 0 by decide)]
    · unfold fM_numberOf
      obtain ⟨d1, -⟩ := D.2 x (by omega)
      rw [show (1048576 : Nat) = 1048575 + 1 from rfl, fM_numberOf_h6, if_pos ((q_lt (by omega) (by omega)).mpr hx), if_pos (q_in (by omega) (by decide)), q_ix (by omega), d1, bd1_some]
      unfold fM_numberOf_b47 fM_numberOf_b59
      rw [es, if_neg (fun u => z (ek.mp u)), ite_self, ite_self, q_s (by omega)]
      exact nm_1 D he (e - (x + 1)) 1048575 (x + 1) (by omega) (by omega)
/-- the last word of a line -/
theorem lw_ok {L l : Nat} {F : Nat → Nat} {s t : ev_M} {x1 x4 : Int32} (B : ShB L F s t) (hl : l < L) : ∀ (r m m' v : Nat), v = F l + r → r < m → r < m' → v < F (l + 1) → ∃ v' : Nat, F l ≤ v' ∧ v' ≤ v ∧ fSheet_lastWordOf_h4 s m (cI (F l : Int)) (cI (v : Int)) = some (cI (v' : Int)) ∧ fM_readAddress_h107 m' t x1 x4 (cI (F l : Int)) (cI (v : Int)) = if cI (v' : Int) = cI (F l : Int) then fM_readAddress_b143 t x4 (cI (F l : Int)) (cI (v' : Int)) (cI (-1)) else bd1 (fM_numberOf t (cI (v' : Int)) x1 (cI 3)) fun v6 => fM_readAddress_b143 t x4 (cI (F l : Int)) (cI (v' : Int)) v6 := by
  intro r
  have m1 := F_mo B.2.1 (a := l + 1) L hl (Nat.le_refl _)
  have m2 := B.2.2.1
  induction r with
  | zero =>
    intro m m' v hv hm hm' h2
    obtain ⟨m, rfl⟩ : ∃ k, m = k + 1 := ⟨m - 1, by omega⟩
    obtain ⟨m', rfl⟩ : ∃ k, m' = k + 1 := ⟨m' - 1, by omega⟩
    have ev : v = F l := by omega
    refine ⟨v, by omega, Nat.le_refl _, ?_, ?_⟩
    · rw [fSheet_lastWordOf_h4, if_pos (by rw [le_i, q_ti (by omega), q_ti (by omega)]; omega)]
    · have e : fM_beginsWord t (cI (v : Int)) (cI (F l : Int)) = some (cI 1) := by
        unfold fM_beginsWord
        rw [if_pos (by rw [ev])]
        rfl
      rw [fM_readAddress_h107, e, bd1_some, if_neg (show ¬ cI 1 = 0 by decide)]
  | succ r ih =>
    intro m m' v hv hm hm' h2
    obtain ⟨m, rfl⟩ : ∃ k, m = k + 1 := ⟨m - 1, by omega⟩
    obtain ⟨m', rfl⟩ : ∃ k, m' = k + 1 := ⟨m' - 1, by omega⟩
    have nl : ¬ cI (v : Int) ≤ cI (F l : Int) := by rw [le_i, q_ti (by omega), q_ti (by omega)]; omega
    have vb : inb (cI (v : Int)) 200 = true := q_in (by omega) (by decide)
    have vx : ix (cI (v : Int)) = v := q_ix (by omega)
    rcases bw_ok B hl (show F l ≤ v by omega) h2 with ⟨u1, u2⟩ | ⟨u1, u2⟩
    · refine ⟨v, by omega, Nat.le_refl _, ?_, ?_⟩
      · rw [fSheet_lastWordOf_h4, if_neg nl, if_pos vb, vx, show 68 + ix (cI 7) = 75 from rfl, u2, if_neg (show ¬ cI 1 = 0 by decide)]
      · rw [fM_readAddress_h107, u1, bd1_some, if_neg (show ¬ cI 1 = 0 by decide)]
    · have em : cI (v : Int) + cI (-1) = cI ((v - 1 : Nat) : Int) := by
        rw [eq_i, add_b (by rw [q_ti (by omega), show (cI (-1)).toInt = -1 from rfl]; omega) (by rw [q_ti (by omega), show (cI (-1)).toInt = -1 from rfl]; omega), q_ti (by omega), q_ti (by omega), show (cI (-1)).toInt = -1 from rfl]; omega
      obtain ⟨v', g1, g2, g3, g4⟩ := ih m m' (v - 1) (by omega) (by omega) (by omega) (by omega)
      refine ⟨v', g1, by omega, ?_, ?_⟩
      · rw [fSheet_lastWordOf_h4, if_neg nl, if_pos vb, vx, show 68 + ix (cI 7) = 75 from rfl, u2, if_pos (show cI 0 = 0 from rfl), em]
        exact g3
      · rw [fM_readAddress_h107, u1, bd1_some, if_pos (show cI 0 = 0 from rfl), em]
        exact g4
