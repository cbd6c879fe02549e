/-! ===== LEVEL 3: the sheet: changes, letter by letter ===== -/
/-- the nearest letters -/
def LtD (N : Nat) (s t : ev_M) : Prop := N ≤ 200 ∧ Sym s t ∧ ∀ q, q < N → (t.1 582 q).toBitVec.toNat < 2 ^ 15 ∧ fSheet_nearest s (t.1 582 q) (cI 10) (cI 36) = some (s.1 74 q)
theorem LtD.k {N : Nat} {s s' t t' : ev_M} (L : LtD N s t) (h1 : fr [(77, 77, 0)] s s') (h2 : fr [(659, 659, 0)] t t') : LtD N s' t' := by
  obtain ⟨l0, l1, l2⟩ := L
  refine ⟨l0, fun k hk => ?_, fun q hq => ?_⟩
  · rw [(h1.1 1004 k rfl).1, (h2.1 657 k rfl).1]; exact l1 k hk
  · rw [(h2.1 582 q rfl).1, (h1.1 74 q rfl).1, ne_ct (funext fun k => (h1.1 1004 k rfl).1)]
    exact l2 q hq
theorem LtD.m {N q : Nat} {s t : ev_M} (L : LtD N s t) (hq : q < N) : fM_nearest t (t.1 582 q) (cI 10) (cI 36) = some (s.1 74 q) := by
  obtain ⟨g1, g2⟩ := L.2.2 q hq
  obtain ⟨r, r1, r2, -⟩ := e_nst (lo := 10) (hi := 36) L.2.1 g1 (by decide) (by decide)
  refine r2.trans ?_
  exact r1.symm.trans g2
theorem dp_ou {N len lo e : Nat} (hlen : len ≤ 10) (he : e ≤ N) : ∀ (r m m' q : Nat) (s t : ev_M), q + r = e → r < m → r < m' → lo ≤ q → LtD N s t → RwD len (10 + (q - lo)) 0 s t → s.1 77 0 = cI ((q - lo : Nat) : Int) → (∀ i, i < len → s.1 76 i = t.1 658 i) → ∃ (s' t' : ev_M) (d : Nat), fSheet_changesTo_h42 m s (cI (e : Int)) (cI (len : Int)) (cI (q : Int)) = some (s', cI (d : Int)) ∧ fM_changes_h99 m' t (cI (lo : Int)) (cI (e : Int)) (cI (len : Int)) (cI (q : Int)) = some (t', cI (d : Int)) ∧ d ≤ 300 ∧ fr [(77, 77, 0)] s s' ∧ fr [(659, 659, 0)] t t' := by
  intro r
  induction r with
  | zero =>
    intro m m' q s t hq hm hm' hlo L R e0 hn
    obtain ⟨m, rfl⟩ : ∃ k, m = k + 1 := ⟨m - 1, by omega⟩
    obtain ⟨m', rfl⟩ : ∃ k, m' = k + 1 := ⟨m' - 1, by omega⟩
    have l0 := L.1
    have nl : ¬ cI (q : Int) < cI (e : Int) := by rw [q_lt (by omega) (by omega)]; omega
    obtain ⟨d, d1, d2, d3⟩ := R len (Nat.le_refl _)
    rw [if_neg (Nat.not_lt_zero _)] at d3
    refine ⟨s, t, d, ?_, ?_, by omega, fr.rf, fr.rf⟩
    · rw [fSheet_changesTo_h42, if_neg nl, if_pos (q_in (by omega) (by decide)), q_ix (by omega), d1]
    · rw [fM_changes_h99, if_neg nl, if_pos (q_in (by omega) (by decide)), q_ix (by omega), d2]
  | succ r ih =>
    intro m m' q s t hq hm hm' hlo L R e0 hn
    obtain ⟨m, rfl⟩ : ∃ k, m = k + 1 := ⟨m - 1, by omega⟩
    obtain ⟨m', rfl⟩ : ∃ k, m' = k + 1 := ⟨m' - 1, by omega⟩
    have l0 := L.1
    have lt : cI (q : Int) < cI (e : Int) := (q_lt (by omega) (by omega)).mpr (by omega)
    obtain ⟨d, d1, d2, d3⟩ := R 0 (Nat.zero_le _)
    have dd : d = q - lo := by
      rw [e0, eq_i, q_ti (by omega), q_ti (by rw [if_neg (Nat.not_lt_zero _)] at d3; omega)] at d1
      omega
    subst dd
    have f1 : fr [(77, 77, 0)] s (wI s 77 0 (cI ((q - lo + 1 : Nat) : Int))) := fr.rf.wI rfl
    have f2 : fr [(659, 659, 0)] t (wI t 659 0 (cI ((q - lo + 1 : Nat) : Int))) := fr.rf.wI rfl
    obtain ⟨s1, t1, a1, a2, a3, a4, a5, a6, a7⟩ := dp_in (e := e) (x3 := cI (lo : Int)) (x4 := cI (e : Int)) (lt := s.1 74 q) (k42 := fSheet_changesTo_h42 m) (k99 := fM_changes_h99 m') hlen (show 10 + (q - lo) < 1000 by omega) (show q < 200 by omega) len 1048576 1048576 1 (q - lo) (wI s 77 0 (cI ((q - lo + 1 : Nat) : Int))) (wI t 659 0 (cI ((q - lo + 1 : Nat) : Int))) (by omega) (by omega) (by omega) (by omega) (fun i hi => by
      by_cases z : i = 0
      · refine ⟨q - lo + 1, by rw [wI_c, z, up1_eq], by rw [wI_c, z, up1_eq], ?_⟩
        rw [if_pos (show i < 1 by omega)]; omega
      · obtain ⟨d, d1, d2, d3⟩ := R i hi
        rw [if_neg (Nat.not_lt_zero _)] at d3
        refine ⟨d, by rw [wI_c, up1_ne z]; exact d1, by rw [wI_c, up1_ne z]; exact d2, ?_⟩
        rw [if_neg (show ¬ i < 1 by omega)]; exact d3) (by omega) (fun i hi => by
      show (wI s 77 0 (cI ((q - lo + 1 : Nat) : Int))).1 76 i = (wI t 659 0 (cI ((q - lo + 1 : Nat) : Int))).1 658 i
      rw [wI_ne (by decide), wI_ne (by decide)]; exact hn i hi) (by rw [wI_ne (by decide)])
    have g1 := f1.tr a4
    have g2 := f2.tr a5
    obtain ⟨s', t', d, b1, b2, b3, b4, b5⟩ := ih m m' (q + 1) s1 t1 (by omega) (by omega) (by omega) (by omega) (L.k g1 g2) (fun i hi => by
      obtain ⟨d, d1, d2, d3⟩ := a3 i hi
      rw [if_pos (show i < len + 1 by omega)] at d3
      refine ⟨d, d1, d2, ?_⟩
      rw [if_neg (Nat.not_lt_zero _)]; omega) (by
      rw [a6, wI_c, up1_eq, show q + 1 - lo = q - lo + 1 by omega]) (fun i hi => by
      rw [(g1.1 76 i rfl).1, (g2.1 658 i rfl).1]; exact hn i hi)
    refine ⟨s', t', d, ?_, ?_, b3, g1.tr b4, g2.tr b5⟩
    · rw [fSheet_changesTo_h42, if_pos lt, ltI_eq, ix_0, e0, ltM_eq, q_s (by omega)]
      exact a1.trans b1
    · rw [fM_changes_h99, if_pos lt, if_pos (q_in (by omega) (by decide)), q_ix (show q < 100000 by omega), L.m (by omega), bd1_some, ltI_eq, ix_0, d2, ltM_eq, q_sb hlo (by omega), q_s (show q - lo < 99999 by omega)]
      exact a2.trans b2
