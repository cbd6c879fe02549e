/-! ===== LEVEL 3: the sheet: a name spelled, in both ===== -/
theorem ld_27 {x : Int64} (h : 0 ≤ x.toInt) : (x / cL 27).toInt = x.toInt / 27 := by
  rw [Int64.toInt_div_of_ne_right _ _ (by decide), show (cL 27).toInt = 27 from rfl, Int.tdiv_eq_ediv_of_nonneg h]
theorem lgc_le {x : Int64} : lg_cmp x (cL 0) ≤ 0 ↔ x.toInt ≤ 0 := by
  have e0 : (cL 0).toInt = 0 := rfl
  unfold lg_cmp
  by_cases h : x > cL 0
  · have h1 : (cL 0).toInt < x.toInt := Int64.lt_iff_toInt_lt.mp h
    rw [if_pos h]
    exact ⟨fun q => absurd q (by decide), fun q => by omega⟩
  · have h1 : ¬ (cL 0).toInt < x.toInt := fun q => h (Int64.lt_iff_toInt_lt.mpr q)
    rw [if_neg h]
    by_cases e : x = cL 0
    · rw [if_pos e]
      exact ⟨fun q => by omega, fun q => by decide⟩
    · rw [if_neg e]
      exact ⟨fun q => by omega, fun q => by decide⟩
theorem sb_1 (x : Int32) : x - cI 1 = x + cI (-1) := by
  rw [Int32.sub_eq_add_neg, show -cI 1 = cI (-1) by decide]
/-- how many letters a name has -/
theorem sp_ct {a lo e : Int32} {s t : ev_M} {x0 : Int64} : ∀ (r m m' k : Nat) (x : Int64), k + r = 10 → r < m → r < m' → 0 ≤ x.toInt → x.toInt < ((27 ^ r : Nat) : Int) → ∃ len : Nat, len ≤ 10 ∧ fBook_spell_76_h10 m s a (cI (k : Int)) x = fBook_spell_76_b37 s a (cI (len : Int)) ∧ fM_changes_h6 m' t x0 lo e (cI (k : Int)) x = fM_changes_h36 1048576 t lo e (cI (len : Int)) x0 (cI (len : Int) + cI (-1)) := by
  intro r
  induction r with
  | zero =>
    intro m m' k x hk hm hm' h0 h1
    obtain ⟨m, rfl⟩ : ∃ k, m = k + 1 := ⟨m - 1, by omega⟩
    obtain ⟨m', rfl⟩ : ∃ k, m' = k + 1 := ⟨m' - 1, by omega⟩
    have z : lg_cmp x (cL 0) ≤ 0 := lgc_le.mpr (by rw [Nat.pow_zero] at h1; omega)
    refine ⟨k, by omega, ?_, ?_⟩
    · rw [fBook_spell_76_h10, if_pos z]
    · rw [fM_changes_h6, if_pos z, ltI_eq, sb_1]
  | succ r ih =>
    intro m m' k x hk hm hm' h0 h1
    obtain ⟨m, rfl⟩ : ∃ k, m = k + 1 := ⟨m - 1, by omega⟩
    obtain ⟨m', rfl⟩ : ∃ k, m' = k + 1 := ⟨m' - 1, by omega⟩
    by_cases z : lg_cmp x (cL 0) ≤ 0
    · refine ⟨k, by omega, ?_, ?_⟩
      · rw [fBook_spell_76_h10, if_pos z]
      · rw [fM_changes_h6, if_pos z, ltI_eq, sb_1]
    · have d := ld_27 h0
      have pw : (27 ^ (r + 1) : Nat) = 27 ^ r * 27 := Nat.pow_succ ..
      have p0 : 0 < 27 ^ r := Nat.pow_pos (by decide)
      rw [pw] at h1
      generalize 27 ^ r = q at *
      obtain ⟨len, l1, l2, l3⟩ := ih m m' (k + 1) (x / cL 27) (by omega) (by omega) (by omega) (by rw [d]; omega) (by rw [d]; omega)
      refine ⟨len, l1, ?_, ?_⟩
      · rw [fBook_spell_76_h10, if_neg z, if_pos (by rw [lt_i, q_ti (by omega), show (cI 10).toInt = 10 from rfl]; omega), if_neg (show ¬ cL 27 = 0 by decide), ltL_eq, q_s (by omega)]
        exact l2
      · rw [fM_changes_h6, if_neg z, if_neg (show ¬ cL 27 = 0 by decide), ltL_eq, q_s (by omega)]
        exact l3
theorem sp_lp {y a b c : Int32} : ∀ (r m m' : Nat) (x : Int64) (s t : ev_M), r ≤ 10 → r < m → r < m' → ∃ (s' t' : ev_M), fBook_spell_76_h50 m s y x (cI (r : Int) + cI (-1)) = some (s', y) ∧ fM_changes_h36 m' t a b c x (cI (r : Int) + cI (-1)) = fM_changes_h74 1048576 t' a b c (cI 0) ∧ (∀ i, i < r → s'.1 76 i = t'.1 658 i) ∧ (∀ i, r ≤ i → s'.1 76 i = s.1 76 i ∧ t'.1 658 i = t.1 658 i) ∧ fr [(76, 76, 0)] s s' ∧ fr [(658, 658, 0)] t t' := by
  intro r
  induction r with
  | zero =>
    intro m m' x s t hr hm hm'
    obtain ⟨m, rfl⟩ : ∃ k, m = k + 1 := ⟨m - 1, by omega⟩
    obtain ⟨m', rfl⟩ : ∃ k, m' = k + 1 := ⟨m' - 1, by omega⟩
    have z : cI ((0 : Nat) : Int) + cI (-1) < 0 := by decide
    refine ⟨s, t, ?_, ?_, fun i hi => absurd hi (Nat.not_lt_zero _), fun _ _ => ⟨rfl, rfl⟩, fr.rf, fr.rf⟩
    · rw [fBook_spell_76_h50, if_pos z]
    · rw [fM_changes_h36, if_pos z]
  | succ r ih =>
    intro m m' x s t hr hm hm'
    obtain ⟨m, rfl⟩ : ∃ k, m = k + 1 := ⟨m - 1, by omega⟩
    obtain ⟨m', rfl⟩ : ∃ k, m' = k + 1 := ⟨m' - 1, by omega⟩
    have z : ¬ cI (r : Int) < 0 := by rw [lt_i, q_ti (by omega), i32_0]; omega
    have f1 : fr [(76, 76, 0)] s (wI s 76 r (Int64.toInt32 (lrem x (cL 27)) - cI 1)) := fr.rf.wI rfl
    have f2 : fr [(658, 658, 0)] t (wI t 658 r (Int64.toInt32 (lrem x (cL 27)) - cI 1)) := fr.rf.wI rfl
    obtain ⟨s', t', a1, a2, a3, a4, a5, a6⟩ := ih m m' (x / cL 27) (wI s 76 r (Int64.toInt32 (lrem x (cL 27)) - cI 1)) (wI t 658 r (Int64.toInt32 (lrem x (cL 27)) - cI 1)) (by omega) (by omega) (by omega)
    refine ⟨s', t', ?_, ?_, fun i hi => ?_, fun i hi => ?_, f1.tr a5, f2.tr a6⟩
    · rw [k_p (by omega), fBook_spell_76_h50, if_neg z, if_neg (show ¬ cL 27 = 0 by decide), if_pos (q_in (by omega) (by decide)), ltM_eq, if_neg (show ¬ cL 27 = 0 by decide), ltL_eq, q_ix (by omega)]
      exact a1
    · rw [k_p (by omega), fM_changes_h36, if_neg z, if_neg (show ¬ cL 27 = 0 by decide), if_pos (q_in (by omega) (by decide)), ltM_eq, if_neg (show ¬ cL 27 = 0 by decide), ltL_eq, q_ix (by omega)]
      exact a2
    · by_cases y : i = r
      · obtain ⟨g1, g2⟩ := a4 r (Nat.le_refl _)
        rw [y, g1, g2, wI_c, wI_c, up1_eq, up1_eq]
      · exact a3 i (by omega)
    · obtain ⟨g1, g2⟩ := a4 i (by omega)
      rw [g1, g2, wI_c, wI_c, up1_ne (by omega), up1_ne (by omega)]
      exact ⟨rfl, rfl⟩
def FchC : List (Nat × (Nat × Nat)) := [(76, 76, 0), (77, 77, 0)]
def FchM : List (Nat × (Nat × Nat)) := [(658, 658, 0), (659, 659, 0)]
theorem LtD.kk {N : Nat} {s s' t t' : ev_M} (L : LtD N s t) (h1 : fr FchC s s') (h2 : fr FchM t t') : LtD N s' t' := by
  obtain ⟨l0, l1, l2⟩ := L
  refine ⟨l0, fun k hk => ?_, fun q hq => ?_⟩
  · rw [(h1.1 1004 k rfl).1, (h2.1 657 k rfl).1]; exact l1 k hk
  · rw [(h2.1 582 q rfl).1, (h1.1 74 q rfl).1, ne_ct (funext fun k => (h1.1 1004 k rfl).1)]
    exact l2 q hq
/-- the changes from a word to a street's name: class and reference -/
theorem ch_ok {N lo e q : Nat} {s t : ev_M} (he : e ≤ N) (hlo : lo ≤ e) (L : LtD N s t) (B : RSt s t) (hq : q < ix (s.1 30 4)) : ∃ (s' t' : ev_M) (d : Nat), fSheet_changesTo s (cI (q : Int)) (cI (lo : Int)) (cI (e : Int)) = some (s', cI (d : Int)) ∧ fM_changes t (t.2.1 561 q) (cI (lo : Int)) (cI (e : Int)) = some (t', cI (d : Int)) ∧ d ≤ 300 ∧ fr FchC s s' ∧ fr FchM t t' := by
  obtain ⟨⟨n1, n2, n3⟩, g1, g2, g3, g4, g5, b1, b2, b3, b4, b5, b6⟩ := B
  have nn := ix_toNat (s.1 30 4)
  obtain ⟨x0, x1⟩ := b5 q hq
  have eg := g5 q hq
  obtain ⟨len, l1, l2, l3⟩ := sp_ct (a := cI (q : Int)) (s := s) (t := t) (x0 := s.2.1 37 q) (lo := cI (lo : Int)) (e := cI (e : Int)) 10 1048576 1048576 0 (s.2.1 37 q) (by omega) (by omega) (by omega) (by omega) (by rw [show (27 ^ 10 : Nat) = 205891132094649 by decide]; exact x1)
  obtain ⟨s1, t1, a1, a2, a3, a4, a5, a6⟩ := sp_lp (y := cI (len : Int)) (a := cI (lo : Int)) (b := cI (e : Int)) (c := cI (len : Int)) len 1048576 1048576 (s.2.1 37 q) s t l1 (by omega) (by omega)
  have f5 : fr FchC s s1 := a5.mono (by decide +kernel)
  have f6 : fr FchM t t1 := a6.mono (by decide +kernel)
  obtain ⟨s', t', d, c1, c2, c3, c4, c5⟩ := rw_ok l1 he hlo (L.kk f5 f6) a3
  refine ⟨s', t', d, ?_, ?_, c3, f5.tr (c4.mono (by decide +kernel)), f6.tr (c5.mono (by decide +kernel))⟩
  · have e1 : fBook_spell_76 s (cI (q : Int)) = some (s1, cI (len : Int)) := by
      unfold fBook_spell_76
      rw [if_pos (q_in (by omega) (by decide)), ltL_eq, q_ix (by omega)]
      refine l2.trans ?_
      unfold fBook_spell_76_b37
      rw [if_pos (q_in (by omega) (by decide)), ltL_eq, ltI_eq, q_ix (by omega), sb_1]
      exact a1
    unfold fSheet_changesTo
    rw [e1, bd2_some]
    exact c1
  · unfold fM_changes
    rw [eg]
    exact (l3.trans a2).trans c2
