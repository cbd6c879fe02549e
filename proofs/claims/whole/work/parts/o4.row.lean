/-! ===== LEVEL 3: the sheet: the first row of changes ===== -/
theorem rw_c {len : Nat} {lo e : Int32} (hlen : len ≤ 10) : ∀ (r m k : Nat) (s : ev_M), k + r = len + 1 → r < m → (∀ i, i < k → s.1 77 i = cI (i : Int)) → ∃ s', fSheet_changesTo_h17 m s lo e (cI (len : Int)) (cI (k : Int)) = fSheet_changesTo_h42 1048576 s' e (cI (len : Int)) lo ∧ (∀ i, i ≤ len → s'.1 77 i = cI (i : Int)) ∧ fr [(77, 77, 0)] s s'
  | 0, m, k, s, hk, hm, h => by
    obtain ⟨m, rfl⟩ : ∃ k, m = k + 1 := ⟨m - 1, by omega⟩
    refine ⟨s, ?_, fun i hi => h i (by omega), fr.rf⟩
    rw [fSheet_changesTo_h17, if_neg (by rw [le_i, q_ti (by omega), q_ti (by omega)]; omega)]
  | r + 1, m, k, s, hk, hm, h => by
    obtain ⟨m, rfl⟩ : ∃ k, m = k + 1 := ⟨m - 1, by omega⟩
    have f1 : fr [(77, 77, 0)] s (wI s 77 k (cI (k : Int))) := fr.rf.wI rfl
    obtain ⟨s', a1, a2, a3⟩ := rw_c (lo := lo) (e := e) hlen r m (k + 1) (wI s 77 k (cI (k : Int))) (by omega) (by omega) (fun i hi => by
      rw [wI_c]
      by_cases z : i = k
      · rw [z, up1_eq]
      · rw [up1_ne z]; exact h i (by omega))
    refine ⟨s', ?_, a2, f1.tr a3⟩
    rw [fSheet_changesTo_h17, if_pos (by rw [le_i, q_ti (by omega), q_ti (by omega)]; omega), if_pos (q_in (by omega) (by decide)), ltM_eq, q_ix (by omega), q_s (by omega)]
    exact a1
theorem rw_m {len : Nat} {lo e : Int32} (hlen : len ≤ 10) : ∀ (r m k : Nat) (s : ev_M), k + r = len + 1 → r < m → (∀ i, i < k → s.1 659 i = cI (i : Int)) → ∃ s', fM_changes_h74 m s lo e (cI (len : Int)) (cI (k : Int)) = fM_changes_h99 1048576 s' lo e (cI (len : Int)) lo ∧ (∀ i, i ≤ len → s'.1 659 i = cI (i : Int)) ∧ fr [(659, 659, 0)] s s'
  | 0, m, k, s, hk, hm, h => by
    obtain ⟨m, rfl⟩ : ∃ k, m = k + 1 := ⟨m - 1, by omega⟩
    refine ⟨s, ?_, fun i hi => h i (by omega), fr.rf⟩
    rw [fM_changes_h74, if_neg (by rw [le_i, q_ti (by omega), q_ti (by omega)]; omega)]
  | r + 1, m, k, s, hk, hm, h => by
    obtain ⟨m, rfl⟩ : ∃ k, m = k + 1 := ⟨m - 1, by omega⟩
    have f1 : fr [(659, 659, 0)] s (wI s 659 k (cI (k : Int))) := fr.rf.wI rfl
    obtain ⟨s', a1, a2, a3⟩ := rw_m (lo := lo) (e := e) hlen r m (k + 1) (wI s 659 k (cI (k : Int))) (by omega) (by omega) (fun i hi => by
      rw [wI_c]
      by_cases z : i = k
      · rw [z, up1_eq]
      · rw [up1_ne z]; exact h i (by omega))
    refine ⟨s', ?_, a2, f1.tr a3⟩
    rw [fM_changes_h74, if_pos (by rw [le_i, q_ti (by omega), q_ti (by omega)]; omega), if_pos (q_in (by omega) (by decide)), ltM_eq, q_ix (by omega), q_s (by omega)]
    exact a1
/-- with the name spelled in both, the changes agree -/
theorem rw_ok {N len lo e : Nat} {s t : ev_M} (hlen : len ≤ 10) (he : e ≤ N) (hlo : lo ≤ e) (L : LtD N s t) (hn : ∀ i, i < len → s.1 76 i = t.1 658 i) : ∃ (s' t' : ev_M) (d : Nat), fSheet_changesTo_h17 1048576 s (cI (lo : Int)) (cI (e : Int)) (cI (len : Int)) (cI 0) = some (s', cI (d : Int)) ∧ fM_changes_h74 1048576 t (cI (lo : Int)) (cI (e : Int)) (cI (len : Int)) (cI 0) = some (t', cI (d : Int)) ∧ d ≤ 300 ∧ fr [(77, 77, 0)] s s' ∧ fr [(659, 659, 0)] t t' := by
  have l0 := L.1
  obtain ⟨s1, a1, a2, a3⟩ := rw_c (lo := cI (lo : Int)) (e := cI (e : Int)) hlen (len + 1) 1048576 0 s (by omega) (by omega) (fun i hi => absurd hi (Nat.not_lt_zero _))
  obtain ⟨t1, b1, b2, b3⟩ := rw_m (lo := cI (lo : Int)) (e := cI (e : Int)) hlen (len + 1) 1048576 0 t (by omega) (by omega) (fun i hi => absurd hi (Nat.not_lt_zero _))
  obtain ⟨s', t', d, c1, c2, c3, c4, c5⟩ := dp_ou hlen he (e - lo) 1048576 1048576 lo s1 t1 (by omega) (by omega) (by omega) (Nat.le_refl _) (L.k a3 b3) (fun i hi => ⟨i, a2 i hi, b2 i hi, by rw [if_neg (Nat.not_lt_zero _)]; omega⟩) (by rw [a2 0 (Nat.zero_le _), Nat.sub_self]) (fun i hi => by
    rw [(a3.1 76 i rfl).1, (b3.1 658 i rfl).1]; exact hn i hi)
  exact ⟨s', t', d, a1.trans c1, b1.trans c2, c3, a3.tr c4, b3.tr c5⟩
