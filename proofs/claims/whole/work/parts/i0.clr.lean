/-! ===== LEVEL 3: before a sorting, the reference forgets who strayed ===== -/
theorem cl_lp {a : Int32} : ∀ (r n : Nat) (t : ev_M) (j : Int32), 0 ≤ j.toInt → j.toInt + r = 300 → r < n → (∀ q, q < ix j → t.1 610 q = cI 0) → ∃ t', (fM_doSort_h46 n t a j = bd1 (fM_findFed t' a) fun s11 => ltM (wI s11 549 91 (cI 0)) fun s12 => fM_doSort_h78 1048576 s12 a (cI 1)) ∧ (∀ q, q < 300 → t'.1 610 q = cI 0) ∧ fr [(610, 610, 0)] t t'
  | 0, n, t, j, h0, h1, hn, hz => by
    obtain ⟨n, rfl⟩ : ∃ k, n = k + 1 := ⟨n - 1, by omega⟩
    have e3 : (cI 300).toInt = 300 := by decide
    have hj : ¬ j < cI 300 := by rw [lt_i]; omega
    have ej : ix j = 300 := by rw [ix_toNat]; omega
    rw [ej] at hz
    refine ⟨t, ?_, hz, fr.rf⟩
    rw [fM_doSort_h46, if_neg hj]
  | r + 1, n, t, j, h0, h1, hn, hz => by
    obtain ⟨n, rfl⟩ : ∃ k, n = k + 1 := ⟨n - 1, by omega⟩
    have e3 : (cI 300).toInt = 300 := by decide
    have hj : j < cI 300 := by rw [lt_i]; omega
    have hi : inb j 300 = true := inb_iff.mpr ⟨h0, by omega⟩
    have ei : ix (j + cI 1) = ix j + 1 := ix_inc h0 (by omega)
    have et : (j + cI 1).toInt = j.toInt + 1 := inc_i (by omega)
    have f2 : fr [(610, 610, 0)] t (wI t 610 (ix j) (cI 0)) := fr.rf.wI rfl
    obtain ⟨t', y1, y2, y3⟩ := cl_lp (a := a) r n (wI t 610 (ix j) (cI 0)) (j + cI 1) (by omega) (by omega) (by omega) (by
      rw [ei]
      intro q hq
      rw [wI_c]
      by_cases z : q = ix j
      · rw [z, up1_eq]
      · rw [up1_ne z]; exact hz q (by omega))
    refine ⟨t', ?_, y2, f2.tr y3⟩
    rw [fM_doSort_h46, if_pos hj, if_pos hi, ltM_eq, show cI 0 &&& 1 = cI 0 by decide]
    exact y1
