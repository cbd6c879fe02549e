/-! ===== LEVEL 3: the sorting machine: all passes ===== -/
def FpzC : List (Nat × (Nat × Nat)) := (138, 138, 10) :: FpsC
def FpzM : List (Nat × (Nat × Nat)) := (549, 549, 92) :: FpsM
theorem pss_lp {a : Int32} : ∀ (r n n' p : Nat) (F : List Nat) (s t : ev_M) (x j : Int32), p + r = 10 → j.toInt = (p : Int) → r < n → r < n' → RFd F s t → RMch s t → s.1 138 9 = j → t.1 549 91 = j → (2 ^ p : Int) ≤ x.toInt → (p = 0 → x.toInt = 1) → (x.toInt ≤ 4800) → ∃ F' s' t', fRounds_sortItems_h56 n s a x j = fRounds_sortItems_b111 s' a ∧ fM_doSort_h78 n' t a x = fM_doSort_b125 t' a ∧ RFd F' s' t' ∧ (∀ y, y ∈ F' ↔ y ∈ F) ∧ s'.1 138 9 = t'.1 549 91 ∧ 0 ≤ (s'.1 138 9).toInt ∧ (s'.1 138 9).toInt ≤ 10 ∧ fr FpzC s s' ∧ fr FpzM t t'
  | 0, n, n', p, F, s, t, x, j, h0, h1, hn, hn', hF, hM, hc, hm, hx, hx1, hx2 => by
    obtain ⟨n, rfl⟩ : ∃ k, n = k + 1 := ⟨n - 1, by omega⟩
    obtain ⟨n', rfl⟩ : ∃ k, n' = k + 1 := ⟨n' - 1, by omega⟩
    have l300 := hF.len
    obtain ⟨f1, f2, f3, f4, f5, f6, f7⟩ := id hF
    have ep : p = 10 := by omega
    subst ep
    have hj : ¬ j < cI 10 := by rw [lt_i, show (cI 10).toInt = 10 from rfl]; omega
    have j0 : ¬ j = 0 := fun z => by rw [z] at h1; exact absurd h1 (by decide)
    have xN : ¬ x < s.1 138 12 := by
      rw [lt_i]
      have : (2 ^ 10 : Int) = 1024 := by decide
      omega
    refine ⟨F, s, t, ?_, ?_, hF, fun _ => Iff.rfl, by rw [hc, hm], by rw [hc]; omega, by rw [hc]; omega, fr.rf, fr.rf⟩
    · rw [fRounds_sortItems_h56, if_neg hj]
    · rw [fM_doSort_h78, f4, hm]
      by_cases z : s.1 138 12 ≤ 0
      · rw [if_pos z]
      · rw [if_neg z, if_neg j0, if_neg xN]
  | r + 1, n, n', p, F, s, t, x, j, h0, h1, hn, hn', hF, hM, hc, hm, hx, hx1, hx2 => by
    obtain ⟨n, rfl⟩ : ∃ k, n = k + 1 := ⟨n - 1, by omega⟩
    obtain ⟨n', rfl⟩ : ∃ k, n' = k + 1 := ⟨n' - 1, by omega⟩
    have l300 := hF.len
    obtain ⟨f1, f2, f3, f4, f5, f6, f7⟩ := id hF
    obtain ⟨⟨m1, m2, m3⟩, -⟩ := id hM
    have hj : j < cI 10 := by rw [lt_i, show (cI 10).toInt = 10 from rfl]; omega
    have p1 : (1 : Int) ≤ 2 ^ p := by
      have := Nat.one_le_two_pow (n := p)
      exact_mod_cast this
    have stop : fRounds_sortItems_h56 (n + 1) s a x j = fRounds_sortItems_b111 s a → fM_doSort_h78 (n' + 1) t a x = fM_doSort_b125 t a → ∃ F' s' t', fRounds_sortItems_h56 (n + 1) s a x j = fRounds_sortItems_b111 s' a ∧ fM_doSort_h78 (n' + 1) t a x = fM_doSort_b125 t' a ∧ RFd F' s' t' ∧ (∀ y, y ∈ F' ↔ y ∈ F) ∧ s'.1 138 9 = t'.1 549 91 ∧ 0 ≤ (s'.1 138 9).toInt ∧ (s'.1 138 9).toInt ≤ 10 ∧ fr FpzC s s' ∧ fr FpzM t t' := fun q1 q2 => ⟨F, s, t, q1, q2, hF, fun _ => Iff.rfl, by rw [hc, hm], by rw [hc]; omega, by rw [hc]; omega, fr.rf, fr.rf⟩
    by_cases z : s.1 138 12 ≤ 0
    · refine stop ?_ ?_
      · rw [fRounds_sortItems_h56, if_pos hj]
        by_cases w : j = 0
        · rw [if_pos w, fRounds_sortItems_b74, if_pos z]
        · have xN : ¬ x < s.1 138 12 := by
            rw [lt_i]
            rw [le_i, i32_0] at z
            omega
          rw [if_neg w, if_neg xN]
      · rw [fM_doSort_h78, f4, if_pos z]
    by_cases w : j = 0 ∨ x < s.1 138 12
    rotate_left
    · obtain ⟨w1, w2⟩ := not_or.mp w
      refine stop ?_ ?_
      · rw [fRounds_sortItems_h56, if_pos hj, if_neg w1, if_neg w2]
      · rw [fM_doSort_h78, f4, hm, if_neg z, if_neg w1, if_neg w2]
    have xs : x.toInt ≤ 300 := by
      rcases w with w | w
      · have : p = 0 := by rw [w, i32_0] at h1; omega
        have := hx1 this
        omega
      · rw [lt_i] at w; omega
    obtain ⟨F1, s1, t1, a1, a2, a3, a4, a5, a6⟩ := pass_ok (d := x) hF hM (by omega)
    have x172 : s1.1 172 = s.1 172 := (nof_c a5 (L := [(172, 0)]) rfl (c := 172) rfl).1
    have y83 : t1.1 549 83 = s.1 172 0 := by rw [(a6.1 549 83 rfl).1]; exact m1
    have x9 : s1.1 138 9 = j := by rw [(a5.1 138 9 rfl).1]; exact hc
    have y91 : t1.1 549 91 = j := by rw [(a6.1 549 91 rfl).1]; exact hm
    have g1 : fr [(138, 138, 10)] s1 (wI s1 138 9 (j + cI 1)) := fr.rf.wI rfl
    have g2 : fr [(549, 549, 92)] t1 (wI t1 549 91 (j + cI 1)) := fr.rf.wI rfl
    have et : (j + cI 1).toInt = ((p + 1 : Nat) : Int) := by rw [inc_i (by omega)]; omega
    have lo : 2 * x.toInt ≤ x.toInt * (s.1 172 0).toInt := by
      rw [Int.mul_comm 2]
      exact Int.mul_le_mul_of_nonneg_left m2 (by omega)
    have hi : x.toInt * (s.1 172 0).toInt ≤ 300 * 16 := Int.mul_le_mul xs m3 (by omega) (by decide)
    have xt : (x * s.1 172 0).toInt = x.toInt * (s.1 172 0).toInt := mul_toInt (by omega) (by omega)
    have pw : (2 ^ (p + 1) : Int) = 2 * 2 ^ p := by rw [Int.pow_succ, Int.mul_comm]
    obtain ⟨F', s', t', u1, u2, u3, u4, u5, u6, u7, u8, u9⟩ := pss_lp (a := a) r n n' (p + 1) F1 (wI s1 138 9 (j + cI 1)) (wI t1 549 91 (j + cI 1)) (x * s.1 172 0) (j + cI 1) (by omega) et (by omega) (by omega) (a3.keep g1 g2 rfl rfl) ((hM.keep a5 a6 rfl rfl).keep g1 g2 rfl rfl) (by rw [wI_c, up1_eq]) (by rw [wI_c, up1_eq]) (by rw [xt, pw]; omega) (fun q => absurd q (by omega)) (by rw [xt]; omega)
    have sC : fRounds_sortItems_h56 (n + 1) s a x j = fRounds_sortItems_h56 n (wI s1 138 9 (j + cI 1)) a (x * s.1 172 0) (j + cI 1) := by
      have b : fRounds_sortItems_b74 (fRounds_sortItems_h56 n) s a x j = fRounds_sortItems_h56 n (wI s1 138 9 (j + cI 1)) a (x * s.1 172 0) (j + cI 1) := by
        rw [fRounds_sortItems_b74, if_neg z, a1, bd1_some, ltI_eq, ix_0, ltM_eq, x172, x9]
      rw [fRounds_sortItems_h56, if_pos hj]
      by_cases q : j = 0
      · rw [if_pos q]; exact b
      · rw [if_neg q, if_pos (w.resolve_left q)]; exact b
    have sM : fM_doSort_h78 (n' + 1) t a x = fM_doSort_h78 n' (wI t1 549 91 (j + cI 1)) a (x * s.1 172 0) := by
      have b : fM_doSort_b100 (fM_doSort_h78 n') t a x = fM_doSort_h78 n' (wI t1 549 91 (j + cI 1)) a (x * s.1 172 0) := by
        rw [fM_doSort_b100, a2, bd1_some, ltI_eq, ltM_eq, y83, y91]
      rw [fM_doSort_h78, f4, hm, if_neg z]
      by_cases q : j = 0
      · rw [if_pos q]; exact b
      · rw [if_neg q, if_pos (w.resolve_left q)]; exact b
    exact ⟨F', s', t', sC.trans u1, sM.trans u2, u3, fun y => (u4 y).trans (a4 y), u5, u6, u7, (a5.mono (by decide +kernel)).tr ((g1.mono (by decide +kernel)).tr u8), (a6.mono (by decide +kernel)).tr ((g2.mono (by decide +kernel)).tr u9)⟩
