/-! ===== LEVEL 3: the sorting machine: gates ===== -/
/-- gates, class and reference -/
def RGt (b : Nat) (s t : ev_M) : Prop := ∀ g, g < b → t.1 673 g = s.1 180 g ∧ t.1 674 g = s.1 181 g ∧ (s.1 180 g = cI 0 ∨ s.1 180 g = cI 1)
theorem RGt.set {b : Nat} {s t s' t' : ev_M} {j : Nat} {x k : Int32} (h : RGt b s t) (hx : x = cI 0 ∨ x = cI 1) (e1 : s'.1 180 = up1 (s.1 180) j x) (e2 : s'.1 181 = up1 (s.1 181) j k) (e3 : t'.1 673 = up1 (t.1 673) j x) (e4 : t'.1 674 = up1 (t.1 674) j k) : RGt b s' t' := by
  intro g hg
  rw [e1, e2, e3, e4]
  by_cases z : g = j
  · rw [z, up1_eq, up1_eq, up1_eq, up1_eq]; exact ⟨rfl, rfl, hx⟩
  · rw [up1_ne z, up1_ne z, up1_ne z, up1_ne z]; exact h g hg
def FgtC : List (Nat × (Nat × Nat)) := [(180, 180, 0), (181, 181, 0)]
def FgtM : List (Nat × (Nat × Nat)) := [(673, 673, 0), (674, 674, 0)]
theorem and_01 {x : Int32} (h : x = cI 0 ∨ x = cI 1) : x &&& 1 = x := by
  rcases h with h | h <;> rw [h] <;> decide
/-- one gate: what it stands at after an item came -/
def gnew (s : ev_M) (j : Nat) (k w : Int32) : Int32 := if s.1 181 j = cI (-1) then w else if (k - s.1 181 j) * s.1 172 1 < s.1 172 3 then s.1 180 j else w
theorem gat_c {s : ev_M} {k own j w : Int32} {k2 : ev_M → Int32 → Int32 → Int32 → Option (ev_M × Int32)} (hi : inb j 16 = true) (hw : w = cI 0 ∨ w = cI 1) (h01 : s.1 180 (ix j) = cI 0 ∨ s.1 180 (ix j) = cI 1) : ∃ s1, fRounds_binReached_b22 k2 s k own j w = (if gnew s (ix j) k w = 0 then k2 s1 k own (j + cI 1) else some (s1, j)) ∧ s1.1 180 = up1 (s.1 180) (ix j) (gnew s (ix j) k w) ∧ s1.1 181 = up1 (s.1 181) (ix j) k ∧ fr FgtC s s1 := by
  have aw := and_01 hw
  by_cases a1 : s.1 181 (ix j) = cI (-1)
  · have g : gnew s (ix j) k w = w := if_pos a1
    refine ⟨wI (wI s 180 (ix j) w) 181 (ix j) k, ?_, ?_, ?_, (fr.rf.wI rfl).wI rfl⟩
    · rw [g]
      simp (disch := decide) only [fRounds_binReached_b22, hi, if_true, if_pos a1, fRounds_binReached_b58, fRounds_binReached_b63, if_neg (show ¬ cI 1 = 0 by decide), ltM_eq, aw, fRounds_binReached_b78, ix_0, ix_1, ix_2, ix_3, ix_4, ix_5, ix_6, ix_7, ix_8, ix_9, ix_10, ix_11, ix_12, ix_13, ix_14, ix_15, ix_16, ix_17, ix_18, ix_19, ix_20, ix_21, Nat.reduceAdd, wI_c, wI_ne, wL_1, lupd_ne, up1_eq, up1_ne]
    · rw [g]; simp (disch := decide) only [ix_0, ix_1, ix_2, ix_3, ix_4, ix_5, ix_6, ix_7, ix_8, ix_9, ix_10, ix_11, ix_12, ix_13, ix_14, ix_15, ix_16, ix_17, ix_18, ix_19, ix_20, ix_21, Nat.reduceAdd, wI_c, wI_ne, wL_1, lupd_ne, up1_eq, up1_ne]
    · simp (disch := decide) only [ix_0, ix_1, ix_2, ix_3, ix_4, ix_5, ix_6, ix_7, ix_8, ix_9, ix_10, ix_11, ix_12, ix_13, ix_14, ix_15, ix_16, ix_17, ix_18, ix_19, ix_20, ix_21, Nat.reduceAdd, wI_c, wI_ne, wL_1, lupd_ne, up1_eq, up1_ne]
  · by_cases a2 : (k - s.1 181 (ix j)) * s.1 172 1 < s.1 172 3
    · have g : gnew s (ix j) k w = s.1 180 (ix j) := by unfold gnew; rw [if_neg a1, if_pos a2]
      refine ⟨wI s 181 (ix j) k, ?_, ?_, ?_, fr.rf.wI rfl⟩
      · rw [g]
        simp (disch := decide) only [fRounds_binReached_b22, hi, if_true, if_neg a1, ix_1, ix_3, if_pos a2, fRounds_binReached_b63, if_pos (show cI 0 = 0 from rfl), ltM_eq, fRounds_binReached_b78, ix_0, ix_1, ix_2, ix_3, ix_4, ix_5, ix_6, ix_7, ix_8, ix_9, ix_10, ix_11, ix_12, ix_13, ix_14, ix_15, ix_16, ix_17, ix_18, ix_19, ix_20, ix_21, Nat.reduceAdd, wI_c, wI_ne, wL_1, lupd_ne, up1_eq, up1_ne]
      · rw [g]; simp (disch := decide) only [ix_0, ix_1, ix_2, ix_3, ix_4, ix_5, ix_6, ix_7, ix_8, ix_9, ix_10, ix_11, ix_12, ix_13, ix_14, ix_15, ix_16, ix_17, ix_18, ix_19, ix_20, ix_21, Nat.reduceAdd, wI_c, wI_ne, wL_1, lupd_ne, up1_eq, up1_ne]; exact (up1_id rfl).symm
      · simp (disch := decide) only [ix_0, ix_1, ix_2, ix_3, ix_4, ix_5, ix_6, ix_7, ix_8, ix_9, ix_10, ix_11, ix_12, ix_13, ix_14, ix_15, ix_16, ix_17, ix_18, ix_19, ix_20, ix_21, Nat.reduceAdd, wI_c, wI_ne, wL_1, lupd_ne, up1_eq, up1_ne]
    · have g : gnew s (ix j) k w = w := by unfold gnew; rw [if_neg a1, if_neg a2]
      refine ⟨wI (wI s 180 (ix j) w) 181 (ix j) k, ?_, ?_, ?_, (fr.rf.wI rfl).wI rfl⟩
      · rw [g]
        simp (disch := decide) only [fRounds_binReached_b22, hi, if_true, if_neg a1, ix_1, ix_3, if_neg a2, fRounds_binReached_b58, fRounds_binReached_b63, if_neg (show ¬ cI 1 = 0 by decide), ltM_eq, aw, fRounds_binReached_b78, ix_0, ix_1, ix_2, ix_3, ix_4, ix_5, ix_6, ix_7, ix_8, ix_9, ix_10, ix_11, ix_12, ix_13, ix_14, ix_15, ix_16, ix_17, ix_18, ix_19, ix_20, ix_21, Nat.reduceAdd, wI_c, wI_ne, wL_1, lupd_ne, up1_eq, up1_ne]
      · rw [g]; simp (disch := decide) only [ix_0, ix_1, ix_2, ix_3, ix_4, ix_5, ix_6, ix_7, ix_8, ix_9, ix_10, ix_11, ix_12, ix_13, ix_14, ix_15, ix_16, ix_17, ix_18, ix_19, ix_20, ix_21, Nat.reduceAdd, wI_c, wI_ne, wL_1, lupd_ne, up1_eq, up1_ne]
      · simp (disch := decide) only [ix_0, ix_1, ix_2, ix_3, ix_4, ix_5, ix_6, ix_7, ix_8, ix_9, ix_10, ix_11, ix_12, ix_13, ix_14, ix_15, ix_16, ix_17, ix_18, ix_19, ix_20, ix_21, Nat.reduceAdd, wI_c, wI_ne, wL_1, lupd_ne, up1_eq, up1_ne]
theorem gat_m {s t : ev_M} {k own j w : Int32} {k2 : ev_M → Int32 → Int32 → Int32 → Option (ev_M × Int32)} (hi : inb j 16 = true) (hw : w = cI 0 ∨ w = cI 1) (h1 : t.1 673 (ix j) = s.1 180 (ix j)) (h2 : t.1 674 (ix j) = s.1 181 (ix j)) (h01 : s.1 180 (ix j) = cI 0 ∨ s.1 180 (ix j) = cI 1) (m1 : t.1 549 84 = s.1 172 1) (m2 : t.1 549 86 = s.1 172 3) : fM_gates_b20 k2 t k own j w = (if gnew s (ix j) k w = 0 then k2 (wI (wI t 673 (ix j) (gnew s (ix j) k w)) 674 (ix j) k) k own (j + cI 1) else some (wI (wI t 673 (ix j) (gnew s (ix j) k w)) 674 (ix j) k, j)) := by
  have aw := and_01 hw
  have a0 := and_01 h01
  by_cases a1 : s.1 181 (ix j) = cI (-1)
  · have g : gnew s (ix j) k w = w := if_pos a1
    rw [g]
    simp (disch := decide) only [fM_gates_b20, hi, if_true, h2, if_pos a1, fM_gates_b67, fM_gates_b68, if_pos (show cI 0 = 0 from rfl), fM_gates_b91, ltM_eq, aw, ix_0, ix_1, ix_2, ix_3, ix_4, ix_5, ix_6, ix_7, ix_8, ix_9, ix_10, ix_11, ix_12, ix_13, ix_14, ix_15, ix_16, ix_17, ix_18, ix_19, ix_20, ix_21, Nat.reduceAdd, wI_c, wI_ne, wL_1, lupd_ne, up1_eq, up1_ne]
  · by_cases a2 : (k - s.1 181 (ix j)) * s.1 172 1 < s.1 172 3
    · have g : gnew s (ix j) k w = s.1 180 (ix j) := by unfold gnew; rw [if_neg a1, if_pos a2]
      rw [g]
      by_cases a3 : w = s.1 180 (ix j)
      · simp (disch := decide) only [fM_gates_b20, hi, if_true, h2, if_neg a1, h1, if_pos a3, fM_gates_b67, fM_gates_b68, if_pos (show cI 0 = 0 from rfl), fM_gates_b91, ltM_eq, aw, ix_0, ix_1, ix_2, ix_3, ix_4, ix_5, ix_6, ix_7, ix_8, ix_9, ix_10, ix_11, ix_12, ix_13, ix_14, ix_15, ix_16, ix_17, ix_18, ix_19, ix_20, ix_21, Nat.reduceAdd, wI_c, wI_ne, wL_1, lupd_ne, up1_eq, up1_ne]
        rw [← a3]
      · simp (disch := decide) only [fM_gates_b20, hi, if_true, h2, if_neg a1, h1, if_neg a3, m1, m2, if_pos a2, fM_gates_b68, if_neg (show ¬ cI 1 = 0 by decide), fM_gates_b91, ltM_eq, a0, ix_0, ix_1, ix_2, ix_3, ix_4, ix_5, ix_6, ix_7, ix_8, ix_9, ix_10, ix_11, ix_12, ix_13, ix_14, ix_15, ix_16, ix_17, ix_18, ix_19, ix_20, ix_21, Nat.reduceAdd, wI_c, wI_ne, wL_1, lupd_ne, up1_eq, up1_ne]
    · have g : gnew s (ix j) k w = w := by unfold gnew; rw [if_neg a1, if_neg a2]
      rw [g]
      by_cases a3 : w = s.1 180 (ix j)
      · simp (disch := decide) only [fM_gates_b20, hi, if_true, h2, if_neg a1, h1, if_pos a3, fM_gates_b67, fM_gates_b68, if_pos (show cI 0 = 0 from rfl), fM_gates_b91, ltM_eq, aw, ix_0, ix_1, ix_2, ix_3, ix_4, ix_5, ix_6, ix_7, ix_8, ix_9, ix_10, ix_11, ix_12, ix_13, ix_14, ix_15, ix_16, ix_17, ix_18, ix_19, ix_20, ix_21, Nat.reduceAdd, wI_c, wI_ne, wL_1, lupd_ne, up1_eq, up1_ne]
      · simp (disch := decide) only [fM_gates_b20, hi, if_true, h2, if_neg a1, h1, if_neg a3, m1, m2, if_neg a2, fM_gates_b67, fM_gates_b68, if_pos (show cI 0 = 0 from rfl), fM_gates_b91, ltM_eq, aw, ix_0, ix_1, ix_2, ix_3, ix_4, ix_5, ix_6, ix_7, ix_8, ix_9, ix_10, ix_11, ix_12, ix_13, ix_14, ix_15, ix_16, ix_17, ix_18, ix_19, ix_20, ix_21, Nat.reduceAdd, wI_c, wI_ne, wL_1, lupd_ne, up1_eq, up1_ne]
/-- an item goes along the gates, class and reference -/
theorem gat_lp {k own : Int32} : ∀ (r n n' : Nat) (s t : ev_M) (j : Int32), 0 ≤ j.toInt → j.toInt + r = (s.1 172 0).toInt → r < n → r < n' → RGt (ix (s.1 172 0)) s t → RMch s t → ∃ s' t' v, fRounds_binReached_h2 n s k own j = some (s', v) ∧ fM_gates_h2 n' t k own j = some (t', v) ∧ RGt (ix (s.1 172 0)) s' t' ∧ fr FgtC s s' ∧ fr FgtM t t' ∧ 0 ≤ v.toInt ∧ v.toInt ≤ (s.1 172 0).toInt
  | 0, n, n', s, t, j, h0, h1, hn, hn', hg, hM => by
    obtain ⟨n, rfl⟩ : ∃ k, n = k + 1 := ⟨n - 1, by omega⟩
    obtain ⟨n', rfl⟩ : ∃ k, n' = k + 1 := ⟨n' - 1, by omega⟩
    obtain ⟨⟨m1, m2, m3⟩, -⟩ := id hM
    have hj : ¬ j < s.1 172 0 := by rw [lt_i]; omega
    refine ⟨s, t, s.1 172 0, ?_, ?_, hg, fr.rf, fr.rf, by omega, by omega⟩
    · rw [fRounds_binReached_h2, ix_0, if_neg hj]
    · simp only [fM_gates_h2, m1, if_neg hj]
  | r + 1, n, n', s, t, j, h0, h1, hn, hn', hg, hM => by
    obtain ⟨n, rfl⟩ : ∃ k, n = k + 1 := ⟨n - 1, by omega⟩
    obtain ⟨n', rfl⟩ : ∃ k, n' = k + 1 := ⟨n' - 1, by omega⟩
    obtain ⟨⟨m1, m2, m3⟩, ⟨p1, -⟩, -, ⟨p2, -⟩⟩ := id hM
    have hj : j < s.1 172 0 := by rw [lt_i]; omega
    have hi : inb j 16 = true := inb_iff.mpr ⟨h0, by omega⟩
    have et : (j + cI 1).toInt = j.toInt + 1 := inc_i (by omega)
    have jn : ix j < ix (s.1 172 0) := by rw [ix_toNat, ix_toNat]; omega
    obtain ⟨g1, g2, g3⟩ := hg _ jn
    have hw : ∃ w, (w = cI 0 ∨ w = cI 1) ∧ fRounds_binReached_h2 (n + 1) s k own j = fRounds_binReached_b22 (fRounds_binReached_h2 n) s k own j w ∧ fM_gates_h2 (n' + 1) t k own j = fM_gates_b20 (fM_gates_h2 n') t k own j w := by
      by_cases z : j = own
      · refine ⟨cI 1, Or.inr rfl, ?_, ?_⟩
        · rw [fRounds_binReached_h2, ix_0, if_pos hj, if_pos z]
        · rw [fM_gates_h2, m1, if_pos hj, if_pos z]
      · refine ⟨cI 0, Or.inl rfl, ?_, ?_⟩
        · rw [fRounds_binReached_h2, ix_0, if_pos hj, if_neg z]
        · rw [fM_gates_h2, m1, if_pos hj, if_neg z]
    obtain ⟨w, w01, wc, wm⟩ := hw
    obtain ⟨s1, c1, c2, c3, c4⟩ := gat_c (s := s) (k := k) (own := own) (j := j) (w := w) (k2 := fRounds_binReached_h2 n) hi w01 g3
    have d1 := gat_m (s := s) (t := t) (k := k) (own := own) (j := j) (w := w) (k2 := fM_gates_h2 n') hi w01 g1 g2 g3 p1 p2
    have n01 : gnew s (ix j) k w = cI 0 ∨ gnew s (ix j) k w = cI 1 := by
      unfold gnew
      split
      · exact w01
      · split
        · exact g3
        · exact w01
    have f2 : fr FgtM t (wI (wI t 673 (ix j) (gnew s (ix j) k w)) 674 (ix j) k) := (fr.rf.wI rfl).wI rfl
    have hg1 : RGt (ix (s.1 172 0)) s1 (wI (wI t 673 (ix j) (gnew s (ix j) k w)) 674 (ix j) k) := hg.set n01 c2 c3 (by simp (disch := decide) only [ix_0, ix_1, ix_2, ix_3, ix_4, ix_5, ix_6, ix_7, ix_8, ix_9, ix_10, ix_11, ix_12, ix_13, ix_14, ix_15, ix_16, ix_17, ix_18, ix_19, ix_20, ix_21, Nat.reduceAdd, wI_c, wI_ne, wL_1, lupd_ne, up1_eq, up1_ne]) (by simp (disch := decide) only [ix_0, ix_1, ix_2, ix_3, ix_4, ix_5, ix_6, ix_7, ix_8, ix_9, ix_10, ix_11, ix_12, ix_13, ix_14, ix_15, ix_16, ix_17, ix_18, ix_19, ix_20, ix_21, Nat.reduceAdd, wI_c, wI_ne, wL_1, lupd_ne, up1_eq, up1_ne])
    rw [wc, wm, c1, d1]
    by_cases z : gnew s (ix j) k w = 0
    · rw [if_pos z, if_pos z]
      have x172 : s1.1 172 = s.1 172 := (nof_c c4 (L := [(172, 0)]) rfl (c := 172) rfl).1
      obtain ⟨s', t', v, v1, v2, v3, v4, v5, v6, v7⟩ := gat_lp (k := k) (own := own) r n n' s1 (wI (wI t 673 (ix j) (gnew s (ix j) k w)) 674 (ix j) k) (j + cI 1) (by omega) (by rw [x172]; omega) (by omega) (by omega) (by rw [x172]; exact hg1) (hM.keep c4 f2 rfl rfl)
      rw [x172] at v3 v7
      exact ⟨s', t', v, v1, v2, v3, c4.tr v4, f2.tr v5, v6, v7⟩
    · rw [if_neg z, if_neg z]
      exact ⟨s1, _, j, rfl, rfl, hg1, c4, f2, h0, by omega⟩
