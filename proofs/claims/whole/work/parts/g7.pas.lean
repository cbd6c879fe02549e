/-! ===== LEVEL 3: the sorting machine: a pass, its gates shut and its items fed ===== -/
/-- the row that is fed, class and reference -/
def RFd (F : List Nat) (s t : ev_M) : Prop := F.Nodup ∧ (∀ x, x ∈ F → x < 300) ∧ (s.1 138 12).toInt = (F.length : Int) ∧ t.1 549 166 = s.1 138 12 ∧ (∀ q (h : q < F.length), s.1 174 q = cI ((F[q] : Nat) : Int) ∧ t.1 668 q = cI ((F[q] : Nat) : Int)) ∧ (∀ x, x ∈ F → t.1 671 x = s.1 177 x ∧ t.1 610 x = s.1 179 x ∧ (s.1 179 x = cI 0 ∨ s.1 179 x = cI 1)) ∧ (∀ x, x < 300 → x ∉ F → t.1 610 x = cI 0)
theorem nodup_le {l : List Nat} {n : Nat} (h : l.Nodup) (hb : ∀ x, x ∈ l → x < n) : l.length ≤ n := by
  have := cnt_list (f := fun i => if i ∈ l then 1 else 0) (x := 1) n l h (fun i => by
    constructor
    · intro q; exact ⟨hb i q, if_pos q⟩
    · rintro ⟨-, q⟩
      apply Classical.byContradiction
      intro z
      rw [if_neg z] at q
      exact absurd q (by decide))
  rw [this]
  exact cntE_le n
theorem RFd.len {F : List Nat} {s t : ev_M} (h : RFd F s t) : F.length ≤ 300 := nodup_le h.1 h.2.1
theorem RFd.keep {F : List Nat} {s t s' t' : ev_M} {A B : List (Nat × (Nat × Nat))} (h : RFd F s t) (hs : fr A s s') (ht : fr B t t') (d1 : nof A [(138, 13), (174, 0), (177, 0), (179, 0)] = true) (d2 : nof B [(549, 167), (668, 0), (671, 0), (610, 0)] = true) : RFd F s' t' := by
  have e1 : s'.1 138 12 = s.1 138 12 := (nof_s hs d1 (c := 138) (k := 12) rfl).1
  have e2 : t'.1 549 166 = t.1 549 166 := (nof_s ht d2 (c := 549) (k := 166) rfl).1
  have e3 : s'.1 174 = s.1 174 := (nof_c hs d1 (c := 174) rfl).1
  have e4 : s'.1 177 = s.1 177 := (nof_c hs d1 (c := 177) rfl).1
  have e5 : s'.1 179 = s.1 179 := (nof_c hs d1 (c := 179) rfl).1
  have e6 : t'.1 668 = t.1 668 := (nof_c ht d2 (c := 668) rfl).1
  have e7 : t'.1 671 = t.1 671 := (nof_c ht d2 (c := 671) rfl).1
  have e8 : t'.1 610 = t.1 610 := (nof_c ht d2 (c := 610) rfl).1
  unfold RFd at h ⊢
  rw [e1, e2, e3, e4, e5, e6, e7, e8]
  exact h
theorem ini_lp {by' b : Int32} (hb : b.toInt ≤ 16) : ∀ (r n n' : Nat) (s t : ev_M) (j : Int32), 0 ≤ j.toInt → j.toInt + r = b.toInt → r < n → r < n' → t.1 549 83 = b → RGt (ix j) s t → ∃ s' t', fRounds_feedPass_h20 n s by' b j = fRounds_feedPass_h47 1048576 s' by' b (cI 0) ∧ fM_pass_h2 n' t by' j = fM_pass_h32 1048576 t' by' (cI 0) ∧ RGt (ix b) s' t' ∧ fr FgtC s s' ∧ fr FgtM t t'
  | 0, n, n', s, t, j, h0, h1, hn, hn', hm, hg => by
    obtain ⟨n, rfl⟩ : ∃ k, n = k + 1 := ⟨n - 1, by omega⟩
    obtain ⟨n', rfl⟩ : ∃ k, n' = k + 1 := ⟨n' - 1, by omega⟩
    have hj : ¬ j < b := by rw [lt_i]; omega
    have ej : ix j = ix b := by rw [ix_toNat, ix_toNat]; omega
    rw [ej] at hg
    refine ⟨s, t, ?_, ?_, hg, fr.rf, fr.rf⟩
    · rw [fRounds_feedPass_h20, if_neg hj]
    · rw [fM_pass_h2, hm, if_neg hj]
  | r + 1, n, n', s, t, j, h0, h1, hn, hn', hm, hg => by
    obtain ⟨n, rfl⟩ : ∃ k, n = k + 1 := ⟨n - 1, by omega⟩
    obtain ⟨n', rfl⟩ : ∃ k, n' = k + 1 := ⟨n' - 1, by omega⟩
    have hj : j < b := by rw [lt_i]; omega
    have hi : inb j 16 = true := inb_iff.mpr ⟨h0, by omega⟩
    have ei : ix (j + cI 1) = ix j + 1 := ix_inc h0 (by omega)
    have et : (j + cI 1).toInt = j.toInt + 1 := inc_i (by omega)
    have f1 : fr FgtC s (wI (wI s 180 (ix j) (cI 0)) 181 (ix j) (cI (-1))) := (fr.rf.wI rfl).wI rfl
    have f2 : fr FgtM t (wI (wI t 673 (ix j) (cI 0)) 674 (ix j) (cI (-1))) := (fr.rf.wI rfl).wI rfl
    obtain ⟨s', t', y1, y2, y3, y4, y5⟩ := ini_lp (by' := by') hb r n n' (wI (wI s 180 (ix j) (cI 0)) 181 (ix j) (cI (-1))) (wI (wI t 673 (ix j) (cI 0)) 674 (ix j) (cI (-1))) (j + cI 1) (by omega) (by omega) (by omega) (by omega) (by rw [(f2.1 549 83 rfl).1]; exact hm) (by
      rw [ei]
      intro g hgl
      simp (disch := decide) only [ix_0, ix_1, ix_2, ix_3, ix_4, ix_5, ix_6, ix_7, ix_8, ix_9, ix_10, ix_11, ix_12, ix_13, ix_14, ix_15, ix_16, ix_17, ix_18, ix_19, ix_20, ix_21, Nat.reduceAdd, wI_c, wI_ne, wL_1, lupd_ne, up1_eq, up1_ne]
      by_cases z : g = ix j
      · rw [z, up1_eq, up1_eq, up1_eq, up1_eq]; exact ⟨rfl, rfl, Or.inl rfl⟩
      · rw [up1_ne z, up1_ne z, up1_ne z, up1_ne z]; exact hg g (by omega))
    refine ⟨s', t', ?_, ?_, y3, f1.tr y4, f2.tr y5⟩
    · rw [fRounds_feedPass_h20, if_pos hj, if_pos hi, ltM_eq, if_pos hi, ltM_eq, show cI 0 &&& 1 = cI 0 by decide]
      exact y1
    · rw [fM_pass_h2, hm, if_pos hj, if_pos hi, ltM_eq, if_pos hi, ltM_eq, show cI 0 &&& 1 = cI 0 by decide]
      exact y2
def FfdC : List (Nat × (Nat × Nat)) := [(178, 178, 0), (179, 179, 0), (180, 180, 0), (181, 181, 0)]
def FfdM : List (Nat × (Nat × Nat)) := [(672, 672, 0), (610, 610, 0), (673, 673, 0), (674, 674, 0)]
/-- the items of a pass go along the gates -/
theorem fed_lp {by' : Int32} {F : List Nat} (hby : ¬ by' = 0) : ∀ (r n n' k : Nat) (s t : ev_M) (j : Int32), k + r = F.length → j.toInt = (k : Int) → r < n → r < n' → RFd F s t → RMch s t → RGt (ix (s.1 172 0)) s t → (∀ q (h : q < F.length), q < k → s.1 178 F[q] = t.1 672 q ∧ 0 ≤ (t.1 672 q).toInt ∧ (t.1 672 q).toInt ≤ (s.1 172 0).toInt) → ∃ s' t', fRounds_feedPass_h47 n s by' (s.1 172 0) j = fRounds_feedPass_h129 1048576 s' (s.1 172 0) (cI 0) (cI 0) ∧ fM_pass_h32 n' t by' j = fM_pass_h121 1048576 t' (cI 0) (cI 0) ∧ RFd F s' t' ∧ (∀ q (h : q < F.length), s'.1 178 F[q] = t'.1 672 q ∧ 0 ≤ (t'.1 672 q).toInt ∧ (t'.1 672 q).toInt ≤ (s.1 172 0).toInt) ∧ fr FfdC s s' ∧ fr FfdM t t'
  | 0, n, n', k, s, t, j, h0, h1, hn, hn', hF, hM, hg, hb => by
    obtain ⟨n, rfl⟩ : ∃ k, n = k + 1 := ⟨n - 1, by omega⟩
    obtain ⟨n', rfl⟩ : ∃ k, n' = k + 1 := ⟨n' - 1, by omega⟩
    obtain ⟨-, -, f3, f4, -⟩ := id hF
    have hj : ¬ j < s.1 138 12 := by rw [lt_i]; omega
    refine ⟨s, t, ?_, ?_, hF, fun q h => hb q h (by omega), fr.rf, fr.rf⟩
    · rw [fRounds_feedPass_h47, if_neg hj]
    · rw [fM_pass_h32, f4, if_neg hj]
  | r + 1, n, n', k, s, t, j, h0, h1, hn, hn', hF, hM, hg, hb => by
    obtain ⟨n, rfl⟩ : ∃ k, n = k + 1 := ⟨n - 1, by omega⟩
    obtain ⟨n', rfl⟩ : ∃ k, n' = k + 1 := ⟨n' - 1, by omega⟩
    have l300 := hF.len
    obtain ⟨f1, f2, f3, f4, f5, f6, f7⟩ := id hF
    obtain ⟨⟨m1, m2, m3⟩, -⟩ := id hM
    have hj : j < s.1 138 12 := by rw [lt_i]; omega
    have hi : inb j 300 = true := inb_iff.mpr ⟨by omega, by omega⟩
    have et : (j + cI 1).toInt = ((k + 1 : Nat) : Int) := by rw [inc_i (by omega)]; omega
    have ej : ix j = k := by rw [ix_toNat]; omega
    have kl : k < F.length := by omega
    obtain ⟨e1, e2⟩ := f5 k kl
    have xm : F[k] ∈ F := List.getElem_mem kl
    have x3 := f2 _ xm
    have hx : inb (cI ((F[k] : Nat) : Int)) 300 = true := inb_iff.mpr ⟨by rw [cI_toInt (by omega) (by omega)]; omega, by rw [cI_toInt (by omega) (by omega)]; omega⟩
    have xi : ix (cI ((F[k] : Nat) : Int)) = F[k] := ix_n _ (by omega)
    obtain ⟨g1, g2, g3⟩ := f6 _ xm
    have nb : ¬ s.1 172 0 = 0 := fun z => by rw [z] at m2; exact absurd m2 (by decide)
    obtain ⟨s1, t1, v, v1, v2, v3, v4, v5, v6, v7⟩ := gat_lp (k := j) (own := irem (s.1 177 F[k] / by') (s.1 172 0)) (ix (s.1 172 0)) 1048576 1048576 s t (cI 0) (by decide) (by rw [ix_toNat, show (cI 0).toInt = 0 from rfl]; omega) (by rw [ix_toNat]; omega) (by rw [ix_toNat]; omega) hg hM
    have v1' : fRounds_binReached s j (irem (s.1 177 F[k] / by') (s.1 172 0)) = some (s1, v) := v1
    have v2' : fM_gates t j (irem (s.1 177 F[k] / by') (s.1 172 0)) = some (t1, v) := v2
    have c179 : s1.1 179 = s.1 179 := (nof_c v4 (L := [(179, 0)]) rfl (c := 179) rfl).1
    have c178 : s1.1 178 = s.1 178 := (nof_c v4 (L := [(178, 0)]) rfl (c := 178) rfl).1
    have c138 : s1.1 138 = s.1 138 := (nof_c v4 (L := [(138, 0)]) rfl (c := 138) rfl).1
    have c172 : s1.1 172 = s.1 172 := (nof_c v4 (L := [(172, 0)]) rfl (c := 172) rfl).1
    have d610 : t1.1 610 = t.1 610 := (nof_c v5 (L := [(610, 0)]) rfl (c := 610) rfl).1
    have d668 : t1.1 668 = t.1 668 := (nof_c v5 (L := [(668, 0)]) rfl (c := 668) rfl).1
    have d672 : t1.1 672 = t.1 672 := (nof_c v5 (L := [(672, 0)]) rfl (c := 672) rfl).1
    -- what is told of straying
    have key : ∃ y s2 t2, (y = cI 0 ∨ y = cI 1) ∧ fRounds_feedPass_h47 (n + 1) s by' (s.1 172 0) j = fRounds_feedPass_h47 n s2 by' (s.1 172 0) (j + cI 1) ∧ fM_pass_h32 (n' + 1) t by' j = fM_pass_h32 n' t2 by' (j + cI 1) ∧ s2.1 178 = up1 (s.1 178) F[k] v ∧ s2.1 179 = up1 (s.1 179) F[k] y ∧ t2.1 672 = up1 (t.1 672) k v ∧ t2.1 610 = up1 (t.1 610) F[k] y ∧ fr [(178, 178, 0), (179, 179, 0)] s1 s2 ∧ fr [(672, 672, 0), (610, 610, 0)] t1 t2 := by
      have hd1 : fRounds_feedPass_h47 (n + 1) s by' (s.1 172 0) j = (if v = irem (s.1 177 F[k] / by') (s.1 172 0) then fRounds_feedPass_h47 n (wI s1 178 F[k] v) by' (s.1 172 0) (j + cI 1) else fRounds_feedPass_h47 n (wI (wI s1 178 F[k] v) 179 F[k] (cI 1)) by' (s.1 172 0) (j + cI 1)) := by
        rw [fRounds_feedPass_h47]
        simp (disch := decide) only [if_pos hj, hi, if_true, ltI_eq, ej, e1, hx, if_neg hby, if_neg nb, ix_0, ix_1, ix_2, Nat.add_zero, Nat.reduceAdd, xi, v1', bd2_some, ltM_eq, ix_0, ix_1, ix_2, ix_3, ix_4, ix_5, ix_6, ix_7, ix_8, ix_9, ix_10, ix_11, ix_12, ix_13, ix_14, ix_15, ix_16, ix_17, ix_18, ix_19, ix_20, ix_21, Nat.reduceAdd, wI_c, wI_ne, wL_1, lupd_ne, up1_eq, up1_ne, fRounds_feedPass_b118]
      have hd2 : fM_pass_h32 (n' + 1) t by' j = (if t.1 610 F[k] = 0 then (if v = irem (s.1 177 F[k] / by') (s.1 172 0) then fM_pass_h32 n' (wI (wI t1 672 k v) 610 F[k] (cI 0)) by' (j + cI 1) else fM_pass_h32 n' (wI (wI t1 672 k v) 610 F[k] (cI 1)) by' (j + cI 1)) else fM_pass_h32 n' (wI (wI t1 672 k v) 610 F[k] (cI 1)) by' (j + cI 1)) := by
        rw [fM_pass_h32]
        simp (disch := decide) only [f4, if_pos hj, hi, if_true, ltI_eq, ej, e2, hx, if_neg hby, m1, if_neg nb, xi, g1, v2', bd2_some, ltM_eq, ix_0, ix_1, ix_2, ix_3, ix_4, ix_5, ix_6, ix_7, ix_8, ix_9, ix_10, ix_11, ix_12, ix_13, ix_14, ix_15, ix_16, ix_17, ix_18, ix_19, ix_20, ix_21, Nat.reduceAdd, wI_c, wI_ne, wL_1, lupd_ne, up1_eq, up1_ne, d668, d610, fM_pass_b110, fM_pass_b105, show cI 0 &&& 1 = cI 0 by decide, show cI 1 &&& 1 = cI 1 by decide]
      rw [hd1, hd2]
      by_cases z : v = irem (s.1 177 F[k] / by') (s.1 172 0)
      · rcases g3 with w | w
        · have w2 : t.1 610 F[k] = 0 := by rw [g2, w]; rfl
          refine ⟨cI 0, wI s1 178 F[k] v, wI (wI t1 672 k v) 610 F[k] (cI 0), Or.inl rfl, by rw [if_pos z], by rw [if_pos w2, if_pos z], ?_, ?_, ?_, ?_, fr.rf.wI rfl, (fr.rf.wI rfl).wI rfl⟩
          · rw [wI_c, c178]
          · rw [wI_ne (by decide), c179]; exact (up1_id w).symm
          · rw [wI_ne (by decide), wI_c, d672]
          · rw [wI_c, wI_ne (by decide), d610]
        · have w2 : ¬ t.1 610 F[k] = 0 := by rw [g2, w]; decide
          refine ⟨cI 1, wI s1 178 F[k] v, wI (wI t1 672 k v) 610 F[k] (cI 1), Or.inr rfl, by rw [if_pos z], by rw [if_neg w2], ?_, ?_, ?_, ?_, fr.rf.wI rfl, (fr.rf.wI rfl).wI rfl⟩
          · rw [wI_c, c178]
          · rw [wI_ne (by decide), c179]; exact (up1_id w).symm
          · rw [wI_ne (by decide), wI_c, d672]
          · rw [wI_c, wI_ne (by decide), d610]
      · refine ⟨cI 1, wI (wI s1 178 F[k] v) 179 F[k] (cI 1), wI (wI t1 672 k v) 610 F[k] (cI 1), Or.inr rfl, by rw [if_neg z], by rw [if_neg z, ite_self], ?_, ?_, ?_, ?_, (fr.rf.wI rfl).wI rfl, (fr.rf.wI rfl).wI rfl⟩
        · rw [wI_ne (by decide), wI_c, c178]
        · rw [wI_c, wI_ne (by decide), c179]
        · rw [wI_ne (by decide), wI_c, d672]
        · rw [wI_c, wI_ne (by decide), d610]
    obtain ⟨y, s2, t2, y01, k1, k2, k3, k4, k5, k6, k7, k8⟩ := key
    have fC : fr FfdC s s2 := (v4.mono (by decide +kernel)).tr (k7.mono (by decide +kernel))
    have fM : fr FfdM t t2 := (v5.mono (by decide +kernel)).tr (k8.mono (by decide +kernel))
    have x172 : s2.1 172 = s.1 172 := (nof_c fC (L := [(172, 0)]) rfl (c := 172) rfl).1
    have x180 : s2.1 180 = s1.1 180 ∧ s2.1 181 = s1.1 181 ∧ t2.1 673 = t1.1 673 ∧ t2.1 674 = t1.1 674 := ⟨(nof_c k7 (L := [(180, 0)]) rfl (c := 180) rfl).1, (nof_c k7 (L := [(181, 0)]) rfl (c := 181) rfl).1, (nof_c k8 (L := [(673, 0)]) rfl (c := 673) rfl).1, (nof_c k8 (L := [(674, 0)]) rfl (c := 674) rfl).1⟩
    have hg2 : RGt (ix (s.1 172 0)) s2 t2 := fun g hgl => by
      obtain ⟨q1, q2, q3, q4⟩ := x180
      rw [q1, q2, q3, q4]; exact v3 g hgl
    have hF2 : RFd F s2 t2 := by
      refine ⟨f1, f2, ?_, ?_, fun q h => ?_, fun x hxm => ?_, fun x hx hnm => ?_⟩
      · rw [(fC.1 138 12 (by decide +kernel)).1]; exact f3
      · rw [(fM.1 549 166 (by decide +kernel)).1, (fC.1 138 12 (by decide +kernel)).1]; exact f4
      · rw [(nof_c fC (L := [(174, 0)]) rfl (c := 174) rfl).1, (nof_c fM (L := [(668, 0)]) rfl (c := 668) rfl).1]; exact f5 q h
      · rw [(nof_c fC (L := [(177, 0)]) rfl (c := 177) rfl).1, (nof_c fM (L := [(671, 0)]) rfl (c := 671) rfl).1, k4, k6]
        by_cases z : x = F[k]
        · rw [z, up1_eq, up1_eq]; exact ⟨g1, rfl, y01⟩
        · rw [up1_ne z, up1_ne z]; exact f6 x hxm
      · rw [k6, up1_ne (fun z => hnm (by rw [z]; exact xm))]; exact f7 x hx hnm
    obtain ⟨s', t', u1, u2, u3, u4, u5, u6⟩ := fed_lp (by' := by') (F := F) hby r n n' (k + 1) s2 t2 (j + cI 1) (by omega) et (by omega) (by omega) hF2 (hM.keep fC fM rfl rfl) (by rw [x172]; exact hg2) (fun q h hq => by
      rw [k3, k5, x172]
      by_cases z : q = k
      · subst z
        rw [up1_eq, up1_eq]
        exact ⟨rfl, v6, v7⟩
      · have pg := List.pairwise_iff_getElem.mp f1
        have ne : F[q] ≠ F[k] := by
          rcases Nat.lt_or_gt_of_ne z with u | u
          · exact pg q k h kl u
          · exact fun w => pg k q kl h u w.symm
        rw [up1_ne ne, up1_ne z]
        exact hb q h (by omega))
    rw [x172] at u1 u4
    exact ⟨s', t', k1.trans u1, k2.trans u2, u3, u4, fC.tr u5, fM.tr u6⟩
