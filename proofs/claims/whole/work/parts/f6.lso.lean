/-! ===== LEVEL 3: the act lose, whole ===== -/
theorem rd_lp {k : Nat} {i : Int32} {L : Nat → List Nat} (hk : k < 300) (hi : i = cI (k : Int)) : ∀ (r n : Nat) (s : ev_M) (j : Int32), 0 ≤ j.toInt → j.toInt + r = (s.1 138 3).toInt → (s.1 138 3).toInt ≤ 12 → r < n → (∀ q, q < ix (s.1 138 3) → (L q).length ≤ 300 ∧ (∀ z, z ∈ L q → z < 300) ∧ Hol (s.1 (160 + q)) (s.1 144 q) (if q < ix j then wof k (L q) else L q)) → ∃ s', fRounds_drop_h15 n s i j = some s' ∧ (∀ q, q < ix (s.1 138 3) → Hol (s'.1 (160 + q)) (s'.1 144 q) (wof k (L q))) ∧ fr [(144, 144, 0), (160, 171, 0)] s s'
  | 0, n, s, j, h0, h1, h2, hn, hL => by
    obtain ⟨n, rfl⟩ : ∃ k, n = k + 1 := ⟨n - 1, by omega⟩
    have hj : ¬ j < s.1 138 3 := by rw [lt_i]; omega
    have ej : ix j = ix (s.1 138 3) := by rw [ix_toNat, ix_toNat]; omega
    refine ⟨s, ?_, fun q hq => ?_, fr.rf⟩
    · simp only [fRounds_drop_h15, if_neg hj]
    · have := (hL q hq).2.2
      rw [if_pos (by omega)] at this
      exact this
  | r + 1, n, s, j, h0, h1, h2, hn, hL => by
    obtain ⟨n, rfl⟩ : ∃ k, n = k + 1 := ⟨n - 1, by omega⟩
    have hj : j < s.1 138 3 := by rw [lt_i]; omega
    have hc : inb j 12 = true := inb_iff.mpr ⟨h0, by omega⟩
    have ei : ix (j + cI 1) = ix j + 1 := ix_inc h0 (by omega)
    have et : (j + cI 1).toInt = j.toInt + 1 := inc_i (by omega)
    have j12 : ix j < 12 := by rw [ix_toNat]; omega
    have jn : ix j < ix (s.1 138 3) := by rw [ix_toNat, ix_toNat]; omega
    obtain ⟨l1, l2, l3⟩ := hL (ix j) jn
    rw [if_neg (by omega)] at l3
    obtain ⟨s1, v, r1, r2, r3, r4⟩ := e_wo_160 (k := k) l1 l2 hk l3
    rw [← hi] at r1
    have f1 : fr [(144, 144, 0), (160, 171, 0)] s s1 := by
      refine ⟨fun c q hc2 => ⟨?_, by rw [r4]⟩, by rw [r4]⟩
      by_cases y : c = 160 + ix j
      · have := inF_row (F := [(144, 144, 0), (160, 171, 0)]) (c := c) (k := q) (lo := 160) (hi := 171) (by decide +kernel) (by omega) (by omega)
        rw [this] at hc2
        cases hc2
      · rw [r3 c y]
    have f2 : fr [(144, 144, 0), (160, 171, 0)] s (wI s1 144 (ix j) v) := f1.wI rfl
    have w138 : (wI s1 144 (ix j) v).1 138 3 = s.1 138 3 := (f2.1 138 3 (by decide +kernel)).1
    have w144 : (wI s1 144 (ix j) v).1 144 = up1 (s.1 144) (ix j) v := by rw [wI_c, r3 144 (by omega)]
    obtain ⟨s', x1, x2, x3⟩ := rd_lp hk hi r n (wI s1 144 (ix j) v) (j + cI 1) (by omega) (by rw [w138]; omega) (by rw [w138]; exact h2) (by omega) (by
      rw [w138, ei, w144]
      intro q hq
      obtain ⟨y1, y2, y3⟩ := hL q hq
      refine ⟨y1, y2, ?_⟩
      by_cases z : q = ix j
      · rw [z, up1_eq, if_pos (by omega), wI_ne (by omega)]
        exact r2
      · rw [up1_ne z, wI_ne (by omega), r3 (160 + q) (by omega)]
        by_cases y : q < ix j
        · rw [if_pos y] at y3
          rw [if_pos (by omega)]; exact y3
        · rw [if_neg y] at y3
          rw [if_neg (by omega)]; exact y3)
    rw [w138] at x2
    refine ⟨s', ?_, x2, f2.tr x3⟩
    simp only [fRounds_drop_h15, if_pos hj, if_pos hc, ix_4, Nat.reduceAdd, r1, bd2_some, ltM_eq]
    exact x1
section
variable {s t : ev_M}
/-- an item out of its row, if it is in one -/
theorem drop_r {i : Int32} (h : RRw s t) (hr : RRo s t) (hx : RSx s t) (n3 : (s.1 100 5).toInt ≤ 300) (hi : Has i (s.1 100 5)) : ∃ s', fRounds_drop s i = some s' ∧ fr [(144, 144, 0), (160, 171, 0)] s s' ∧ ∀ t', t'.1 595 = up1 (t.1 595) (ix i) (cI (-1)) → t'.1 596 = t.1 596 → RRw s' t' := by
  obtain ⟨⟨m1, m2, m3⟩, -⟩ := id hr
  have hb : inb i 300 = true := hi.inb n3
  have w := hi.ix
  have ic : cI ((ix i : Nat) : Int) = i := cI_ix hi.1
  have i300 : ix i < 300 := by have := hi.1; have := hi.2; rw [ix_toNat]; omega
  have n12 : ix (s.1 138 3) ≤ 12 := by rw [ix_toNat]; omega
  have n300 : ix (s.1 100 5) ≤ 300 := by rw [ix_toNat]; omega
  by_cases z : s.1 102 (ix i) = cI 3
  rotate_left
  · have e1 := (hx _ w).2.1 z
    refine ⟨s, ?_, fr.rf, fun t' e2 e3 => ?_⟩
    · simp only [fRounds_drop, fItems_is, if_pos hb, ix_0, Nat.add_zero, eq_false z, if_false, bd1_some, if_pos (show cI 0 = 0 from rfl)]
    · rw [up1_id e1] at e2
      unfold RRw at h ⊢
      rw [e2, e3]; exact h
  have hL : ∀ q, ∃ l, q < ix (s.1 138 3) → Hol (rowsOf s 160 12 q) (s.1 144 q) l ∧ l.Pairwise (fun a b => (t.1 596 a).toInt < (t.1 596 b).toInt) ∧ ∀ i, i ∈ l ↔ i < ix (s.1 100 5) ∧ t.1 595 i = cI (q : Int) := fun q => by
    by_cases y : q < ix (s.1 138 3)
    · obtain ⟨l, hl⟩ := h.2 q y
      exact ⟨l, fun _ => hl⟩
    · exact ⟨[], fun u => absurd u y⟩
  obtain ⟨L, hL⟩ := Classical.axiomOfChoice hL
  have hb3 : ∀ q, q < ix (s.1 138 3) → (∀ y, y ∈ L q → y < 300) ∧ (L q).length ≤ 300 := fun q hq => by
    obtain ⟨p1, p2, p3⟩ := hL q hq
    refine ⟨fun y hy => ?_, ?_⟩
    · have := ((p3 y).mp hy).1
      omega
    · have c := cnt_list (f := t.1 595) (x := cI (q : Int)) (ix (s.1 100 5)) (L q) (lt_nodup p2) p3
      have := cntE_le (f := t.1 595) (x := cI (q : Int)) (ix (s.1 100 5))
      omega
  obtain ⟨s', x1, x2, x3⟩ := rd_lp (L := L) i300 ic.symm (ix (s.1 138 3)) 1048576 s (cI 0) (by decide) (by rw [ix_toNat, show (cI 0).toInt = 0 from rfl]; omega) m3 (by omega) (fun q hq => by
    obtain ⟨p1, p2, p3⟩ := hL q hq
    refine ⟨(hb3 q hq).2, (hb3 q hq).1, ?_⟩
    rw [if_neg (by rw [ix_0]; omega)]
    rw [rows_at (by omega)] at p1
    exact p1)
  have y138 : s'.1 138 3 = s.1 138 3 := (x3.1 138 3 (by decide +kernel)).1
  have y100 : s'.1 100 5 = s.1 100 5 := (x3.1 100 5 (by decide +kernel)).1
  refine ⟨s', ?_, x3, fun t' e2 e3 => ?_⟩
  · unfold fRounds_drop
    generalize fRounds_drop_h15 1048576 = H at x1 ⊢
    simp only [fItems_is, if_pos hb, ix_0, Nat.add_zero, eq_true z, if_true, bd1_some, if_neg (show ¬ cI 1 = 0 by decide)]
    exact x1
  · unfold RRw
    rw [y138, y100, e2, e3]
    refine ⟨h.1.set ⟨by decide, by show (-1 : Int) ≤ _; omega⟩, fun q hq => ?_⟩
    obtain ⟨p1, p2, p3⟩ := hL q hq
    refine ⟨wof (ix i) (L q), ?_, p2.filter _, fun j => ?_⟩
    · rw [rows_at (by omega)]
      exact x2 q hq
    · rw [wof_mem, p3 j]
      by_cases y : j = ix i
      · rw [y, up1_eq]
        constructor
        · intro u; exact absurd rfl u.2
        · intro u; exact absurd u.2 (neg1_ne (by omega))
      · rw [up1_ne y]
        exact ⟨fun u => u.1, fun u => ⟨u, y⟩⟩
theorem bw_lp {l i b : Int32} (hc : inb l 8 = true) (h10 : (s.1 127 (ix l)).toInt ≤ 10) (hb : Has b (s.1 127 (ix l))) (he : s.1 (130 + ix l) (ix b) = i) (hu : ∀ j, Has j (s.1 127 (ix l)) → s.1 (130 + ix l) (ix j) = i → j = b) : ∀ (r n : Nat) (j : Int32), 0 ≤ j.toInt → j.toInt + r = b.toInt → r < n → fLock_boxWith_h2 s n l i j = some b
  | 0, n, j, h0, h1, hn => by
    obtain ⟨n, rfl⟩ : ∃ k, n = k + 1 := ⟨n - 1, by omega⟩
    have jb : j = b := by rw [eq_i]; omega
    subst jb
    have hj : j < s.1 127 (ix l) := by rw [lt_i]; exact hb.2
    have hi : inb j 10 = true := inb_iff.mpr ⟨h0, by have := hb.2; omega⟩
    simp only [fLock_boxWith_h2, if_pos hc, if_pos hj, if_pos hi, if_pos he]
  | r + 1, n, j, h0, h1, hn => by
    obtain ⟨n, rfl⟩ : ∃ k, n = k + 1 := ⟨n - 1, by omega⟩
    have b2 := hb.2
    have hj : j < s.1 127 (ix l) := by rw [lt_i]; omega
    have hi : inb j 10 = true := inb_iff.mpr ⟨h0, by omega⟩
    have et : (j + cI 1).toInt = j.toInt + 1 := inc_i (by omega)
    have ne : ¬ s.1 (130 + ix l) (ix j) = i := fun z => by
      have := hu j ⟨h0, by omega⟩ z
      rw [this] at h1
      omega
    have ih := bw_lp hc h10 hb he hu r n (j + cI 1) (by omega) (by omega) (by omega)
    simp only [fLock_boxWith_h2, if_pos hc, if_pos hj, if_pos hi, if_neg ne]
    exact ih
/-- an item out of its box, if it is in one -/
theorem drop_l {i : Int32} (h : RBx s t) (hl : RLk s t) (n1 : t.1 549 58 = s.1 100 5) (n2 : 0 ≤ (s.1 100 5).toInt) (n3 : (s.1 100 5).toInt ≤ 300) (hi : Has i (s.1 100 5)) (he : s.1 117 (ix i) = t.1 597 (ix i)) : ∃ s', fLock_drop s i = some s' ∧ fr [(130, 137, 0)] s s' ∧ ∀ t', t'.1 597 = up1 (t.1 597) (ix i) (cI (-1)) → t'.1 598 = up1 (t.1 598) (ix i) (cI (-1)) → RBx s' t' := by
  obtain ⟨⟨m1, m2, m3⟩, k1, k2, k3, d1, d2, d3⟩ := id hl
  have hb : inb i 300 = true := hi.inb n3
  have w := hi.ix
  rcases h.2.1 _ w with ⟨z1, z2⟩ | ⟨z1, z2⟩
  · have z3 : ¬ Has (s.1 117 (ix i)) (s.1 125 3) := fun q => by
      rw [he, z1] at q
      exact absurd q.1 (by decide)
    refine ⟨s, ?_, fr.rf, fun t' e2 e3 => ?_⟩
    · simp only [fLock_drop, if_pos hb, ix_15, Nat.reduceAdd, ltI_eq, e_lockHas m2, bd1_some, bI_f z3, if_true]
    · rw [up1_id z1] at e2
      rw [up1_id z2] at e3
      unfold RBx at h ⊢
      rw [e2, e3]; exact h
  · rw [← he] at z1 z2
    have hc : inb (s.1 117 (ix i)) 8 = true := z1.inb m3
    have v := z1.ix
    have l8 : ix (s.1 117 (ix i)) < 8 := by have := z1.1; have := z1.2; rw [ix_toNat]; omega
    have dd := d2 _ v
    obtain ⟨-, -, q3⟩ := h.at n1 n2 n3 z1 m3 z2
    have ic : cI ((ix i : Nat) : Int) = i := cI_ix hi.1
    have e9 : s.1 (130 + ix (s.1 117 (ix i))) (ix (t.1 598 (ix i))) = i := by
      have q := (q3 _ w).mp ⟨he.symm, rfl⟩
      rw [ic] at q
      exact q
    have bx : fLock_boxWith s (s.1 117 (ix i)) i = some (t.1 598 (ix i)) := by
      refine bw_lp hc dd.2 z2 e9 (fun j hj hh => ?_) (ix (t.1 598 (ix i))) 1048576 (cI 0) (by decide) (by rw [ix_toNat, show (cI 0).toInt = 0 from rfl]; have := z2.1; omega) (by have := z2.2; rw [ix_toNat]; omega)
      obtain ⟨-, -, q4⟩ := h.at n1 n2 n3 z1 m3 hj
      exact ((q4 _ w).mpr (by rw [hh, ic])).2.symm
    have n9 : ¬ t.1 598 (ix i) = cI (-1) := fun q => by
      have := z2.1
      rw [q] at this
      exact absurd this (by decide)
    have i10 : inb (t.1 598 (ix i)) 10 = true := inb_iff.mpr ⟨z2.1, by have := z2.2; omega⟩
    have fS : fr [(130, 137, 0)] s (wI s (130 + ix (s.1 117 (ix i))) (ix (t.1 598 (ix i))) (cI (-1))) := fr.rf.wI (inF_row (lo := 130) (hi := 137) rfl (Nat.le_add_right _ _) (by omega))
    refine ⟨wI s (130 + ix (s.1 117 (ix i))) (ix (t.1 598 (ix i))) (cI (-1)), ?_, fS, fun t' e2 e3 => ?_⟩
    · simp only [fLock_drop, if_pos hb, ix_15, Nat.reduceAdd, ltI_eq, e_lockHas m2, bd1_some, bI_t z1, if_neg (show ¬ (1 : Int32) = 0 by decide), bx, if_neg n9, if_pos hc, if_pos i10, ltM_eq]
    · refine h.out z1 m3 z2 hi n3 d2 e9 (by rw [wI_ne (by omega)]) (wI_ne (by omega)) (fun r hr => ?_) (by rw [wI_ne (by omega)]) e2 e3
      by_cases y : r = ix (s.1 117 (ix i))
      · rw [if_pos y, y, wI_c]
      · rw [if_neg y, wI_ne (by omega)]
end
section
variable {s t : ev_M} {F : Bool} {A : Nat → Nat → Int32} {n : Nat}
theorem a_lose {a : Int32} (hA : AdmC s F A) (hM : FulM t F) (h0 : t.1 549 15 = 0) (h : RV n s t) (hcu : RCu s t) (ht : RTim s t) (hg : RBg s t) (hl : RLk s t) (hr : RRo s t) (hn9 : n < 2147483646) : Ok (fPH_loseItem s a) fun x => Ok (fM_doLose t a) fun y => AP (RV n) (RV (n + 1)) F A s x y := by
  obtain ⟨⟨n1, n2, n3⟩, g1, -⟩ := id h.1.1
  have hn : RV n s (wI t 549 15 (cI 1)) := h.no
  by_cases h1 : Has a (s.1 100 5)
  rotate_left
  · exact sim_no (c := cI (-101)) (by simp only [fPH_loseItem, fM_doLose_b47, fM_doLose, fItems_isEnded_b29, fItems_isEnded, fItems_is, e_itemsHas n2, e_isItem (by rw [n1]; exact n2), n1, ltM_eq, ltI_eq, ltL_eq, bd1_some, bd2_some, ite_bI, if_true, if_false, ite_true, ite_false, eq_self, not_true_eq_false, not_false_eq_true, i10, outside_eq, in_eq, no_eq, eq_false h1]) (by simp only [fPH_loseItem, fM_doLose_b47, fM_doLose, fItems_isEnded_b29, fItems_isEnded, fItems_is, e_itemsHas n2, e_isItem (by rw [n1]; exact n2), n1, ltM_eq, ltI_eq, ltL_eq, bd1_some, bd2_some, ite_bI, if_true, if_false, ite_true, ite_false, eq_self, not_true_eq_false, not_false_eq_true, i10, outside_eq, in_eq, no_eq, eq_false h1]) hn
  have hb : inb a 300 = true := h1.inb n3
  have w := h1.ix
  have e1 := g1 _ w
  have z00 : cI 0 = 0 := rfl
  have z10 : ¬ cI 1 = 0 := by decide
  have kC : fPH_loseItem s a = if s.1 102 (ix a) = cI 5 ∨ s.1 102 (ix a) = cI 7 ∨ s.1 102 (ix a) = cI 8 then some (s, cI (-103)) else bd2 (fLog_admits s) fun s3 v4 => if v4 = 0 then some (s3, cI (-104)) else bd1 (fLines_drop s3 a) fun s5 => bd1 (fRounds_drop s5 a) fun s6 => bd1 (fLock_drop s6 a) fun s7 => bd1 (fItems_come s7 a (cI 8)) fun s8 => some (s8, cI 1) := by
    rcases Classical.propComplete (s.1 102 (ix a) = cI 5) with x1 | x1 <;> rcases Classical.propComplete (s.1 102 (ix a) = cI 7) with x2 | x2 <;> rcases Classical.propComplete (s.1 102 (ix a) = cI 8) with x3 | x3 <;> simp only [fPH_loseItem, fM_doLose_b47, fM_doLose, fItems_isEnded_b29, fItems_isEnded, fItems_is, e_itemsHas n2, e_isItem (by rw [n1]; exact n2), n1, ltM_eq, ltI_eq, ltL_eq, bd1_some, bd2_some, ite_bI, if_true, if_false, ite_true, ite_false, eq_self, not_true_eq_false, not_false_eq_true, i10, outside_eq, in_eq, no_eq, eq_true h1, hb, ix_0, ix_1, ix_2, ix_3, ix_4, ix_5, ix_6, ix_7, ix_8, ix_9, ix_10, ix_11, ix_12, ix_13, ix_14, ix_15, ix_16, ix_17, ix_18, ix_19, ix_20, ix_21, Nat.reduceAdd, wI_c, wI_ne, wL_1, lupd_ne, up1_eq, up1_ne, Nat.add_zero, x1, x2, x3, eq_false z10, eq_true z00, true_or, or_true, or_false, false_or]
  have kM : fM_doLose t a = if s.1 102 (ix a) = cI 5 ∨ s.1 102 (ix a) = cI 7 ∨ s.1 102 (ix a) = cI 8 then some (wI t 549 15 (cI 1), cI (-103)) else bd1 (fM_full t) fun v6 => if v6 = 0 then bd1 (fM_leaves t a) fun s7 => bd1 (fM_comes s7 a (cI 8)) fun s8 => some (s8, cI 1) else some (wI t 549 15 (cI 1), cI (-104)) := by
    rcases Classical.propComplete (s.1 102 (ix a) = cI 5) with x1 | x1 <;> rcases Classical.propComplete (s.1 102 (ix a) = cI 7) with x2 | x2 <;> rcases Classical.propComplete (s.1 102 (ix a) = cI 8) with x3 | x3 <;> simp only [fPH_loseItem, fM_doLose_b47, fM_doLose, fItems_isEnded_b29, fItems_isEnded, fItems_is, e_itemsHas n2, e_isItem (by rw [n1]; exact n2), n1, ltM_eq, ltI_eq, ltL_eq, bd1_some, bd2_some, ite_bI, if_true, if_false, ite_true, ite_false, eq_self, not_true_eq_false, not_false_eq_true, i10, outside_eq, in_eq, no_eq, eq_true h1, hb, e1, x1, x2, x3, true_or, or_true, or_false, false_or]
  by_cases K : s.1 102 (ix a) = cI 5 ∨ s.1 102 (ix a) = cI 7 ∨ s.1 102 (ix a) = cI 8
  · exact sim_no (c := cI (-103)) (by rw [kC, if_pos K]) (by rw [kM, if_pos K]) hn
  rw [if_neg K] at kC kM
  by_cases hF : F = true
  · subst hF
    exact sim_no (c := cI (-104)) (by rw [kC, hA.no, bd2_some, if_pos rfl]) (by rw [kM, hM.no, bd1_some, if_neg (show ¬ (1 : Int32) = 0 by decide)]) hn
  have hF2 : F = false := by cases F <;> simp_all
  subst hF2
  rw [hA.yes, bd2_some, if_neg (show ¬ (1 : Int32) = 0 by decide)] at kC
  rw [hM.yes, bd1_some, if_pos rfl, e_leaves hb, bd1_some] at kM
  have u100 : (lupd A s).1 100 = s.1 100 := lupd_ne (Or.inr (by decide))
  have u111 : (lupd A s).1 111 = s.1 111 := lupd_ne (Or.inr (by decide))
  have u117 : (lupd A s).1 117 = s.1 117 := lupd_ne (Or.inr (by decide))
  have u449 : (lupd A s).1 449 = s.1 449 := lupd_ne (Or.inr (by decide))
  have u125 : (lupd A s).1 125 = s.1 125 := lupd_ne (Or.inr (by decide))
  have hV := h.lu (A := A)
  have l593 : (lvS t (ix a)).1 593 = up1 (t.1 593) (ix a) (cI (-1)) := by unfold lvS; simp (disch := decide) only [ix_0, ix_1, ix_2, ix_3, ix_4, ix_5, ix_6, ix_7, ix_8, ix_9, ix_10, ix_11, ix_12, ix_13, ix_14, ix_15, ix_16, ix_17, ix_18, ix_19, ix_20, ix_21, Nat.reduceAdd, wI_c, wI_ne, wL_1, lupd_ne, up1_eq, up1_ne]
  have l594 : (lvS t (ix a)).1 594 = t.1 594 := by unfold lvS; simp (disch := decide) only [ix_0, ix_1, ix_2, ix_3, ix_4, ix_5, ix_6, ix_7, ix_8, ix_9, ix_10, ix_11, ix_12, ix_13, ix_14, ix_15, ix_16, ix_17, ix_18, ix_19, ix_20, ix_21, Nat.reduceAdd, wI_c, wI_ne, wL_1, lupd_ne, up1_eq, up1_ne]
  have l595 : (lvS t (ix a)).1 595 = up1 (t.1 595) (ix a) (cI (-1)) := by unfold lvS; simp (disch := decide) only [ix_0, ix_1, ix_2, ix_3, ix_4, ix_5, ix_6, ix_7, ix_8, ix_9, ix_10, ix_11, ix_12, ix_13, ix_14, ix_15, ix_16, ix_17, ix_18, ix_19, ix_20, ix_21, Nat.reduceAdd, wI_c, wI_ne, wL_1, lupd_ne, up1_eq, up1_ne]
  have l596 : (lvS t (ix a)).1 596 = t.1 596 := by unfold lvS; simp (disch := decide) only [ix_0, ix_1, ix_2, ix_3, ix_4, ix_5, ix_6, ix_7, ix_8, ix_9, ix_10, ix_11, ix_12, ix_13, ix_14, ix_15, ix_16, ix_17, ix_18, ix_19, ix_20, ix_21, Nat.reduceAdd, wI_c, wI_ne, wL_1, lupd_ne, up1_eq, up1_ne]
  have l597 : (lvS t (ix a)).1 597 = up1 (t.1 597) (ix a) (cI (-1)) := by unfold lvS; simp (disch := decide) only [ix_0, ix_1, ix_2, ix_3, ix_4, ix_5, ix_6, ix_7, ix_8, ix_9, ix_10, ix_11, ix_12, ix_13, ix_14, ix_15, ix_16, ix_17, ix_18, ix_19, ix_20, ix_21, Nat.reduceAdd, wI_c, wI_ne, wL_1, lupd_ne, up1_eq, up1_ne]
  have l598 : (lvS t (ix a)).1 598 = up1 (t.1 598) (ix a) (cI (-1)) := by unfold lvS; simp (disch := decide) only [ix_0, ix_1, ix_2, ix_3, ix_4, ix_5, ix_6, ix_7, ix_8, ix_9, ix_10, ix_11, ix_12, ix_13, ix_14, ix_15, ix_16, ix_17, ix_18, ix_19, ix_20, ix_21, Nat.reduceAdd, wI_c, wI_ne, wL_1, lupd_ne, up1_eq, up1_ne]
  obtain ⟨s1, a1, a2, a3⟩ := drop_b (i := a) hV.2.2.2.1 (hg.keep lupd_fr rf_fr (by decide +kernel) (by decide +kernel)) (by rw [u100]; exact n3) (by rw [u100]; exact h1) (by rw [u111]; exact (h.1.2.1.2.1 _ w).symm)
  have hV1 : RXq n s1 t := hV.1.keep a2 rf_fr (by decide +kernel) (by decide +kernel)
  have v100 : s1.1 100 = s.1 100 := ((nof_c a2 (L := [(100, 0)]) (by decide +kernel) (c := 100) rfl).1).trans u100
  obtain ⟨s2, b1, b2, b3⟩ := drop_r (i := a) (hV.2.2.1.keep a2 rf_fr (by decide +kernel) (by decide +kernel)) ((hr.keep lupd_fr rf_fr (by decide +kernel) (by decide +kernel)).keep a2 rf_fr (by decide +kernel) (by decide +kernel)) hV1.2.2.2 (by rw [v100]; exact n3) (by rw [v100]; exact h1)
  have w100 : s2.1 100 = s.1 100 := ((nof_c b2 (L := [(100, 0)]) (by decide +kernel) (c := 100) rfl).1).trans v100
  have w117 : s2.1 117 = s.1 117 := ((nof_c b2 (L := [(117, 0)]) (by decide +kernel) (c := 117) rfl).1).trans (((nof_c a2 (L := [(117, 0)]) (by decide +kernel) (c := 117) rfl).1).trans u117)
  obtain ⟨s3, c1, c2, c3⟩ := drop_l (i := a) ((hV.2.2.2.2.keep a2 rf_fr (by decide +kernel) (by decide +kernel)).keep b2 rf_fr (by decide +kernel) (by decide +kernel)) (((hl.keep lupd_fr rf_fr (by decide +kernel) (by decide +kernel)).keep a2 rf_fr (by decide +kernel) (by decide +kernel)).keep b2 rf_fr (by decide +kernel) (by decide +kernel)) (by rw [w100]; exact n1) (by rw [w100]; exact n2) (by rw [w100]; exact n3) (by rw [w100]; exact h1) (by rw [w117]; exact (h.1.2.1.2.2.2.2.2.1 _ w).symm)
  have fD : fr [(462, 462, 0), (466, 545, 0), (144, 144, 0), (160, 171, 0), (130, 137, 0)] (lupd A s) s3 := (a2.mono (by decide +kernel)).tr ((b2.mono (by decide +kernel)).tr (c2.mono (by decide +kernel)))
  have hB : RB s3 (lvS t (ix a)) := ⟨(b3 _ l595 l596).keep c2 rf_fr (by decide +kernel) (by decide +kernel), ((a3 _ l593 l594).keep b2 rf_fr (by decide +kernel) (by decide +kernel)).keep c2 rf_fr (by decide +kernel) (by decide +kernel), c3 _ l597 l598⟩
  have x100 : s3.1 100 = s.1 100 := ((nof_c c2 (L := [(100, 0)]) (by decide +kernel) (c := 100) rfl).1).trans w100
  have x449 : s3.1 449 = s.1 449 := ((nof_c fD (L := [(449, 0)]) (by decide +kernel) (c := 449) rfl).1).trans u449
  have x125 : s3.1 125 = s.1 125 := ((nof_c fD (L := [(125, 0)]) (by decide +kernel) (c := 125) rfl).1).trans u125
  obtain ⟨s4, t4, d1, d2, d3, d4, d5, d6, -⟩ := go_o (c := cI 8) (s := s3) (t := t) (i := a) (hV.1.keep fD rf_fr (by decide +kernel) (by decide +kernel)) (hV.2.1.keep fD rf_fr (by decide +kernel) (by decide +kernel)) hB ((hcu.keep lupd_fr rf_fr (by decide +kernel) (by decide +kernel)).keep fD rf_fr (by decide +kernel) (by decide +kernel)) ((ht.keep lupd_fr rf_fr (by decide +kernel) (by decide +kernel)).keep fD rf_fr (by decide +kernel) (by decide +kernel)) hn9 (by rw [x100]; exact h1) (by rw [x449]; exact hg.1.2.1) (by rw [x125]; exact hl.1.2.1) (by decide) (by decide) (by decide) (by decide) (fun q => by rcases q with q | q <;> exact absurd q (by decide))
  rw [a1, bd1_some, b1, bd1_some, c1, bd1_some, d1, bd1_some] at kC
  rw [d3, bd1_some] at kM
  rw [kC, kM, ok_some, ok_some]
  refine ⟨rfl, Or.inr ⟨?_, rfl, ?_, d4⟩⟩
  · rw [(d6.1 549 15 (by decide +kernel)).1, lvS_ne (by decide)]; exact h0
  · exact lgS.fr (F := [(462, 462, 0), (466, 545, 0), (144, 144, 0), (160, 171, 0), (130, 137, 0)] ++ F_Items_come) ((fD.mono (by decide +kernel)).tr (d5.mono (by decide +kernel))) (by decide +kernel) (by decide +kernel)
end
