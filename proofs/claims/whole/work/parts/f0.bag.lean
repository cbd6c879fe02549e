/-! ===== LEVEL 3: bags: made, filled, shut ===== -/
theorem cnt_list {f : Nat → Int32} {x : Int32} : ∀ (n : Nat) (l : List Nat), l.Nodup → (∀ i, i ∈ l ↔ i < n ∧ f i = x) → l.length = cntE f x n
  | 0, l, _, h => by
    cases l with
    | nil => rfl
    | cons a l => exact absurd ((h a).mp (by simp)).1 (Nat.not_lt_zero _)
  | n + 1, l, hd, h => by
    simp only [cntE]
    by_cases e : f n = x
    · have hm : n ∈ l := (h n).mpr ⟨by omega, e⟩
      have ih := cnt_list (f := f) (x := x) n (l.erase n) (hd.erase n) (fun i => by
        rw [List.Nodup.mem_erase_iff hd, h i]
        constructor
        · intro q; exact ⟨by omega, q.2.2⟩
        · intro q; exact ⟨by omega, by omega, q.2⟩)
      rw [List.length_erase_of_mem hm] at ih
      have := List.length_pos_of_mem hm
      rw [if_pos e]
      omega
    · rw [if_neg e]
      exact cnt_list n l hd (fun i => by
        rw [h i]
        constructor
        · intro q
          refine ⟨?_, q.2⟩
          have : i ≠ n := fun z => e (by rw [← z]; exact q.2)
          omega
        · intro q; exact ⟨by omega, q.2⟩)
theorem lt_nodup {f : Nat → Int32} {l : List Nat} (h : l.Pairwise (fun a b => (f a).toInt < (f b).toInt)) : l.Nodup := h.imp (fun q z => by rw [z] at q; omega)
section
variable {s t : ev_M}
theorem inb_lp {a : Int32} : ∀ (r n : Nat) (x j : Int32), 0 ≤ j.toInt → j.toInt + r = (s.1 549 58).toInt → (s.1 549 58).toInt ≤ 300 → x.toInt = cntE (s.1 593) a (ix j) → r < n → ∃ y, fM_inBag_h4 s n a x j = some y ∧ y.toInt = cntE (s.1 593) a (ix (s.1 549 58))
  | 0, n, x, j, h0, h1, h2, hx, hn => by
    obtain ⟨n, rfl⟩ : ∃ k, n = k + 1 := ⟨n - 1, by omega⟩
    have e : ix j = ix (s.1 549 58) := by rw [ix_toNat, ix_toNat]; omega
    refine ⟨x, ?_, by rw [hx, e]⟩
    unfold fM_inBag_h4
    rw [if_neg (show ¬ j < s.1 549 58 by rw [lt_i]; omega)]
  | r + 1, n, x, j, h0, h1, h2, hx, hn => by
    obtain ⟨n, rfl⟩ : ∃ k, n = k + 1 := ⟨n - 1, by omega⟩
    have hi : inb j 300 = true := inb_iff.mpr ⟨h0, by omega⟩
    have ei : ix (j + cI 1) = ix j + 1 := ix_inc h0 (by omega)
    have et : (j + cI 1).toInt = j.toInt + 1 := inc_i (by omega)
    have hl := cntE_le (f := s.1 593) (x := a) (ix j)
    have hj : ix j ≤ 300 := by rw [ix_toNat]; omega
    unfold fM_inBag_h4 fM_inBag_b29
    rw [if_pos (show j < s.1 549 58 by rw [lt_i]; omega), if_pos hi]
    by_cases g : s.1 593 (ix j) = a
    · rw [if_pos g]
      refine inb_lp r n _ _ (by omega) (by omega) h2 ?_ (by omega)
      rw [ei, inc_i (by omega), hx]
      simp only [cntE, if_pos g]
      omega
    · rw [if_neg g]
      refine inb_lp r n _ _ (by omega) (by omega) h2 ?_ (by omega)
      rw [ei, hx]
      simp only [cntE, if_neg g]
      omega
/-- how many items are in a bag, class and reference -/
theorem RBc.cnt {b : Int32} (h : RBc s t) (n1 : t.1 549 58 = s.1 100 5) (n2 : 0 ≤ (s.1 100 5).toInt) (n3 : (s.1 100 5).toInt ≤ 300) (hb : Has b (s.1 449 6)) : fM_inBag t b = some (s.1 462 (ix b)) ∧ 0 ≤ (s.1 462 (ix b)).toInt ∧ (s.1 462 (ix b)).toInt ≤ 40 := by
  obtain ⟨l, h1, h2, h3, h4⟩ := h.2 (ix b) hb.ix
  obtain ⟨y, ey, hy⟩ := inb_lp (s := t) (a := b) (ix (s.1 100 5)) 1048576 (cI 0) (cI 0) (by decide) (by rw [n1, ix_toNat, show (cI 0).toInt = 0 from rfl]; omega) (by rw [n1]; exact n3) rfl (by rw [ix_toNat]; omega)
  rw [cI_ix hb.1] at h4
  have k := cnt_list (f := t.1 593) (x := b) (ix (s.1 100 5)) l (lt_nodup h3) h4
  have e : y = s.1 462 (ix b) := by
    rw [eq_i, hy, h1.1, n1, k]
  refine ⟨?_, by rw [h1.1]; omega, by rw [h1.1]; omega⟩
  show fM_inBag_h4 t 1048576 b (cI 0) (cI 0) = _
  rw [ey, e]
/-- a new bag -/
theorem RBc.newB {s' t' : ev_M} (h : RBc s t) (h0 : 0 ≤ (s.1 449 6).toInt) (h8 : (s.1 449 6).toInt < 80) (e1 : s'.1 449 6 = s.1 449 6 + cI 1) (e2 : s'.1 462 = up1 (s.1 462) (ix (s.1 449 6)) (cI 0)) (e3 : ∀ r, r < 80 → s'.1 (466 + r) = s.1 (466 + r)) (e4 : s'.1 100 5 = s.1 100 5) (e5 : t'.1 593 = t.1 593) (e6 : t'.1 594 = t.1 594) : RBc s' t' := by
  obtain ⟨q1, q2⟩ := h
  have ex : ix (s.1 449 6 + cI 1) = ix (s.1 449 6) + 1 := ix_inc h0 (by omega)
  have xi : (s.1 449 6 + cI 1).toInt = (s.1 449 6).toInt + 1 := inc_i (by omega)
  have en : ix (s.1 449 6) = (s.1 449 6).toInt.toNat := ix_toNat _
  have er : rowsOf s' 466 80 = rowsOf s 466 80 := rows_eq (fun r hr => e3 r hr)
  unfold RBc
  rw [e1, e2, e4, e5, e6, er, ex]
  refine ⟨q1.mono (by omega) (by omega), fun r hr => ?_⟩
  by_cases z : r = ix (s.1 449 6)
  · refine ⟨[], ⟨by rw [z, up1_eq]; rfl, fun k hk => absurd hk (Nat.not_lt_zero _)⟩, by decide, List.Pairwise.nil, fun i => ?_⟩
    constructor
    · intro q; cases q
    · rintro ⟨a1, a2⟩
      have a3 := (q1 i a1).2
      rw [a2, cI_toInt (by omega) (by omega)] at a3
      omega
  · rw [up1_ne z]
    exact q2 r (by omega)
end
section
variable {s t : ev_M} {F : Bool} {A : Nat → Nat → Int32} {n : Nat}
theorem a_makeBag {a b : Int32} {kk : Nat} (hA : AdmC s F A) (hM : FulM t F) (h0 : t.1 549 15 = 0) (h : RBg s t) (hc : RBc s t) (hp : RPl s t) (hL : RLn kk s t) : Ok (fLines_makeBag s a b) fun x => Ok (fM_doBag t a b) fun y => AP (fun s' t' => (RBg s' t' ∧ RBc s' t') ∧ s' = s) (fun s' t' => (RBg s' t' ∧ RBc s' t') ∧ (s.1 449 6).toInt ≤ (s'.1 449 6).toInt ∧ s'.1 449 6 = s.1 449 6 + cI 1 ∧ s'.1 459 = up1 (s.1 459) (ix (s.1 449 6)) (cI 0) ∧ s'.1 463 = up1 (s.1 463) (ix (s.1 449 6)) (cI (-1)) ∧ s'.1 464 = up1 (s.1 464) (ix (s.1 449 6)) (cI (-1)) ∧ (s.1 449 6).toInt < 80) F A s x y := by
  obtain ⟨⟨n1, n2, n3⟩, g1, g2, g3, g4, k1, b1, b2, b3, b4⟩ := id h
  obtain ⟨⟨p1, p2⟩, -⟩ := id hp
  have hn : (fun s' t' => (RBg s' t' ∧ RBc s' t') ∧ s' = s) s (wI t 549 15 (cI 1)) := ⟨⟨h.keep rf_fr no_fr rfl rfl, hc.keep rf_fr no_fr (by decide +kernel) (by decide +kernel)⟩, rfl⟩
  by_cases h1 : Has a (s.1 30 2)
  rotate_left
  · exact sim_no (c := cI (-101)) (by simp only [fLines_makeBag, fM_doBag_b16, fM_doBag_b51, fM_doBag, e_hasPlace p2.1, e_isPlace (by rw [p1]; exact p2.1), p1, n1, ltM_eq, ltI_eq, ltL_eq, bd1_some, bd2_some, ite_bI, if_true, if_false, ite_true, ite_false, eq_self, not_true_eq_false, not_false_eq_true, i10, outside_eq, in_eq, no_eq, eq_false h1]) (by simp only [fLines_makeBag, fM_doBag_b16, fM_doBag_b51, fM_doBag, e_hasPlace p2.1, e_isPlace (by rw [p1]; exact p2.1), p1, n1, ltM_eq, ltI_eq, ltL_eq, bd1_some, bd2_some, ite_bI, if_true, if_false, ite_true, ite_false, eq_self, not_true_eq_false, not_false_eq_true, i10, outside_eq, in_eq, no_eq, eq_false h1]) hn
  by_cases h2 : Has b (s.1 30 2)
  rotate_left
  · exact sim_no (c := cI (-101)) (by simp only [fLines_makeBag, fM_doBag_b16, fM_doBag_b51, fM_doBag, e_hasPlace p2.1, e_isPlace (by rw [p1]; exact p2.1), p1, n1, ltM_eq, ltI_eq, ltL_eq, bd1_some, bd2_some, ite_bI, if_true, if_false, ite_true, ite_false, eq_self, not_true_eq_false, not_false_eq_true, i10, outside_eq, in_eq, no_eq, eq_true h1, eq_false h2]) (by simp only [fLines_makeBag, fM_doBag_b16, fM_doBag_b51, fM_doBag, e_hasPlace p2.1, e_isPlace (by rw [p1]; exact p2.1), p1, n1, ltM_eq, ltI_eq, ltL_eq, bd1_some, bd2_some, ite_bI, if_true, if_false, ite_true, ite_false, eq_self, not_true_eq_false, not_false_eq_true, i10, outside_eq, in_eq, no_eq, eq_true h1, eq_false h2]) hn
  by_cases h3 : a = b
  · exact sim_no (c := cI (-102)) (by simp only [fLines_makeBag, fM_doBag_b16, fM_doBag_b51, fM_doBag, e_hasPlace p2.1, e_isPlace (by rw [p1]; exact p2.1), p1, n1, ltM_eq, ltI_eq, ltL_eq, bd1_some, bd2_some, ite_bI, if_true, if_false, ite_true, ite_false, eq_self, not_true_eq_false, not_false_eq_true, i10, outside_eq, in_eq, no_eq, eq_true h1, eq_true h2, eq_true h3]) (by simp only [fLines_makeBag, fM_doBag_b16, fM_doBag_b51, fM_doBag, e_hasPlace p2.1, e_isPlace (by rw [p1]; exact p2.1), p1, n1, ltM_eq, ltI_eq, ltL_eq, bd1_some, bd2_some, ite_bI, if_true, if_false, ite_true, ite_false, eq_self, not_true_eq_false, not_false_eq_true, i10, outside_eq, in_eq, no_eq, eq_true h1, eq_true h2, eq_true h3]) hn
  by_cases h7 : (s.1 449 6) < cI 80
  rotate_left
  · have h79 : (s.1 449 6) = cI 80 := cap_eq h7 (n3)
    exact sim_no (c := cI (-104)) (by simp only [fLines_makeBag, fM_doBag_b16, fM_doBag_b51, fM_doBag, e_hasPlace p2.1, e_isPlace (by rw [p1]; exact p2.1), p1, n1, ltM_eq, ltI_eq, ltL_eq, bd1_some, bd2_some, ite_bI, if_true, if_false, ite_true, ite_false, eq_self, not_true_eq_false, not_false_eq_true, i10, outside_eq, in_eq, no_eq, eq_true h1, eq_true h2, eq_false h3, eq_false h7, eq_true h79]) (by simp only [fLines_makeBag, fM_doBag_b16, fM_doBag_b51, fM_doBag, e_hasPlace p2.1, e_isPlace (by rw [p1]; exact p2.1), p1, n1, ltM_eq, ltI_eq, ltL_eq, bd1_some, bd2_some, ite_bI, if_true, if_false, ite_true, ite_false, eq_self, not_true_eq_false, not_false_eq_true, i10, outside_eq, in_eq, no_eq, eq_true h1, eq_true h2, eq_false h3, eq_false h7, eq_true h79]) hn
  have h79 : ¬ (s.1 449 6) = cI 80 := cap_ne h7
  by_cases hF : F = true
  · subst hF
    exact sim_no (c := cI (-104)) (by simp only [fLines_makeBag, fM_doBag_b16, fM_doBag_b51, fM_doBag, e_hasPlace p2.1, e_isPlace (by rw [p1]; exact p2.1), p1, n1, ltM_eq, ltI_eq, ltL_eq, bd1_some, bd2_some, ite_bI, if_true, if_false, ite_true, ite_false, eq_self, not_true_eq_false, not_false_eq_true, i10, outside_eq, in_eq, no_eq, eq_true h1, eq_true h2, eq_false h3, eq_true h7, eq_false h79, hA.no]) (by simp only [fLines_makeBag, fM_doBag_b16, fM_doBag_b51, fM_doBag, e_hasPlace p2.1, e_isPlace (by rw [p1]; exact p2.1), p1, n1, ltM_eq, ltI_eq, ltL_eq, bd1_some, bd2_some, ite_bI, if_true, if_false, ite_true, ite_false, eq_self, not_true_eq_false, not_false_eq_true, i10, outside_eq, in_eq, no_eq, eq_true h1, eq_true h2, eq_false h3, eq_true h7, eq_false h79, hM.no]) hn
  have hF2 : F = false := by cases F <;> simp_all
  subst hF2
  have hk7 : (s.1 449 6).toInt < 80 := lt_n h7
  have hb : inb (s.1 449 6) 80 = true := inb_iff.mpr ⟨n2, hk7⟩
  have ei : ix (s.1 449 6 + cI 1) = ix (s.1 449 6) + 1 := ix_inc n2 (by omega)
  have e4 : (s.1 449 6 + cI 1).toInt = (s.1 449 6).toInt + 1 := inc_i (by omega)
  have a1 := h1.1
  have a2 := h1.2
  have c1 := h2.1
  have c2 := h2.2
  simp (maxSteps := 2000000) (disch := decide) only [fLines_makeBag, fM_doBag_b16, fM_doBag_b51, fM_doBag, e_hasPlace p2.1, e_isPlace (by rw [p1]; exact p2.1), p1, n1, ltM_eq, ltI_eq, ltL_eq, bd1_some, bd2_some, ite_bI, if_true, if_false, ite_true, ite_false, eq_self, not_true_eq_false, not_false_eq_true, i10, outside_eq, in_eq, no_eq, eq_true h1, eq_true h2, eq_false h3, eq_true h7, eq_false h79, hb, hA.yes, hM.yes, ix_0, ix_1, ix_2, ix_3, ix_4, ix_5, ix_6, ix_7, ix_8, ix_9, ix_10, ix_11, ix_12, ix_13, ix_14, ix_15, ix_16, ix_17, ix_18, ix_19, ix_20, ix_21, Nat.reduceAdd, wI_c, wI_ne, wL_1, lupd_ne, up1_eq, up1_ne, ok_some]
  refine ⟨?_, Or.inr ⟨?_, rfl, ?_, ⟨?_, ?_⟩, ?_, ?_, ?_, ?_, ?_, hk7⟩⟩
  · rw [Int32.add_sub_cancel]
  · simp (disch := decide) only [ix_0, ix_1, ix_2, ix_3, ix_4, ix_5, ix_6, ix_7, ix_8, ix_9, ix_10, ix_11, ix_12, ix_13, ix_14, ix_15, ix_16, ix_17, ix_18, ix_19, ix_20, ix_21, Nat.reduceAdd, wI_c, wI_ne, wL_1, lupd_ne, up1_eq, up1_ne]; exact h0
  · exact ((((((lgS.rf.wI (by decide) (by decide)).wI (by decide) (by decide)).wI (by decide) (by decide)).wI (by decide) (by decide)).wI (by decide) (by decide)).wI (by decide) (by decide)).wI (by decide) (by decide)
  · unfold RBg
    simp (disch := decide) only [ix_0, ix_1, ix_2, ix_3, ix_4, ix_5, ix_6, ix_7, ix_8, ix_9, ix_10, ix_11, ix_12, ix_13, ix_14, ix_15, ix_16, ix_17, ix_18, ix_19, ix_20, ix_21, Nat.reduceAdd, wI_c, wI_ne, wL_1, lupd_ne, up1_eq, up1_ne]
    refine ⟨⟨trivial, by omega, by omega⟩, g1.ext rfl ei, g2.ext rfl ei, g3.ext rfl ei, g4.ext rfl ei, fun i hi => ?_, b1.ext (by decide) ei, b2.ext ⟨by omega, by omega⟩ ei, b3.ext ⟨by omega, by omega⟩ ei, b4.ext ⟨by decide, by show (-1 : Int) ≤ _; have := hL.1.2.1; omega⟩ ei⟩
    by_cases z : i = ix (s.1 449 6)
    · rw [z]
      simp only [up1_eq]
      exact ⟨fun _ => ⟨trivial, trivial, trivial, a1⟩, fun q => absurd q (by decide)⟩
    · simp only [up1_ne z]
      exact k1 i (by omega)
  · refine hc.newB n2 hk7 ?_ ?_ (fun r hr => ?_) ?_ ?_ ?_
    · simp (disch := decide) only [ix_0, ix_1, ix_2, ix_3, ix_4, ix_5, ix_6, ix_7, ix_8, ix_9, ix_10, ix_11, ix_12, ix_13, ix_14, ix_15, ix_16, ix_17, ix_18, ix_19, ix_20, ix_21, Nat.reduceAdd, wI_c, wI_ne, wL_1, lupd_ne, up1_eq, up1_ne]
    · simp (disch := decide) only [ix_0, ix_1, ix_2, ix_3, ix_4, ix_5, ix_6, ix_7, ix_8, ix_9, ix_10, ix_11, ix_12, ix_13, ix_14, ix_15, ix_16, ix_17, ix_18, ix_19, ix_20, ix_21, Nat.reduceAdd, wI_c, wI_ne, wL_1, lupd_ne, up1_eq, up1_ne]
    · rw [wI_ne (by omega), wI_ne (by omega), wI_ne (by omega), wI_ne (by omega), wI_ne (by omega), wI_ne (by omega), wI_ne (by omega), lupd_ne (by omega)]
    · simp (disch := decide) only [ix_0, ix_1, ix_2, ix_3, ix_4, ix_5, ix_6, ix_7, ix_8, ix_9, ix_10, ix_11, ix_12, ix_13, ix_14, ix_15, ix_16, ix_17, ix_18, ix_19, ix_20, ix_21, Nat.reduceAdd, wI_c, wI_ne, wL_1, lupd_ne, up1_eq, up1_ne]
    · simp (disch := decide) only [ix_0, ix_1, ix_2, ix_3, ix_4, ix_5, ix_6, ix_7, ix_8, ix_9, ix_10, ix_11, ix_12, ix_13, ix_14, ix_15, ix_16, ix_17, ix_18, ix_19, ix_20, ix_21, Nat.reduceAdd, wI_c, wI_ne, wL_1, lupd_ne, up1_eq, up1_ne]
    · simp (disch := decide) only [ix_0, ix_1, ix_2, ix_3, ix_4, ix_5, ix_6, ix_7, ix_8, ix_9, ix_10, ix_11, ix_12, ix_13, ix_14, ix_15, ix_16, ix_17, ix_18, ix_19, ix_20, ix_21, Nat.reduceAdd, wI_c, wI_ne, wL_1, lupd_ne, up1_eq, up1_ne]
  · simp (disch := decide) only [ix_0, ix_1, ix_2, ix_3, ix_4, ix_5, ix_6, ix_7, ix_8, ix_9, ix_10, ix_11, ix_12, ix_13, ix_14, ix_15, ix_16, ix_17, ix_18, ix_19, ix_20, ix_21, Nat.reduceAdd, wI_c, wI_ne, wL_1, lupd_ne, up1_eq, up1_ne]
    omega
  · simp (disch := decide) only [ix_0, ix_1, ix_2, ix_3, ix_4, ix_5, ix_6, ix_7, ix_8, ix_9, ix_10, ix_11, ix_12, ix_13, ix_14, ix_15, ix_16, ix_17, ix_18, ix_19, ix_20, ix_21, Nat.reduceAdd, wI_c, wI_ne, wL_1, lupd_ne, up1_eq, up1_ne]
  · simp (disch := decide) only [ix_0, ix_1, ix_2, ix_3, ix_4, ix_5, ix_6, ix_7, ix_8, ix_9, ix_10, ix_11, ix_12, ix_13, ix_14, ix_15, ix_16, ix_17, ix_18, ix_19, ix_20, ix_21, Nat.reduceAdd, wI_c, wI_ne, wL_1, lupd_ne, up1_eq, up1_ne]
  · simp (disch := decide) only [ix_0, ix_1, ix_2, ix_3, ix_4, ix_5, ix_6, ix_7, ix_8, ix_9, ix_10, ix_11, ix_12, ix_13, ix_14, ix_15, ix_16, ix_17, ix_18, ix_19, ix_20, ix_21, Nat.reduceAdd, wI_c, wI_ne, wL_1, lupd_ne, up1_eq, up1_ne]
  · simp (disch := decide) only [ix_0, ix_1, ix_2, ix_3, ix_4, ix_5, ix_6, ix_7, ix_8, ix_9, ix_10, ix_11, ix_12, ix_13, ix_14, ix_15, ix_16, ix_17, ix_18, ix_19, ix_20, ix_21, Nat.reduceAdd, wI_c, wI_ne, wL_1, lupd_ne, up1_eq, up1_ne]
theorem a_shutBag {a : Int32} (hA : AdmC s F A) (hM : FulM t F) (h0 : t.1 549 15 = 0) (h : RBg s t) (hc : RBc s t) (hi : RIt s t) : Ok (fLines_shutBag s a) fun x => Ok (fM_doClose t a) fun y => AP (fun s' t' => RBg s' t' ∧ s' = s) (fun s' t' => RBg s' t' ∧ s'.1 459 = up1 (s.1 459) (ix a) (cI 1)) F A s x y := by
  obtain ⟨⟨n1, n2, n3⟩, g1, g2, g3, g4, k1, b1, b2, b3, b4⟩ := id h
  obtain ⟨⟨m1, m2, m3⟩, -⟩ := id hi
  have hn : (fun s' t' => RBg s' t' ∧ s' = s) s (wI t 549 15 (cI 1)) := ⟨h.keep rf_fr no_fr rfl rfl, rfl⟩
  by_cases h1 : Has a (s.1 449 6)
  rotate_left
  · exact sim_no (c := cI (-101)) (by simp only [fLines_shutBag, fM_doClose, e_hasBag n2, e_isBag (by rw [n1]; exact n2), n1, ltM_eq, ltI_eq, ltL_eq, bd1_some, bd2_some, ite_bI, if_true, if_false, ite_true, ite_false, eq_self, not_true_eq_false, not_false_eq_true, i10, outside_eq, in_eq, no_eq, eq_false h1]) (by simp only [fLines_shutBag, fM_doClose, e_hasBag n2, e_isBag (by rw [n1]; exact n2), n1, ltM_eq, ltI_eq, ltL_eq, bd1_some, bd2_some, ite_bI, if_true, if_false, ite_true, ite_false, eq_self, not_true_eq_false, not_false_eq_true, i10, outside_eq, in_eq, no_eq, eq_false h1]) hn
  have hb : inb a 80 = true := h1.inb n3
  have w := h1.ix
  have e1 := g1 _ w
  by_cases h3 : s.1 459 (ix a) = 0
  rotate_left
  · exact sim_no (c := cI (-103)) (by simp only [fLines_shutBag, fM_doClose, e_hasBag n2, e_isBag (by rw [n1]; exact n2), n1, ltM_eq, ltI_eq, ltL_eq, bd1_some, bd2_some, ite_bI, if_true, if_false, ite_true, ite_false, eq_self, not_true_eq_false, not_false_eq_true, i10, outside_eq, in_eq, no_eq, eq_true h1, hb, ix_0, ix_1, ix_2, ix_3, ix_4, ix_5, ix_6, ix_7, ix_8, ix_9, ix_10, ix_11, ix_12, ix_13, ix_14, ix_15, ix_16, ix_17, ix_18, ix_19, ix_20, ix_21, Nat.reduceAdd, wI_c, wI_ne, wL_1, lupd_ne, up1_eq, up1_ne, eq_false h3]) (by simp only [fLines_shutBag, fM_doClose, e_hasBag n2, e_isBag (by rw [n1]; exact n2), n1, ltM_eq, ltI_eq, ltL_eq, bd1_some, bd2_some, ite_bI, if_true, if_false, ite_true, ite_false, eq_self, not_true_eq_false, not_false_eq_true, i10, outside_eq, in_eq, no_eq, eq_true h1, hb, e1, eq_false h3]) hn
  by_cases hF : F = true
  · subst hF
    exact sim_no (c := cI (-104)) (by simp only [fLines_shutBag, fM_doClose, e_hasBag n2, e_isBag (by rw [n1]; exact n2), n1, ltM_eq, ltI_eq, ltL_eq, bd1_some, bd2_some, ite_bI, if_true, if_false, ite_true, ite_false, eq_self, not_true_eq_false, not_false_eq_true, i10, outside_eq, in_eq, no_eq, eq_true h1, hb, ix_0, ix_1, ix_2, ix_3, ix_4, ix_5, ix_6, ix_7, ix_8, ix_9, ix_10, ix_11, ix_12, ix_13, ix_14, ix_15, ix_16, ix_17, ix_18, ix_19, ix_20, ix_21, Nat.reduceAdd, wI_c, wI_ne, wL_1, lupd_ne, up1_eq, up1_ne, eq_true h3, hA.no]) (by simp only [fLines_shutBag, fM_doClose, e_hasBag n2, e_isBag (by rw [n1]; exact n2), n1, ltM_eq, ltI_eq, ltL_eq, bd1_some, bd2_some, ite_bI, if_true, if_false, ite_true, ite_false, eq_self, not_true_eq_false, not_false_eq_true, i10, outside_eq, in_eq, no_eq, eq_true h1, hb, e1, eq_true h3, hM.no]) hn
  have hF2 : F = false := by cases F <;> simp_all
  subst hF2
  have f2 : fr [(618, 618, 0)] t (wI t 618 (ix a) (cI 1)) := fr.rf.wI rfl
  have ec := (RBc.cnt (hc.keep rf_fr f2 (by decide +kernel) (by decide +kernel)) (by rw [wI_ne (by decide)]; exact m1) m2 m3 h1).1
  simp (maxSteps := 2000000) (disch := decide) only [fLines_shutBag, fM_doClose, e_hasBag n2, e_isBag (by rw [n1]; exact n2), n1, ltM_eq, ltI_eq, ltL_eq, bd1_some, bd2_some, ite_bI, if_true, if_false, ite_true, ite_false, eq_self, not_true_eq_false, not_false_eq_true, i10, outside_eq, in_eq, no_eq, eq_true h1, hb, hA.yes, hM.yes, eq_true h3, e1, ec, ix_0, ix_1, ix_2, ix_3, ix_4, ix_5, ix_6, ix_7, ix_8, ix_9, ix_10, ix_11, ix_12, ix_13, ix_14, ix_15, ix_16, ix_17, ix_18, ix_19, ix_20, ix_21, Nat.reduceAdd, wI_c, wI_ne, wL_1, lupd_ne, up1_eq, up1_ne, ok_some]
  refine ⟨rfl, Or.inr ⟨?_, rfl, lgS.rf.wI (by decide) (by decide), ?_, ?_⟩⟩
  · simp (disch := decide) only [ix_0, ix_1, ix_2, ix_3, ix_4, ix_5, ix_6, ix_7, ix_8, ix_9, ix_10, ix_11, ix_12, ix_13, ix_14, ix_15, ix_16, ix_17, ix_18, ix_19, ix_20, ix_21, Nat.reduceAdd, wI_c, wI_ne, wL_1, lupd_ne, up1_eq, up1_ne]; exact h0
  · unfold RBg
    simp (disch := decide) only [ix_0, ix_1, ix_2, ix_3, ix_4, ix_5, ix_6, ix_7, ix_8, ix_9, ix_10, ix_11, ix_12, ix_13, ix_14, ix_15, ix_16, ix_17, ix_18, ix_19, ix_20, ix_21, Nat.reduceAdd, wI_c, wI_ne, wL_1, lupd_ne, up1_eq, up1_ne]
    refine ⟨⟨n1, n2, n3⟩, g1.set rfl, g2, g3, g4, fun i hi => ?_, b1.set (by decide), b2, b3, b4⟩
    by_cases z : i = ix a
    · rw [z, up1_eq]
      have k := (k1 _ w).1 (by rw [h3]; decide)
      exact ⟨fun _ => k, fun q => absurd q (by decide)⟩
    · rw [up1_ne z]
      exact k1 i hi
  · simp (disch := decide) only [ix_0, ix_1, ix_2, ix_3, ix_4, ix_5, ix_6, ix_7, ix_8, ix_9, ix_10, ix_11, ix_12, ix_13, ix_14, ix_15, ix_16, ix_17, ix_18, ix_19, ix_20, ix_21, Nat.reduceAdd, wI_c, wI_ne, wL_1, lupd_ne, up1_eq, up1_ne]
end
