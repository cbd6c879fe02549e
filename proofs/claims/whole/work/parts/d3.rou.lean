/-! ===== LEVEL 3: the act round ===== -/
theorem cntE_0 {f : Nat → Int32} {x : Int32} : ∀ n, (∀ j, j < n → ¬ f j = x) → cntE f x n = 0
  | 0, _ => rfl
  | n + 1, h => by simp only [cntE, cntE_0 n (fun j hj => h j (by omega)), if_neg (h n (by omega))]
section
variable {s t : ev_M} {F : Bool} {A : Nat → Nat → Int32}
/-- a new round, and no point in it yet -/
theorem RSp.newR (h : RSp s t) (hr : RRo s t) (hl : (s.1 138 3).toInt < 12) {a b c : Int32} : RSp (wI (wI (wI (wI (wI (wI (lupd A s) 140 (ix (s.1 138 3)) a) 141 (ix (s.1 138 3)) b) 142 (ix (s.1 138 3)) c) 143 (ix (s.1 138 3)) (cI 0)) 144 (ix (s.1 138 3)) (cI 0)) 138 3 (s.1 138 3 + cI 1)) (wI (wI (wI (wI t 607 (ix (s.1 138 3)) a) 608 (ix (s.1 138 3)) b) 609 (ix (s.1 138 3)) c) 549 87 (s.1 138 3 + cI 1)) := by
  obtain ⟨⟨-, n2, n3⟩, -⟩ := hr
  obtain ⟨q0, q1, q2, q3, q4, q5⟩ := h
  have e : (s.1 138 3 + cI 1).toInt = (s.1 138 3).toInt + 1 := inc_i (by omega)
  have ei : ix (s.1 138 3 + cI 1) = ix (s.1 138 3) + 1 := ix_inc n2 (by omega)
  have en : (ix (s.1 138 3) : Int) = (s.1 138 3).toInt := by rw [ix_toNat]; omega
  have er : rowsOf (wI (wI (wI (wI (wI (wI (lupd A s) 140 (ix (s.1 138 3)) a) 141 (ix (s.1 138 3)) b) 142 (ix (s.1 138 3)) c) 143 (ix (s.1 138 3)) (cI 0)) 144 (ix (s.1 138 3)) (cI 0)) 138 3 (s.1 138 3 + cI 1)) 146 12 = rowsOf s 146 12 := rows_eq (fun r hr => by rw [wI_ne (by omega), wI_ne (by omega), wI_ne (by omega), wI_ne (by omega), wI_ne (by omega), wI_ne (by omega), lupd_ne (by omega)])
  unfold RSp
  rw [er]
  simp (disch := decide) only [ix_0, ix_1, ix_2, ix_3, ix_4, ix_5, ix_6, ix_7, ix_8, ix_9, ix_10, ix_11, ix_12, ix_13, ix_14, ix_15, ix_16, ix_17, ix_18, ix_19, ix_20, ix_21, Nat.reduceAdd, wI_c, wI_ne, wL_1, lupd_ne, up1_eq, up1_ne, ei]
  refine ⟨fun r hr => ?_, q1.ext ⟨by decide, by decide⟩ rfl, q2, q3, fun p hp => ?_, fun r k hr hk => ?_⟩
  · by_cases z : r = ix (s.1 138 3)
    · rw [z, up1_eq, cntE_0]
      · rfl
      · intro j hj w
        rcases q4 j hj with w2 | ⟨w2, -⟩
        · rw [w2] at w
          have w4 := congrArg Int32.toInt w
          have w5 : (cI ((ix (s.1 138 3) : Nat) : Int)).toInt = (ix (s.1 138 3) : Int) := cI_toInt (by omega) (by omega)
          rw [w5, show (cI (-1)).toInt = -1 from rfl] at w4
          omega
        · have w3 := w2.2
          rw [w, cI_toInt (by omega) (by omega)] at w3
          omega
    · rw [up1_ne z]
      exact q0 r (by omega)
  · rcases q4 p hp with w | ⟨w1, w2, w3⟩
    · exact Or.inl w
    · have := w1.ix
      refine Or.inr ⟨⟨w1.1, by have := w1.2; omega⟩, ?_, w3⟩
      rw [up1_ne (by omega)]
      exact w2
  · by_cases z : r = ix (s.1 138 3)
    · rw [z, up1_eq] at hk
      exact absurd hk (Nat.not_lt_zero k)
    · rw [up1_ne z] at hk
      exact q5 r k (by omega) hk
theorem a_round {a b c : Int32} (hA : AdmC s F A) (hM : FulM t F) (h0 : t.1 549 15 = 0) (h : RRo s t) (hs : RSp s t) (hp : RPl s t) : Ok (fRounds_make s a b c) fun x => Ok (fM_doRound t a b c) fun y => AP (fun s' t' => (RRo s' t' ∧ RSp s' t') ∧ s' = s) (fun s' t' => (RRo s' t' ∧ RSp s' t') ∧ s'.1 138 3 = s.1 138 3 + cI 1 ∧ s'.1 144 = up1 (s.1 144) (ix (s.1 138 3)) (cI 0) ∧ (s.1 138 3).toInt < 12) F A s x y := by
  obtain ⟨⟨n1, n2, n3⟩, g1, g2, g3, b1, b2, b3⟩ := id h
  obtain ⟨⟨p1, p2⟩, -⟩ := id hp
  have hn : (fun s' t' => (RRo s' t' ∧ RSp s' t') ∧ s' = s) s (wI t 549 15 (cI 1)) := ⟨⟨h.keep rf_fr no_fr rfl rfl, hs.keep rf_fr no_fr rfl rfl⟩, rfl⟩
  by_cases h1 : Has a (s.1 30 2)
  rotate_left
  · exact sim_no (c := cI (-101)) (by simp only [fRounds_make, fM_doRound_b41, fM_doRound_b64, fM_doRound, e_hasPlace p2.1, e_isPlace (by rw [p1]; exact p2.1), p1, n1, ltM_eq, ltI_eq, ltL_eq, bd1_some, bd2_some, ite_bI, if_true, if_false, ite_true, ite_false, eq_self, not_true_eq_false, not_false_eq_true, i10, outside_eq, in_eq, no_eq, eq_false h1]) (by simp only [fRounds_make, fM_doRound_b41, fM_doRound_b64, fM_doRound, e_hasPlace p2.1, e_isPlace (by rw [p1]; exact p2.1), p1, n1, ltM_eq, ltI_eq, ltL_eq, bd1_some, bd2_some, ite_bI, if_true, if_false, ite_true, ite_false, eq_self, not_true_eq_false, not_false_eq_true, i10, outside_eq, in_eq, no_eq, eq_false h1]) hn
  by_cases h2 : InR b (cI (-2000)) (cI 2000)
  rotate_left
  · exact sim_no (c := cI (-102)) (by simp only [fRounds_make, fM_doRound_b41, fM_doRound_b64, fM_doRound, e_hasPlace p2.1, e_isPlace (by rw [p1]; exact p2.1), p1, n1, ltM_eq, ltI_eq, ltL_eq, bd1_some, bd2_some, ite_bI, if_true, if_false, ite_true, ite_false, eq_self, not_true_eq_false, not_false_eq_true, i10, outside_eq, in_eq, no_eq, eq_true h1, eq_false h2]) (by simp only [fRounds_make, fM_doRound_b41, fM_doRound_b64, fM_doRound, e_hasPlace p2.1, e_isPlace (by rw [p1]; exact p2.1), p1, n1, ltM_eq, ltI_eq, ltL_eq, bd1_some, bd2_some, ite_bI, if_true, if_false, ite_true, ite_false, eq_self, not_true_eq_false, not_false_eq_true, i10, outside_eq, in_eq, no_eq, eq_true h1, eq_false h2]) hn
  by_cases h3 : InR c (cI (-2000)) (cI 2000)
  rotate_left
  · exact sim_no (c := cI (-102)) (by simp only [fRounds_make, fM_doRound_b41, fM_doRound_b64, fM_doRound, e_hasPlace p2.1, e_isPlace (by rw [p1]; exact p2.1), p1, n1, ltM_eq, ltI_eq, ltL_eq, bd1_some, bd2_some, ite_bI, if_true, if_false, ite_true, ite_false, eq_self, not_true_eq_false, not_false_eq_true, i10, outside_eq, in_eq, no_eq, eq_true h1, eq_true h2, eq_false h3]) (by simp only [fRounds_make, fM_doRound_b41, fM_doRound_b64, fM_doRound, e_hasPlace p2.1, e_isPlace (by rw [p1]; exact p2.1), p1, n1, ltM_eq, ltI_eq, ltL_eq, bd1_some, bd2_some, ite_bI, if_true, if_false, ite_true, ite_false, eq_self, not_true_eq_false, not_false_eq_true, i10, outside_eq, in_eq, no_eq, eq_true h1, eq_true h2, eq_false h3]) hn
  by_cases h7 : (s.1 138 3) < cI 12
  rotate_left
  · have h79 : (s.1 138 3) = cI 12 := cap_eq h7 (n3)
    exact sim_no (c := cI (-104)) (by simp only [fRounds_make, fM_doRound_b41, fM_doRound_b64, fM_doRound, e_hasPlace p2.1, e_isPlace (by rw [p1]; exact p2.1), p1, n1, ltM_eq, ltI_eq, ltL_eq, bd1_some, bd2_some, ite_bI, if_true, if_false, ite_true, ite_false, eq_self, not_true_eq_false, not_false_eq_true, i10, outside_eq, in_eq, no_eq, eq_true h1, eq_true h2, eq_true h3, eq_false h7, eq_true h79]) (by simp only [fRounds_make, fM_doRound_b41, fM_doRound_b64, fM_doRound, e_hasPlace p2.1, e_isPlace (by rw [p1]; exact p2.1), p1, n1, ltM_eq, ltI_eq, ltL_eq, bd1_some, bd2_some, ite_bI, if_true, if_false, ite_true, ite_false, eq_self, not_true_eq_false, not_false_eq_true, i10, outside_eq, in_eq, no_eq, eq_true h1, eq_true h2, eq_true h3, eq_false h7, eq_true h79]) hn
  have h79 : ¬ (s.1 138 3) = cI 12 := cap_ne h7
  by_cases hF : F = true
  · subst hF
    exact sim_no (c := cI (-104)) (by simp only [fRounds_make, fM_doRound_b41, fM_doRound_b64, fM_doRound, e_hasPlace p2.1, e_isPlace (by rw [p1]; exact p2.1), p1, n1, ltM_eq, ltI_eq, ltL_eq, bd1_some, bd2_some, ite_bI, if_true, if_false, ite_true, ite_false, eq_self, not_true_eq_false, not_false_eq_true, i10, outside_eq, in_eq, no_eq, eq_true h1, eq_true h2, eq_true h3, eq_true h7, eq_false h79, hA.no]) (by simp only [fRounds_make, fM_doRound_b41, fM_doRound_b64, fM_doRound, e_hasPlace p2.1, e_isPlace (by rw [p1]; exact p2.1), p1, n1, ltM_eq, ltI_eq, ltL_eq, bd1_some, bd2_some, ite_bI, if_true, if_false, ite_true, ite_false, eq_self, not_true_eq_false, not_false_eq_true, i10, outside_eq, in_eq, no_eq, eq_true h1, eq_true h2, eq_true h3, eq_true h7, eq_false h79, hM.no]) hn
  have hF2 : F = false := by cases F <;> simp_all
  subst hF2
  have hb : inb (s.1 138 3) 12 = true := inb_iff.mpr ⟨n2, lt_n h7⟩
  have hk7 : (s.1 138 3).toInt < 12 := lt_n h7
  have ei : ix (s.1 138 3 + cI 1) = ix (s.1 138 3) + 1 := ix_inc n2 (by omega)
  have e4 : (s.1 138 3 + cI 1).toInt = (s.1 138 3).toInt + 1 := inc_i (by omega)
  simp (maxSteps := 2000000) (disch := decide) only [fRounds_make, fM_doRound_b41, fM_doRound_b64, fM_doRound, e_hasPlace p2.1, e_isPlace (by rw [p1]; exact p2.1), p1, n1, ltM_eq, ltI_eq, ltL_eq, bd1_some, bd2_some, ite_bI, if_true, if_false, ite_true, ite_false, eq_self, not_true_eq_false, not_false_eq_true, i10, outside_eq, in_eq, no_eq, eq_true h1, eq_true h2, eq_true h3, eq_true h7, eq_false h79, hb, hA.yes, hM.yes, ix_0, ix_1, ix_2, ix_3, ix_4, ix_5, ix_6, ix_7, ix_8, ix_9, ix_10, ix_11, ix_12, ix_13, ix_14, ix_15, ix_16, ix_17, ix_18, ix_19, ix_20, ix_21, Nat.reduceAdd, wI_c, wI_ne, wL_1, lupd_ne, up1_eq, up1_ne, ok_some]
  have a1 := h1.1
  have a2 := h1.2
  refine ⟨?_, Or.inr ⟨?_, rfl, ?_, ⟨?_, hs.newR h hk7⟩, ?_, ?_, hk7⟩⟩
  · rw [Int32.add_sub_cancel]
  · simp (disch := decide) only [ix_0, ix_1, ix_2, ix_3, ix_4, ix_5, ix_6, ix_7, ix_8, ix_9, ix_10, ix_11, ix_12, ix_13, ix_14, ix_15, ix_16, ix_17, ix_18, ix_19, ix_20, ix_21, Nat.reduceAdd, wI_c, wI_ne, wL_1, lupd_ne, up1_eq, up1_ne]; exact h0
  · exact (((((lgS.rf.wI (by decide) (by decide)).wI (by decide) (by decide)).wI (by decide) (by decide)).wI (by decide) (by decide)).wI (by decide) (by decide)).wI (by decide) (by decide)
  · unfold RRo
    simp (disch := decide) only [ix_0, ix_1, ix_2, ix_3, ix_4, ix_5, ix_6, ix_7, ix_8, ix_9, ix_10, ix_11, ix_12, ix_13, ix_14, ix_15, ix_16, ix_17, ix_18, ix_19, ix_20, ix_21, Nat.reduceAdd, wI_c, wI_ne, wL_1, lupd_ne, up1_eq, up1_ne]
    exact ⟨⟨trivial, by omega, by omega⟩, g1.ext rfl ei, g2.ext rfl ei, g3.ext rfl ei, b1.ext ⟨a1, by omega⟩ ei, b2.ext h2 ei, b3.ext h3 ei⟩
  · simp (disch := decide) only [ix_0, ix_1, ix_2, ix_3, ix_4, ix_5, ix_6, ix_7, ix_8, ix_9, ix_10, ix_11, ix_12, ix_13, ix_14, ix_15, ix_16, ix_17, ix_18, ix_19, ix_20, ix_21, Nat.reduceAdd, wI_c, wI_ne, wL_1, lupd_ne, up1_eq, up1_ne]
  · simp (disch := decide) only [ix_0, ix_1, ix_2, ix_3, ix_4, ix_5, ix_6, ix_7, ix_8, ix_9, ix_10, ix_11, ix_12, ix_13, ix_14, ix_15, ix_16, ix_17, ix_18, ix_19, ix_20, ix_21, Nat.reduceAdd, wI_c, wI_ne, wL_1, lupd_ne, up1_eq, up1_ne]
end
