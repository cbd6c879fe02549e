/-! ===== LEVEL 3: the act assign ===== -/
theorem ix_eq {a b : Int32} (ha : 0 ≤ a.toInt) (hb : 0 ≤ b.toInt) : ix a = ix b ↔ a = b := by
  rw [ix_toNat, ix_toNat, eq_i]; omega
theorem neg1_ne {n : Nat} (h : n < 2147483648) : ¬ cI (-1) = cI (n : Int) := fun w => by
  have w4 := congrArg Int32.toInt w
  have w5 : (cI (n : Int)).toInt = (n : Int) := cI_toInt (by omega) (by omega)
  rw [w5, show (cI (-1)).toInt = -1 from rfl] at w4
  omega
/-- a point becomes a stop of a round: what it does to the rounds' relation -/
theorem RSp.stp {s t s' t' : ev_M} {p r : Int32} (h : RSp s t) (h3 : (s.1 138 3).toInt ≤ 12) (hp : Has p (s.1 30 9)) (hr : Has r (s.1 138 3)) (h9 : (s.1 30 9).toInt ≤ 120) (hn : s.1 158 (ix p) = cI (-1)) (hl : (s.1 143 (ix r)).toInt < 20) (e1 : s'.1 138 3 = s.1 138 3) (e2 : s'.1 30 9 = s.1 30 9) (e3 : s'.1 143 = up1 (s.1 143) (ix r) (s.1 143 (ix r) + cI 1)) (e4 : s'.1 158 = up1 (s.1 158) (ix p) r) (e5 : ∀ q, q < 12 → s'.1 (146 + q) = if q = ix r then up1 (s.1 (146 + ix r)) (ix (s.1 143 (ix r))) p else s.1 (146 + q)) (e6 : t'.1 571 = up1 (t.1 571) (ix p) r) (e7 : t'.1 572 = up1 (t.1 572) (ix p) (s.1 143 (ix r))) : RSp s' t' := by
  obtain ⟨q0, q1, q2, q3, q4, q5⟩ := h
  have r1 := hr.ix
  have p1 := hp.ix
  have r0 := hr.1
  have p0 := hp.1
  have n12 : ix (s.1 138 3) ≤ 12 := by rw [ix_toNat]; omega
  have n120 : ix (s.1 30 9) ≤ 120 := by rw [ix_toNat]; omega
  have z0 := (q1 _ r1).1
  have zi : (s.1 143 (ix r) + cI 1).toInt = (s.1 143 (ix r)).toInt + 1 := inc_i (by omega)
  have zx : ix (s.1 143 (ix r) + cI 1) = ix (s.1 143 (ix r)) + 1 := ix_inc z0 (by omega)
  have rc : cI ((ix r : Nat) : Int) = r := cI_ix hr.1
  have pc : cI ((ix p : Nat) : Int) = p := cI_ix hp.1
  have er : ∀ a, a < 12 → rowsOf s' 146 12 a = if a = ix r then up1 (rowsOf s 146 12 a) (ix (s.1 143 (ix r))) p else rowsOf s 146 12 a := fun a ha => by
    rw [rows_at ha, rows_at ha, e5 a ha]
    by_cases z : a = ix r
    · rw [if_pos z, if_pos z, z]
    · rw [if_neg z, if_neg z]
  unfold RSp
  rw [e1, e2, e3, e4, e6, e7]
  refine ⟨fun a ha => ?_, q1.set ⟨by omega, by omega⟩, q2.set rfl, fun j h1 h2 => ?_, fun j hj => ?_, fun a k ha hk => ?_⟩
  · rw [cntE_set (by rw [hn]; exact neg1_ne (by omega)) _ p1]
    by_cases z : a = ix r
    · rw [z, up1_eq, rc, if_pos rfl, zi, q0 _ r1, rc]
      omega
    · rw [up1_ne z, if_neg (fun w => z (by rw [w, ix_n a (by omega)])), q0 a ha]
      rfl
  · rw [up1_ne (by omega)]
    exact q3 j h1 h2
  · by_cases z : j = ix p
    · rw [z, up1_eq, up1_eq, up1_eq]
      refine Or.inr ⟨hr, ⟨z0, by omega⟩, ?_⟩
      rw [er _ (by omega), if_pos rfl, up1_eq, pc]
    · rw [up1_ne z, up1_ne z]
      rcases q4 j hj with w | ⟨w1, w2, w3⟩
      · exact Or.inl w
      · have w4 := w1.ix
        refine Or.inr ⟨w1, ?_, ?_⟩
        · by_cases y : ix (s.1 158 j) = ix r
          · rw [y, up1_eq]
            rw [y] at w2
            exact ⟨w2.1, by have := w2.2; omega⟩
          · rw [up1_ne y]; exact w2
        · rw [er _ (by omega)]
          by_cases y : ix (s.1 158 j) = ix r
          · rw [y] at w2 w3 ⊢
            have w5 := w2.ix
            rw [if_pos rfl, up1_ne (by omega)]
            exact w3
          · rw [if_neg y]; exact w3
  · have y12 : a < 12 := by omega
    rw [er a y12]
    by_cases z : a = ix r
    · rw [z, up1_eq, zx] at hk
      rw [if_pos z]
      by_cases y : k = ix (s.1 143 (ix r))
      · rw [y, up1_eq, up1_eq, up1_eq, z, rc]
        exact ⟨hp, rfl, (cI_ix z0).symm⟩
      · rw [up1_ne y, z]
        obtain ⟨w1, w2, w3⟩ := q5 (ix r) k r1 (by omega)
        have w4 : ¬ ix (rowsOf s 146 12 (ix r) k) = ix p := fun e => by
          rw [e, hn] at w2
          exact neg1_ne (by omega) w2
        rw [up1_ne w4, up1_ne w4]
        exact ⟨w1, w2, w3⟩
    · rw [up1_ne z] at hk
      rw [if_neg z]
      obtain ⟨w1, w2, w3⟩ := q5 a k ha hk
      have w4 : ¬ ix (rowsOf s 146 12 a k) = ix p := fun e => by
        rw [e, hn] at w2
        exact neg1_ne (by omega) w2
      rw [up1_ne w4, up1_ne w4]
      exact ⟨w1, w2, w3⟩
section
variable {s t : ev_M} {F : Bool} {A : Nat → Nat → Int32}
theorem e_placeAt {a : Int32} (hp : RPo s t) (hs : RSt s t) (ha : Has a (s.1 30 9)) : fBook_placeOfPoint s a = some (s.1 36 (ix (s.1 44 (ix a)))) ∧ fM_placeOf t a = some (s.1 36 (ix (s.1 44 (ix a)))) := by
  obtain ⟨⟨p1, p2, p3⟩, g1, -, b1, -⟩ := hp
  obtain ⟨⟨m1, m2, m3⟩, -, -, -, k4, -⟩ := hs
  have hb : inb a 120 = true := ha.inb p3
  have h1 := b1 _ ha.ix
  have h2 : Has (s.1 44 (ix a)) (s.1 30 4) := ⟨h1.1, by omega⟩
  have hc : inb (s.1 44 (ix a)) 30 = true := h2.inb m3
  refine ⟨?_, ?_⟩
  · simp only [fBook_placeOfPoint, ix_0, ix_1, ix_2, ix_3, ix_4, ix_5, ix_6, ix_7, ix_8, ix_9, ix_10, ix_11, ix_12, ix_13, ix_14, ix_15, ix_16, ix_17, ix_18, ix_19, ix_20, ix_21, Nat.reduceAdd, wI_c, wI_ne, wL_1, lupd_ne, up1_eq, up1_ne, hb, hc, if_true]
  · simp only [fM_placeOf, hb, g1 _ ha.ix, hc, if_true, k4 _ h2.ix]
theorem a_assign {a b : Int32} (hA : AdmC s F A) (hM : FulM t F) (h0 : t.1 549 15 = 0) (h : RSp s t) (hr : RRo s t) (hp : RPo s t) (hs : RSt s t) : Ok (fRounds_addStop s a b) fun x => Ok (fM_doAssign t a b) fun y => AP RSp RSp F A s x y := by
  obtain ⟨⟨n1, n2, n3⟩, g1, -⟩ := id hr
  obtain ⟨⟨p1, p2, p3⟩, -⟩ := id hp
  obtain ⟨-, k1, k2, -⟩ := id h
  have hn : RSp s (wI t 549 15 (cI 1)) := h.keep rf_fr no_fr rfl rfl
  by_cases h1 : Has a (s.1 30 9)
  rotate_left
  · exact sim_no (c := cI (-101)) (by simp only [fRounds_addStop, fM_doAssign_b16, fM_doAssign_b47, fM_doAssign_b73, fM_doAssign, e_hasPoint p2, e_isPoint (by rw [p1]; exact p2), p1, n1, e_roundsHas n2, e_isRound (by rw [n1]; exact n2), ltM_eq, ltI_eq, ltL_eq, bd1_some, bd2_some, ite_bI, if_true, if_false, ite_true, ite_false, eq_self, not_true_eq_false, not_false_eq_true, i10, outside_eq, in_eq, no_eq, eq_false h1]) (by simp only [fRounds_addStop, fM_doAssign_b16, fM_doAssign_b47, fM_doAssign_b73, fM_doAssign, e_hasPoint p2, e_isPoint (by rw [p1]; exact p2), p1, n1, e_roundsHas n2, e_isRound (by rw [n1]; exact n2), ltM_eq, ltI_eq, ltL_eq, bd1_some, bd2_some, ite_bI, if_true, if_false, ite_true, ite_false, eq_self, not_true_eq_false, not_false_eq_true, i10, outside_eq, in_eq, no_eq, eq_false h1]) hn
  by_cases h2 : Has b (s.1 138 3)
  rotate_left
  · exact sim_no (c := cI (-101)) (by simp only [fRounds_addStop, fM_doAssign_b16, fM_doAssign_b47, fM_doAssign_b73, fM_doAssign, e_hasPoint p2, e_isPoint (by rw [p1]; exact p2), p1, n1, e_roundsHas n2, e_isRound (by rw [n1]; exact n2), ltM_eq, ltI_eq, ltL_eq, bd1_some, bd2_some, ite_bI, if_true, if_false, ite_true, ite_false, eq_self, not_true_eq_false, not_false_eq_true, i10, outside_eq, in_eq, no_eq, eq_true h1, eq_false h2]) (by simp only [fRounds_addStop, fM_doAssign_b16, fM_doAssign_b47, fM_doAssign_b73, fM_doAssign, e_hasPoint p2, e_isPoint (by rw [p1]; exact p2), p1, n1, e_roundsHas n2, e_isRound (by rw [n1]; exact n2), ltM_eq, ltI_eq, ltL_eq, bd1_some, bd2_some, ite_bI, if_true, if_false, ite_true, ite_false, eq_self, not_true_eq_false, not_false_eq_true, i10, outside_eq, in_eq, no_eq, eq_true h1, eq_false h2]) hn
  obtain ⟨e1, e2⟩ := e_placeAt hp hs h1
  have hb : inb a 120 = true := h1.inb p3
  have hc : inb b 12 = true := h2.inb n3
  have e3 := g1 _ h2.ix
  have e4 := k2 _ h1.ix
  have e5 := h.pts hp h2 n3
  have z := k1 _ h2.ix
  by_cases h3 : s.1 36 (ix (s.1 44 (ix a))) = s.1 140 (ix b)
  rotate_left
  · exact sim_no (c := cI (-103)) (by simp only [fRounds_addStop, fM_doAssign_b16, fM_doAssign_b47, fM_doAssign_b73, fM_doAssign, e_hasPoint p2, e_isPoint (by rw [p1]; exact p2), p1, n1, e_roundsHas n2, e_isRound (by rw [n1]; exact n2), ltM_eq, ltI_eq, ltL_eq, bd1_some, bd2_some, ite_bI, if_true, if_false, ite_true, ite_false, eq_self, not_true_eq_false, not_false_eq_true, i10, outside_eq, in_eq, no_eq, eq_true h1, eq_true h2, hb, hc, e1, ix_0, ix_1, ix_2, ix_3, ix_4, ix_5, ix_6, ix_7, ix_8, ix_9, ix_10, ix_11, ix_12, ix_13, ix_14, ix_15, ix_16, ix_17, ix_18, ix_19, ix_20, ix_21, Nat.reduceAdd, wI_c, wI_ne, wL_1, lupd_ne, up1_eq, up1_ne, eq_false h3]) (by simp only [fRounds_addStop, fM_doAssign_b16, fM_doAssign_b47, fM_doAssign_b73, fM_doAssign, e_hasPoint p2, e_isPoint (by rw [p1]; exact p2), p1, n1, e_roundsHas n2, e_isRound (by rw [n1]; exact n2), ltM_eq, ltI_eq, ltL_eq, bd1_some, bd2_some, ite_bI, if_true, if_false, ite_true, ite_false, eq_self, not_true_eq_false, not_false_eq_true, i10, outside_eq, in_eq, no_eq, eq_true h1, eq_true h2, hb, hc, e2, e3, eq_false h3]) hn
  by_cases h4 : s.1 158 (ix a) = cI (-1)
  rotate_left
  · exact sim_no (c := cI (-103)) (by simp only [fRounds_addStop, fM_doAssign_b16, fM_doAssign_b47, fM_doAssign_b73, fM_doAssign, e_hasPoint p2, e_isPoint (by rw [p1]; exact p2), p1, n1, e_roundsHas n2, e_isRound (by rw [n1]; exact n2), ltM_eq, ltI_eq, ltL_eq, bd1_some, bd2_some, ite_bI, if_true, if_false, ite_true, ite_false, eq_self, not_true_eq_false, not_false_eq_true, i10, outside_eq, in_eq, no_eq, eq_true h1, eq_true h2, hb, hc, e1, ix_0, ix_1, ix_2, ix_3, ix_4, ix_5, ix_6, ix_7, ix_8, ix_9, ix_10, ix_11, ix_12, ix_13, ix_14, ix_15, ix_16, ix_17, ix_18, ix_19, ix_20, ix_21, Nat.reduceAdd, wI_c, wI_ne, wL_1, lupd_ne, up1_eq, up1_ne, eq_true h3, eq_false h4]) (by simp only [fRounds_addStop, fM_doAssign_b16, fM_doAssign_b47, fM_doAssign_b73, fM_doAssign, e_hasPoint p2, e_isPoint (by rw [p1]; exact p2), p1, n1, e_roundsHas n2, e_isRound (by rw [n1]; exact n2), ltM_eq, ltI_eq, ltL_eq, bd1_some, bd2_some, ite_bI, if_true, if_false, ite_true, ite_false, eq_self, not_true_eq_false, not_false_eq_true, i10, outside_eq, in_eq, no_eq, eq_true h1, eq_true h2, hb, hc, e2, e3, e4, eq_true h3, eq_false h4]) hn
  by_cases h5 : s.1 143 (ix b) < cI 20
  rotate_left
  · have h59 : s.1 143 (ix b) = cI 20 := cap_eq h5 z.2
    exact sim_no (c := cI (-104)) (by simp only [fRounds_addStop, fM_doAssign_b16, fM_doAssign_b47, fM_doAssign_b73, fM_doAssign, e_hasPoint p2, e_isPoint (by rw [p1]; exact p2), p1, n1, e_roundsHas n2, e_isRound (by rw [n1]; exact n2), ltM_eq, ltI_eq, ltL_eq, bd1_some, bd2_some, ite_bI, if_true, if_false, ite_true, ite_false, eq_self, not_true_eq_false, not_false_eq_true, i10, outside_eq, in_eq, no_eq, eq_true h1, eq_true h2, hb, hc, e1, ix_0, ix_1, ix_2, ix_3, ix_4, ix_5, ix_6, ix_7, ix_8, ix_9, ix_10, ix_11, ix_12, ix_13, ix_14, ix_15, ix_16, ix_17, ix_18, ix_19, ix_20, ix_21, Nat.reduceAdd, wI_c, wI_ne, wL_1, lupd_ne, up1_eq, up1_ne, eq_true h3, eq_true h4, eq_false h5]) (by simp only [fRounds_addStop, fM_doAssign_b16, fM_doAssign_b47, fM_doAssign_b73, fM_doAssign, e_hasPoint p2, e_isPoint (by rw [p1]; exact p2), p1, n1, e_roundsHas n2, e_isRound (by rw [n1]; exact n2), ltM_eq, ltI_eq, ltL_eq, bd1_some, bd2_some, ite_bI, if_true, if_false, ite_true, ite_false, eq_self, not_true_eq_false, not_false_eq_true, i10, outside_eq, in_eq, no_eq, eq_true h1, eq_true h2, hb, hc, e2, e3, e4, e5, eq_true h3, eq_true h4, eq_true h59]) hn
  have h59 : ¬ s.1 143 (ix b) = cI 20 := cap_ne h5
  by_cases hF : F = true
  · subst hF
    exact sim_no (c := cI (-104)) (by simp only [fRounds_addStop, fM_doAssign_b16, fM_doAssign_b47, fM_doAssign_b73, fM_doAssign, e_hasPoint p2, e_isPoint (by rw [p1]; exact p2), p1, n1, e_roundsHas n2, e_isRound (by rw [n1]; exact n2), ltM_eq, ltI_eq, ltL_eq, bd1_some, bd2_some, ite_bI, if_true, if_false, ite_true, ite_false, eq_self, not_true_eq_false, not_false_eq_true, i10, outside_eq, in_eq, no_eq, eq_true h1, eq_true h2, hb, hc, e1, ix_0, ix_1, ix_2, ix_3, ix_4, ix_5, ix_6, ix_7, ix_8, ix_9, ix_10, ix_11, ix_12, ix_13, ix_14, ix_15, ix_16, ix_17, ix_18, ix_19, ix_20, ix_21, Nat.reduceAdd, wI_c, wI_ne, wL_1, lupd_ne, up1_eq, up1_ne, eq_true h3, eq_true h4, eq_true h5, hA.no]) (by simp only [fRounds_addStop, fM_doAssign_b16, fM_doAssign_b47, fM_doAssign_b73, fM_doAssign, e_hasPoint p2, e_isPoint (by rw [p1]; exact p2), p1, n1, e_roundsHas n2, e_isRound (by rw [n1]; exact n2), ltM_eq, ltI_eq, ltL_eq, bd1_some, bd2_some, ite_bI, if_true, if_false, ite_true, ite_false, eq_self, not_true_eq_false, not_false_eq_true, i10, outside_eq, in_eq, no_eq, eq_true h1, eq_true h2, hb, hc, e2, e3, e4, e5, eq_true h3, eq_true h4, eq_false h59, hM.no]) hn
  have hF2 : F = false := by cases F <;> simp_all
  subst hF2
  have hk5 : (s.1 143 (ix b)).toInt < 20 := lt_n h5
  have hd : inb (s.1 143 (ix b)) 20 = true := inb_iff.mpr ⟨z.1, hk5⟩
  have r1 := h2.ix
  have n12 : ix (s.1 138 3) ≤ 12 := by rw [ix_toNat]; omega
  have wn : ∀ c, c < 146 → ∀ (m : ev_M) k x, (wI m (146 + ix b) k x).1 c = m.1 c := fun c hc2 m k x => wI_ne (by omega)
  simp (maxSteps := 2000000) (disch := decide) only [fRounds_addStop, fM_doAssign_b16, fM_doAssign_b47, fM_doAssign_b73, fM_doAssign, e_hasPoint p2, e_isPoint (by rw [p1]; exact p2), p1, n1, e_roundsHas n2, e_isRound (by rw [n1]; exact n2), ltM_eq, ltI_eq, ltL_eq, bd1_some, bd2_some, ite_bI, if_true, if_false, ite_true, ite_false, eq_self, not_true_eq_false, not_false_eq_true, i10, outside_eq, in_eq, no_eq, eq_true h1, eq_true h2, hb, hc, hd, e1, e2, e3, e4, e5, eq_true h3, eq_true h4, eq_true h5, eq_false h59, hA.yes, hM.yes, ix_0, ix_1, ix_2, ix_3, ix_4, ix_5, ix_6, ix_7, ix_8, ix_9, ix_10, ix_11, ix_12, ix_13, ix_14, ix_15, ix_16, ix_17, ix_18, ix_19, ix_20, ix_21, Nat.reduceAdd, wI_c, wI_ne, wL_1, lupd_ne, up1_eq, up1_ne, wn, ok_some]
  refine ⟨rfl, Or.inr ⟨?_, rfl, ?_, ?_⟩⟩
  · simp (disch := decide) only [ix_0, ix_1, ix_2, ix_3, ix_4, ix_5, ix_6, ix_7, ix_8, ix_9, ix_10, ix_11, ix_12, ix_13, ix_14, ix_15, ix_16, ix_17, ix_18, ix_19, ix_20, ix_21, Nat.reduceAdd, wI_c, wI_ne, wL_1, lupd_ne, up1_eq, up1_ne]; exact h0
  · exact ((lgS.rf.wI (by decide) (by decide)).wI (by decide) (by decide)).wI (by omega) (by omega)
  · refine h.stp n3 h1 h2 p3 h4 hk5 ?_ ?_ ?_ ?_ (fun q hq => ?_) ?_ ?_
    · simp (disch := decide) only [ix_0, ix_1, ix_2, ix_3, ix_4, ix_5, ix_6, ix_7, ix_8, ix_9, ix_10, ix_11, ix_12, ix_13, ix_14, ix_15, ix_16, ix_17, ix_18, ix_19, ix_20, ix_21, Nat.reduceAdd, wI_c, wI_ne, wL_1, lupd_ne, up1_eq, up1_ne, wn]
    · simp (disch := decide) only [ix_0, ix_1, ix_2, ix_3, ix_4, ix_5, ix_6, ix_7, ix_8, ix_9, ix_10, ix_11, ix_12, ix_13, ix_14, ix_15, ix_16, ix_17, ix_18, ix_19, ix_20, ix_21, Nat.reduceAdd, wI_c, wI_ne, wL_1, lupd_ne, up1_eq, up1_ne, wn]
    · simp (disch := decide) only [ix_0, ix_1, ix_2, ix_3, ix_4, ix_5, ix_6, ix_7, ix_8, ix_9, ix_10, ix_11, ix_12, ix_13, ix_14, ix_15, ix_16, ix_17, ix_18, ix_19, ix_20, ix_21, Nat.reduceAdd, wI_c, wI_ne, wL_1, lupd_ne, up1_eq, up1_ne, wn]
    · rw [wI_ne (by omega)]; simp (disch := decide) only [ix_0, ix_1, ix_2, ix_3, ix_4, ix_5, ix_6, ix_7, ix_8, ix_9, ix_10, ix_11, ix_12, ix_13, ix_14, ix_15, ix_16, ix_17, ix_18, ix_19, ix_20, ix_21, Nat.reduceAdd, wI_c, wI_ne, wL_1, lupd_ne, up1_eq, up1_ne]
    · by_cases w : q = ix b
      · rw [if_pos w, w, wI_c, wI_ne (by omega), wI_ne (by omega), lupd_ne (by omega)]
      · rw [if_neg w, wI_ne (by omega), wI_ne (by omega), wI_ne (by omega), lupd_ne (by omega)]
    · simp (disch := decide) only [ix_0, ix_1, ix_2, ix_3, ix_4, ix_5, ix_6, ix_7, ix_8, ix_9, ix_10, ix_11, ix_12, ix_13, ix_14, ix_15, ix_16, ix_17, ix_18, ix_19, ix_20, ix_21, Nat.reduceAdd, wI_c, wI_ne, wL_1, lupd_ne, up1_eq, up1_ne]
    · simp (disch := decide) only [ix_0, ix_1, ix_2, ix_3, ix_4, ix_5, ix_6, ix_7, ix_8, ix_9, ix_10, ix_11, ix_12, ix_13, ix_14, ix_15, ix_16, ix_17, ix_18, ix_19, ix_20, ix_21, Nat.reduceAdd, wI_c, wI_ne, wL_1, lupd_ne, up1_eq, up1_ne]
end
