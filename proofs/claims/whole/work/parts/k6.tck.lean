/-! ===== LEVEL 3: the act tick ===== -/
def FtkC : List (Nat × (Nat × Nat)) := (15, 15, 2) :: (FdyC ++ (FavC ++ FdpC))
def FtkM : List (Nat × (Nat × Nat)) := (549, 549, 23) :: (FdyM ++ (FavM ++ FdpM))
/-- what the clock's going changes -/
def RTk (n k : Nat) (s t : ev_M) : Prop := RV n s t ∧ RMo s t ∧ RTim s t ∧ RLn k s t ∧ RBg s t ∧ RAv s t ∧ RLk s t
theorem RMo.keep {s t s' t' : ev_M} {F G : List (Nat × (Nat × Nat))} (h : RMo s t) (hs : fr F s s') (ht : fr G t t') (d1 : (nof F RLg_C && (nof F ROm_C && nof F RRm_C)) = true) (d2 : (nof G RLg_M && (nof G ROm_M && nof G RRm_M)) = true) : RMo s' t' := by
  simp only [Bool.and_eq_true] at d1 d2
  exact ⟨h.1.keep hs ht d1.1 d2.1, h.2.1.keep hs ht d1.2.1 d2.2.1, h.2.2.keep hs ht d1.2.2 d2.2.2⟩
/-- one leap of the clock -/
theorem lp_ok {n k : Nat} {s t : ev_M} {v4 v7 : Int32} (h : RTk n k s t) (hcu : RCu s t) (hP : RPl s t) (hk : 600 * k ≤ 500000000) (hn : n + 300 < 2147483646) (h4 : v4.toInt = ((s.1 15 1).toInt / 1440 + 1) * 1440) (h1 : (s.1 15 1).toInt < v7.toInt) (h7 : v7.toInt ≤ v4.toInt) (h9 : v7.toInt ≤ 1000000000) (hl : ∀ q, q < ix (s.1 449 4) → v7.toInt ≤ (s.1 456 q).toInt) (hb : ∀ q, q < ix (s.1 449 6) → s.1 459 q = cI 2 → v7.toInt ≤ (s.1 464 q).toInt) : ∃ s9 s10 s' t9 t', (if v7 = v4 then fPH_beginDay (wI s 15 1 v7) else some (wI s 15 1 v7)) = some s9 ∧ fLines_arrive s9 = some s10 ∧ fLines_leaveAll s10 = some s' ∧ (if irem v7 (cI 1440) = 0 then fM_dayBegins (wI t 549 22 v7) else some (wI t 549 22 v7)) = some t9 ∧ (∀ k51 x2, fM_doTick_h85 k51 1048576 t9 x2 (cI 0) = k51 t' x2) ∧ RTk (n + 300 * (v7.toInt / 1440 - (s.1 15 1).toInt / 1440).toNat) k s' t' ∧ s'.1 15 1 = v7 ∧ fr FtkC s s' ∧ fr FtkM t t' := by
  obtain ⟨q1, q2, q3, q4, q5, q6, q7⟩ := h
  obtain ⟨⟨c1, c2, c3⟩, c4, c5⟩ := id q3
  have f1 : fr [(15, 15, 2)] s (wI s 15 1 v7) := fr.rf.wI rfl
  have g1 : fr [(549, 549, 23)] t (wI t 549 22 v7) := fr.rf.wI rfl
  have T1 : RTim (wI s 15 1 v7) (wI t 549 22 v7) := by
    unfold RTim
    simp (disch := decide) only [ix_0, ix_1, ix_2, ix_3, ix_4, ix_5, ix_6, ix_7, ix_8, ix_9, ix_10, ix_11, ix_12, ix_13, ix_14, ix_15, ix_16, ix_17, ix_18, ix_19, ix_20, ix_21, Nat.reduceAdd, wI_c, wI_ne, wL_1, lupd_ne, up1_eq, up1_ne]
    exact ⟨⟨trivial, by omega, h9⟩, c4, c5⟩
  have L1 : RLw k (wI s 15 1 v7) (wI t 549 22 v7) := by
    obtain ⟨⟨l1, l2, l3⟩, a1, a2, a3, a4, a5, a6, a7, e1, e2, e3, e4, e5, e6, e7⟩ := q4
    unfold RLw
    simp (disch := decide) only [ix_0, ix_1, ix_2, ix_3, ix_4, ix_5, ix_6, ix_7, ix_8, ix_9, ix_10, ix_11, ix_12, ix_13, ix_14, ix_15, ix_16, ix_17, ix_18, ix_19, ix_20, ix_21, Nat.reduceAdd, wI_c, wI_ne, wL_1, lupd_ne, up1_eq, up1_ne]
    refine ⟨⟨?_, l2, l3⟩, a1, a2, a3, a4, a5, a6, a7, e1, e2, e3, e4, e5, fun q hq => ⟨hl q hq, ?_⟩, e7⟩
    · exact l1
    · have := (e6 q hq).2; omega
  have A1 : RAw (wI s 15 1 v7) (wI t 549 22 v7) := by
    unfold RAw
    simp (disch := decide) only [ix_0, ix_1, ix_2, ix_3, ix_4, ix_5, ix_6, ix_7, ix_8, ix_9, ix_10, ix_11, ix_12, ix_13, ix_14, ix_15, ix_16, ix_17, ix_18, ix_19, ix_20, ix_21, Nat.reduceAdd, wI_c, wI_ne, wL_1, lupd_ne, up1_eq, up1_ne]
    refine ⟨fun q hq h2 => ?_, q6.2⟩
    have := (q6.1 q hq h2).2
    exact ⟨hb q hq h2, by omega⟩
  have V1 := q1.keep f1 g1 (by decide +kernel) (by decide +kernel)
  have M1 := q2.keep f1 g1 (by decide +kernel) (by decide +kernel)
  have B1 := q5.keep f1 g1 (by decide +kernel) (by decide +kernel)
  have K1 := q7.keep f1 g1 (by decide +kernel) (by decide +kernel)
  have U1 := hcu.keep f1 g1 (by decide +kernel) (by decide +kernel)
  have P1 := hP.keep f1 g1 (by decide +kernel) (by decide +kernel)
  have ir := irem_toInt (x := v7) (y := cI 1440) (by omega) (by decide)
  rw [show (cI 1440).toInt = 1440 from rfl] at ir
  have iff : irem v7 (cI 1440) = 0 ↔ v7 = v4 := by
    rw [eq_i, eq_i, ir, i32_0]
    omega
  have e15 : (wI s 15 1 v7).1 15 1 = v7 := by rw [wI_c, up1_eq]
  -- the rest, from where the day has begun or not
  have fin : ∀ {m : Nat} {s9 t9 : ev_M}, RV m s9 t9 → RMo s9 t9 → RLk s9 t9 → fr FdyC (wI s 15 1 v7) s9 → fr FdyM (wI t 549 22 v7) t9 → ∃ s10 s' t', fLines_arrive s9 = some s10 ∧ fLines_leaveAll s10 = some s' ∧ (∀ k51 x2, fM_doTick_h85 k51 1048576 t9 x2 (cI 0) = k51 t' x2) ∧ RTk m k s' t' ∧ s'.1 15 1 = v7 ∧ fr FtkC s s' ∧ fr FtkM t t' := by
    intro m s9 t9 V9 M9 K9 f9 g9
    have T9 := T1.keep f9 g9 (by decide +kernel) (by decide +kernel)
    have L9 := L1.keep f9 g9 (by decide +kernel) (by decide +kernel)
    have A9 := A1.keep f9 g9 (by decide +kernel) (by decide +kernel)
    have B9 := B1.keep f9 g9 (by decide +kernel) (by decide +kernel)
    have P9 := P1.keep f9 g9 (by decide +kernel) (by decide +kernel)
    have nb := ix_toNat (s9.1 449 6)
    have nb2 := B9.1.2.2
    obtain ⟨s10, t10, a1, a2, a3, a4, a5, a6⟩ := ar_lp (k := k) (ix (s9.1 449 6)) 1048576 1048576 0 s9 t9 (by omega) (by omega) (by omega) L9 B9 A9 T9.1.1 (fun q hq => absurd hq (Nat.not_lt_zero _))
    have L10 := L9.keep a5 a6 (by decide +kernel) (by decide +kernel)
    have nl := ix_toNat (s10.1 449 4)
    have nl2 := L10.1.2.2
    obtain ⟨s', t', b1, b2, b3, b4, b5, b6, b7⟩ := lv_lp (k := k) hk (ix (s10.1 449 4)) 1048576 1048576 0 s10 t10 (by omega) (by omega) (by omega) L10 (T9.keep a5 a6 (by decide +kernel) (by decide +kernel)) (P9.keep a5 a6 (by decide +kernel) (by decide +kernel)) a3 a4 (fun q hq => absurd hq (Nat.not_lt_zero _))
    have fX : fr (FavC ++ FdpC) s9 s' := (a5.mono (by decide +kernel)).tr (b6.mono (by decide +kernel))
    have gX : fr (FavM ++ FdpM) t9 t' := (a6.mono (by decide +kernel)).tr (b7.mono (by decide +kernel))
    have fA : fr FtkC s s' := (f1.mono (by decide +kernel)).tr ((f9.mono (by decide +kernel)).tr (fX.mono (by decide +kernel)))
    have gA : fr FtkM t t' := (g1.mono (by decide +kernel)).tr ((g9.mono (by decide +kernel)).tr (gX.mono (by decide +kernel)))
    refine ⟨s10, s', t', a1, b1, fun k51 x2 => (a2 k51 x2).trans (b2 k51 x2), ⟨V9.keep fX gX (by decide +kernel) (by decide +kernel), M9.keep fX gX (by decide +kernel) (by decide +kernel), T9.keep fX gX (by decide +kernel) (by decide +kernel), b3, b4, b5, K9.keep fX gX (by decide +kernel) (by decide +kernel)⟩, ?_, fA, gA⟩
    rw [(fX.1 15 1 (by decide +kernel)).1, (f9.1 15 1 (by decide +kernel)).1, e15]
  by_cases z : v7 = v4
  · obtain ⟨s9, t9, d1, d2, d3, d4, d5, d6, d7⟩ := day_ok V1 M1 U1 T1 B1 K1 hn
    obtain ⟨s10, s', t', v1, v2, v3, v5, v6, v8, v9⟩ := fin d3 d4 d5 d6 d7
    refine ⟨s9, s10, s', t9, t', by rw [if_pos z]; exact d1, v1, v2, by rw [if_pos (iff.mpr z)]; exact d2, v3, ?_, v6, v8, v9⟩
    rw [show (v7.toInt / 1440 - (s.1 15 1).toInt / 1440).toNat = 1 by rw [z]; omega]
    exact v5
  · obtain ⟨s10, s', t', v1, v2, v3, v5, v6, v8, v9⟩ := fin V1 M1 K1 fr.rf fr.rf
    refine ⟨wI s 15 1 v7, s10, s', wI t 549 22 v7, t', by rw [if_neg z], v1, v2, by rw [if_neg (fun u => z (iff.mp u))], v3, ?_, v6, v8, v9⟩
    rw [eq_i] at z
    rw [show (v7.toInt / 1440 - (s.1 15 1).toInt / 1440).toNat = 0 by omega]
    exact v5
theorem tk_end {k n m m' : Nat} {x1 x2 x3 : Int32} {s t : ev_M} (hm : 0 < m) (hm' : 0 < m') (h : RTk n k s t) (hT : (s.1 15 1).toInt = x2.toInt) : ∃ s' t' v, fPH_goOn_h54 m s x1 x2 x3 = some (s', v) ∧ fM_doTick_h51 m' t x2 = some (t', v) ∧ RTk (n + 300 * (x2.toInt / 1440 - (s.1 15 1).toInt / 1440).toNat) k s' t' ∧ fr FtkC s s' ∧ fr FtkM t t' := by
  obtain ⟨m, rfl⟩ : ∃ k, m = k + 1 := ⟨m - 1, by omega⟩
  obtain ⟨m', rfl⟩ : ∃ k, m' = k + 1 := ⟨m' - 1, by omega⟩
  obtain ⟨⟨c1, c2, c3⟩, -⟩ := id h.2.2.1
  have z : ¬ s.1 15 1 < x2 := by rw [lt_i]; omega
  have e0 : (x2.toInt / 1440 - (s.1 15 1).toInt / 1440).toNat = 0 := by
    rw [← hT]; omega
  refine ⟨s, t, s.1 15 1, ?_, ?_, by rw [e0]; exact h, fr.rf, fr.rf⟩
  · rw [fPH_goOn_h54]
    unfold fPH_goOn_b144
    rw [if_neg z, ite_self]
  · rw [fM_doTick_h51, c1, if_neg z]
theorem tk_lp {k : Nat} {x1 x2 : Int32} (hk : 600 * k ≤ 500000000) (hx2 : x2.toInt ≤ 1000000000) (hx1 : x1.toInt ≤ 1440) : ∀ (r m m' n : Nat) (s t : ev_M) (x3 : Int32), x2.toInt - (s.1 15 1).toInt ≤ r → r < m → r < m' → RTk n k s t → RCu s t → RPl s t → 0 ≤ x3.toInt → x2.toInt - (s.1 15 1).toInt ≤ x1.toInt - x3.toInt → (s.1 15 1).toInt ≤ x2.toInt → n + 300 * (x2.toInt / 1440 - (s.1 15 1).toInt / 1440).toNat + 300 < 2147483646 → ∃ s' t' v, fPH_goOn_h54 m s x1 x2 x3 = some (s', v) ∧ fM_doTick_h51 m' t x2 = some (t', v) ∧ RTk (n + 300 * (x2.toInt / 1440 - (s.1 15 1).toInt / 1440).toNat) k s' t' ∧ fr FtkC s s' ∧ fr FtkM t t' := by
  intro r
  induction r with
  | zero =>
    intro m m' n s t x3 hr hm hm' h hcu hP h0 hd hT hn
    exact tk_end hm hm' h (by omega)
  | succ r ih =>
    intro m m' n s t x3 hr hm hm' h hcu hP h0 hd hT hn
    obtain ⟨⟨c1, c2, c3⟩, -⟩ := id h.2.2.1
    by_cases z : s.1 15 1 < x2
    rotate_left
    · rw [lt_i] at z
      exact tk_end (by omega) (by omega) h (by omega)
    · obtain ⟨m, rfl⟩ : ∃ k, m = k + 1 := ⟨m - 1, by omega⟩
      obtain ⟨m', rfl⟩ : ∃ k, m' = k + 1 := ⟨m' - 1, by omega⟩
      have z2 := lt_i.mp z
      have l3 : x3 < x1 := by rw [lt_i]; omega
      obtain ⟨y1, y2, y3⟩ := day_b (x := s.1 15 1) ⟨c2, c3⟩
      obtain ⟨v4, e4⟩ : ∃ v4, v4 = (s.1 15 1 / cI 1440 + cI 1) * cI 1440 := ⟨_, rfl⟩
      have b1 : (s.1 15 1 / cI 1440 + cI 1).toInt = (s.1 15 1).toInt / 1440 + 1 := by rw [inc_i (by omega), y3]
      have b4 : v4.toInt = ((s.1 15 1).toInt / 1440 + 1) * 1440 := by
        rw [e4, mul_toInt (by rw [b1, show (cI 1440).toInt = 1440 from rfl]; omega) (by rw [b1, show (cI 1440).toInt = 1440 from rfl]; omega), b1]
        rfl
      obtain ⟨v5, v6, v7, w1, w2, w3, w4, w5, w6, w7, w8, w9⟩ := nm_ok (x2 := x2) (v4 := v4) h.2.2.2.1 h.2.2.2.2.1 h.2.2.2.2.2.1 h.2.2.1 z2 e4 (by omega)
      obtain ⟨s9, s10, s1, t9, t1, d1, d2, d3, d4, d5, d6, d7, d8, d9⟩ := lp_ok (v4 := v4) (v7 := v7) h hcu hP hk (by omega) b4 w5 w7 (by omega) w8 w9
      obtain ⟨s', t', v, a1, a2, a3, a4, a5⟩ := ih m m' (n + 300 * (v7.toInt / 1440 - (s.1 15 1).toInt / 1440).toNat) s1 t1 (x3 + cI 1) (by rw [d7]; omega) (by omega) (by omega) d6 (hcu.keep d8 d9 (by decide +kernel) (by decide +kernel)) (hP.keep d8 d9 (by decide +kernel) (by decide +kernel)) (by rw [inc_i (by omega)]; omega) (by rw [d7, inc_i (by omega)]; omega) (by rw [d7]; exact w6) (by rw [d7]; omega)
      refine ⟨s', t', v, ?_, ?_, ?_, d8.tr a4, d9.tr a5⟩
      · rw [← a1, fPH_goOn_h54, if_pos l3, if_pos z]
        have n440 : ¬ cI 1440 = 0 := by decide
        unfold fChron_today
        rw [if_neg n440, bd1_some, ltI_eq, ← e4, w1, bd1_some, w2, bd1_some, w3, bd1_some, ltM_eq, wI_c, up1_eq]
        unfold fPH_goOn_b124
        by_cases u : v7 = v4
        · rw [if_pos u] at d1 ⊢
          rw [d1, bd1_some, d2, bd1_some, d3, bd1_some]
        · rw [if_neg u] at d1 ⊢
          cases d1
          rw [d2, bd1_some, d3, bd1_some]
      · rw [← a2, fM_doTick_h51, c1, if_pos z, w4, bd1_some, ltM_eq, if_neg (show ¬ cI 1440 = 0 by decide), wI_c, up1_eq]
        unfold fM_doTick_b83
        by_cases u : irem v7 (cI 1440) = 0
        · rw [if_pos u] at d4 ⊢
          rw [d4, bd1_some]
          exact d5 _ _
        · rw [if_neg u] at d4 ⊢
          cases d4
          exact d5 _ _
      · rw [d7] at a3
        rw [show n + 300 * (x2.toInt / 1440 - (s.1 15 1).toInt / 1440).toNat = n + 300 * (v7.toInt / 1440 - (s.1 15 1).toInt / 1440).toNat + 300 * (x2.toInt / 1440 - v7.toInt / 1440).toNat by omega]
        exact a3
section
variable {s t : ev_M} {F : Bool} {A : Nat → Nat → Int32}
theorem a_tick {n k : Nat} {a : Int32} (hA : AdmC s F A) (hM : FulM t F) (h0 : t.1 549 15 = 0) (h : RTk n k s t) (hcu : RCu s t) (hP : RPl s t) (hk : 600 * k ≤ 500000000) (hn : n + 600 < 2147483646) : Ok (fPH_goOn s a) fun x => Ok (fM_doTick t a) fun y => AP (RTk n k) (RTk (n + 300) k) F A s x y := by
  obtain ⟨q1, q2, q3, q4, q5, q6, q7⟩ := id h
  obtain ⟨⟨c1, c2, c3⟩, -⟩ := id q3
  have hn0 : RTk n k s (wI t 549 15 (cI 1)) := ⟨q1.no, q2.keep rf_fr no_fr rfl rfl, q3.keep rf_fr no_fr rfl rfl, q4.keep rf_fr no_fr rfl rfl, q5.keep rf_fr no_fr rfl rfl, q6.keep rf_fr no_fr rfl rfl, q7.keep rf_fr no_fr rfl rfl⟩
  have eb : (cI 1000000000).toInt = 1000000000 := rfl
  have e1 : (cI 1).toInt = 1 := rfl
  have e2 : (cI 1440).toInt = 1440 := rfl
  by_cases h1 : InR a (cI 1) (cI 1440)
  rotate_left
  · refine sim_no (c := cI (-102)) ?_ ?_ hn0
    · unfold fPH_goOn
      generalize fPH_goOn_h54 1048576 = H
      rw [outside_eq, bd1_some, ite_bI, if_pos h1]
    · unfold fM_doTick fM_doTick_b23
      generalize fM_doTick_h51 1048576 = H
      rw [in_eq, bd1_some, ite_bI, if_neg h1, no_eq, bd2_some]
  obtain ⟨a1, a2⟩ := id h1
  have s1 : (cI 1000000000 - s.1 15 1).toInt = 1000000000 - (s.1 15 1).toInt := by rw [sub_b (by omega) (by omega), eb]
  have s2 : (cI 1000000000 - a).toInt = 1000000000 - a.toInt := by rw [sub_b (by omega) (by omega), eb]
  by_cases h2 : a.toInt + (s.1 15 1).toInt ≤ 1000000000
  rotate_left
  · refine sim_no (c := cI (-102)) ?_ ?_ hn0
    · unfold fPH_goOn
      generalize fPH_goOn_h54 1048576 = H
      rw [outside_eq, bd1_some, ite_bI, if_neg (fun u => u h1), if_neg (by rw [le_i, s1]; omega)]
    · unfold fM_doTick fM_doTick_b23
      generalize fM_doTick_h51 1048576 = H
      rw [in_eq, bd1_some, ite_bI, if_pos h1, if_neg (by rw [c1, le_i, s2]; omega), no_eq, bd2_some]
  have kC : fPH_goOn s a = bd2 (fLog_admits s) fun s11 v12 => if v12 = 0 then some (s11, cI (-104)) else fPH_goOn_h54 1048576 s11 a (s11.1 15 1 + a) (cI 0) := by
    unfold fPH_goOn
    generalize fPH_goOn_h54 1048576 = H
    rw [outside_eq, bd1_some, ite_bI, if_neg (fun u => u h1), if_pos (by rw [le_i, s1]; omega)]
    rfl
  have kM : fM_doTick t a = bd1 (fM_full t) fun v12 => if v12 = 0 then fM_doTick_h51 1048576 t (s.1 15 1 + a) else some (wI t 549 15 (cI 1), cI (-104)) := by
    unfold fM_doTick
    generalize fM_doTick_h51 1048576 = H
    rw [in_eq, bd1_some, ite_bI, if_pos h1, if_pos (by rw [c1, le_i, s2]; omega), no_eq, bd2_some, c1]
    rfl
  by_cases hF : F = true
  · subst hF
    exact sim_no (c := cI (-104)) (by rw [kC, hA.no, bd2_some, if_pos rfl]) (by rw [kM, hM.no, bd1_some, if_neg (show ¬ (1 : Int32) = 0 by decide)]) hn0
  have hF2 : F = false := by cases F <;> simp_all
  subst hF2
  rw [hA.yes, bd2_some, if_neg (show ¬ (1 : Int32) = 0 by decide)] at kC
  rw [hM.yes, bd1_some, if_pos rfl] at kM
  have u15 : (lupd A s).1 15 = s.1 15 := lupd_ne (Or.inr (by decide))
  rw [u15] at kC
  have ev : (s.1 15 1 + a).toInt = (s.1 15 1).toInt + a.toInt := add_b (by omega) (by omega)
  have hl : RTk n k (lupd A s) t := ⟨q1.lu, q2.keep lupd_fr rf_fr (by decide +kernel) (by decide +kernel), q3.keep lupd_fr rf_fr (by decide +kernel) (by decide +kernel), q4.keep lupd_fr rf_fr (by decide +kernel) (by decide +kernel), q5.keep lupd_fr rf_fr (by decide +kernel) (by decide +kernel), q6.keep lupd_fr rf_fr (by decide +kernel) (by decide +kernel), q7.keep lupd_fr rf_fr (by decide +kernel) (by decide +kernel)⟩
  obtain ⟨s', t', v, v1, v2, v3, v4, v5⟩ := tk_lp (x1 := a) (x2 := s.1 15 1 + a) hk (by omega) (by omega) 1440 1048576 1048576 n (lupd A s) t (cI 0) (by rw [u15]; omega) (by omega) (by omega) hl (hcu.keep lupd_fr rf_fr (by decide +kernel) (by decide +kernel)) (hP.keep lupd_fr rf_fr (by decide +kernel) (by decide +kernel)) (by decide) (by rw [u15, ev, show (cI 0).toInt = 0 from rfl]; omega) (by rw [u15]; omega) (by rw [u15, ev]; omega)
  rw [kC, kM, v1, v2, ok_some, ok_some]
  have e9 : (s.1 15 1 + a).toInt / 1440 - ((lupd A s).1 15 1).toInt / 1440 ≤ 1 := by rw [u15, ev]; omega
  refine ⟨rfl, Or.inr ⟨?_, rfl, lgS.fr v4 (by decide +kernel) (by decide +kernel), v3.1.mono (by omega), v3.2⟩⟩
  rw [(v5.1 549 15 (by decide +kernel)).1]; exact h0
end
