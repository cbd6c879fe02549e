/-! ===== LEVEL 3: the acts machine, device; the clock of an empty house ===== -/
theorem AP.mo {R0 R1 : ev_M → ev_M → Prop} {F : Bool} {A : Nat → Nat → Int32} {s : ev_M} {x y : ev_M × Int32} (h : AP R0 R1 F A s x y) : AP R9 R9 F A s x y :=
  ⟨h.1, h.2.elim (fun q => Or.inl ⟨q.1, q.2.1, trivial⟩) (fun q => Or.inr ⟨q.1, q.2.1, q.2.2.1, trivial⟩)⟩
section
variable {s t : ev_M} {F : Bool} {A : Nat → Nat → Int32}
theorem a_machine {a b c d : Int32} (hA : AdmC s F A) (hM : FulM t F) (h0 : t.1 549 15 = 0) (h : RMch s t) : Ok (fRounds_setMachine s a b c d) fun x => Ok (fM_doMachine t a b c d) fun y => AP RMch RMch F A s x y := by
  have hn : RMch s (wI t 549 15 (cI 1)) := h.keep rf_fr no_fr rfl rfl
  by_cases h1 : InR a (cI 2) (cI 16)
  rotate_left
  · exact sim_no (c := cI (-102)) (by simp only [fRounds_setMachine, fM_doMachine_b44, fM_doMachine, ltM_eq, ltI_eq, ltL_eq, bd1_some, bd2_some, ite_bI, if_true, if_false, ite_true, ite_false, eq_self, not_true_eq_false, not_false_eq_true, i10, outside_eq, in_eq, no_eq, eq_false h1]) (by simp only [fRounds_setMachine, fM_doMachine_b44, fM_doMachine, ltM_eq, ltI_eq, ltL_eq, bd1_some, bd2_some, ite_bI, if_true, if_false, ite_true, ite_false, eq_self, not_true_eq_false, not_false_eq_true, i10, outside_eq, in_eq, no_eq, eq_false h1]) hn
  by_cases h2 : InR b (cI 1) (cI 2000)
  rotate_left
  · exact sim_no (c := cI (-102)) (by simp only [fRounds_setMachine, fM_doMachine_b44, fM_doMachine, ltM_eq, ltI_eq, ltL_eq, bd1_some, bd2_some, ite_bI, if_true, if_false, ite_true, ite_false, eq_self, not_true_eq_false, not_false_eq_true, i10, outside_eq, in_eq, no_eq, eq_true h1, eq_false h2]) (by simp only [fRounds_setMachine, fM_doMachine_b44, fM_doMachine, ltM_eq, ltI_eq, ltL_eq, bd1_some, bd2_some, ite_bI, if_true, if_false, ite_true, ite_false, eq_self, not_true_eq_false, not_false_eq_true, i10, outside_eq, in_eq, no_eq, eq_true h1, eq_false h2]) hn
  by_cases h3 : InR c (cI 1) (cI 500)
  rotate_left
  · exact sim_no (c := cI (-102)) (by simp only [fRounds_setMachine, fM_doMachine_b44, fM_doMachine, ltM_eq, ltI_eq, ltL_eq, bd1_some, bd2_some, ite_bI, if_true, if_false, ite_true, ite_false, eq_self, not_true_eq_false, not_false_eq_true, i10, outside_eq, in_eq, no_eq, eq_true h1, eq_true h2, eq_false h3]) (by simp only [fRounds_setMachine, fM_doMachine_b44, fM_doMachine, ltM_eq, ltI_eq, ltL_eq, bd1_some, bd2_some, ite_bI, if_true, if_false, ite_true, ite_false, eq_self, not_true_eq_false, not_false_eq_true, i10, outside_eq, in_eq, no_eq, eq_true h1, eq_true h2, eq_false h3]) hn
  by_cases h4 : InR d (cI 0) (cI 4000)
  rotate_left
  · exact sim_no (c := cI (-102)) (by simp only [fRounds_setMachine, fM_doMachine_b44, fM_doMachine, ltM_eq, ltI_eq, ltL_eq, bd1_some, bd2_some, ite_bI, if_true, if_false, ite_true, ite_false, eq_self, not_true_eq_false, not_false_eq_true, i10, outside_eq, in_eq, no_eq, eq_true h1, eq_true h2, eq_true h3, eq_false h4]) (by simp only [fRounds_setMachine, fM_doMachine_b44, fM_doMachine, ltM_eq, ltI_eq, ltL_eq, bd1_some, bd2_some, ite_bI, if_true, if_false, ite_true, ite_false, eq_self, not_true_eq_false, not_false_eq_true, i10, outside_eq, in_eq, no_eq, eq_true h1, eq_true h2, eq_true h3, eq_false h4]) hn
  by_cases hF : F = true
  · subst hF
    exact sim_no (c := cI (-104)) (by simp only [fRounds_setMachine, fM_doMachine_b44, fM_doMachine, ltM_eq, ltI_eq, ltL_eq, bd1_some, bd2_some, ite_bI, if_true, if_false, ite_true, ite_false, eq_self, not_true_eq_false, not_false_eq_true, i10, outside_eq, in_eq, no_eq, eq_true h1, eq_true h2, eq_true h3, eq_true h4, hA.no, hM.no]) (by simp only [fRounds_setMachine, fM_doMachine_b44, fM_doMachine, ltM_eq, ltI_eq, ltL_eq, bd1_some, bd2_some, ite_bI, if_true, if_false, ite_true, ite_false, eq_self, not_true_eq_false, not_false_eq_true, i10, outside_eq, in_eq, no_eq, eq_true h1, eq_true h2, eq_true h3, eq_true h4, hA.no, hM.no]) hn
  obtain rfl : F = false := by simpa using hF
  simp only [fRounds_setMachine, fM_doMachine_b44, fM_doMachine, ltM_eq, ltI_eq, ltL_eq, bd1_some, bd2_some, ite_bI, if_true, if_false, ite_true, ite_false, eq_self, not_true_eq_false, not_false_eq_true, i10, outside_eq, in_eq, no_eq, eq_true h1, eq_true h2, eq_true h3, eq_true h4, hA.yes, hM.yes]
  rw [ok_some, ok_some]
  refine ⟨rfl, Or.inr ⟨?_, rfl, ?_, ?_⟩⟩
  · simp (disch := decide) only [ix_0, ix_1, ix_2, ix_3, ix_4, ix_5, ix_6, ix_7, ix_8, Nat.reduceAdd, wI_c, wI_ne, wL_1, lupd_ne, up1_eq, up1_ne]; exact h0
  · exact (((lgS.rf.wI (by decide) (by decide)).wI (by decide) (by decide)).wI (by decide) (by decide)).wI (by decide) (by decide)
  · unfold RMch
    simp (disch := decide) only [ix_0, ix_1, ix_2, ix_3, ix_4, ix_5, ix_6, ix_7, ix_8, Nat.reduceAdd, wI_c, wI_ne, wL_1, lupd_ne, up1_eq, up1_ne]
    exact ⟨⟨trivial, h1⟩, ⟨trivial, h2⟩, trivial, ⟨trivial, h4⟩⟩
theorem a_device {a b : Int32} (hA : AdmC s F A) (hM : FulM t F) (h0 : t.1 549 15 = 0) (h : RTim s t) : Ok (fChron_setDevice s a b) fun x => Ok (fM_doDevice t a b) fun y => AP RTim RTim F A s x y := by
  obtain ⟨⟨c1, c2⟩, g1, b1⟩ := id h
  have hn : RTim s (wI t 549 15 (cI 1)) := h.keep rf_fr no_fr rfl rfl
  by_cases h1 : InR a (cI 0) (cI 7)
  rotate_left
  · exact sim_no (c := cI (-101)) (by simp only [fChron_setDevice, fM_doDevice, ltM_eq, ltI_eq, ltL_eq, bd1_some, bd2_some, ite_bI, if_true, if_false, ite_true, ite_false, eq_self, not_true_eq_false, not_false_eq_true, i10, outside_eq, in_eq, no_eq, eq_false h1]) (by simp only [fChron_setDevice, fM_doDevice, ltM_eq, ltI_eq, ltL_eq, bd1_some, bd2_some, ite_bI, if_true, if_false, ite_true, ite_false, eq_self, not_true_eq_false, not_false_eq_true, i10, outside_eq, in_eq, no_eq, eq_false h1]) hn
  by_cases h2 : InR b (cI 0) (cI 1000000000)
  rotate_left
  · exact sim_no (c := cI (-102)) (by simp only [fChron_setDevice, fM_doDevice, ltM_eq, ltI_eq, ltL_eq, bd1_some, bd2_some, ite_bI, if_true, if_false, ite_true, ite_false, eq_self, not_true_eq_false, not_false_eq_true, i10, outside_eq, in_eq, no_eq, eq_true h1, eq_false h2]) (by simp only [fChron_setDevice, fM_doDevice, ltM_eq, ltI_eq, ltL_eq, bd1_some, bd2_some, ite_bI, if_true, if_false, ite_true, ite_false, eq_self, not_true_eq_false, not_false_eq_true, i10, outside_eq, in_eq, no_eq, eq_true h1, eq_false h2]) hn
  by_cases hF : F = true
  · subst hF
    exact sim_no (c := cI (-104)) (by simp only [fChron_setDevice, fM_doDevice, ltM_eq, ltI_eq, ltL_eq, bd1_some, bd2_some, ite_bI, if_true, if_false, ite_true, ite_false, eq_self, not_true_eq_false, not_false_eq_true, i10, outside_eq, in_eq, no_eq, eq_true h1, eq_true h2, hA.no, hM.no]) (by simp only [fChron_setDevice, fM_doDevice, ltM_eq, ltI_eq, ltL_eq, bd1_some, bd2_some, ite_bI, if_true, if_false, ite_true, ite_false, eq_self, not_true_eq_false, not_false_eq_true, i10, outside_eq, in_eq, no_eq, eq_true h1, eq_true h2, hA.no, hM.no]) hn
  obtain rfl : F = false := by simpa using hF
  have hb : inb a 8 = true := inb_iff.mpr ⟨h1.1, by have := h1.2; rw [show (cI 7).toInt = 7 from rfl] at this; omega⟩
  have e2 : 0 ≤ b.toInt ∧ b.toInt ≤ 1000000000 := h2
  have e3 : 0 ≤ (s.1 15 1).toInt ∧ (s.1 15 1).toInt ≤ 1000000000 := c2
  simp only [fChron_setDevice, fM_doDevice, ltM_eq, ltI_eq, ltL_eq, bd1_some, bd2_some, ite_bI, if_true, if_false, ite_true, ite_false, eq_self, not_true_eq_false, not_false_eq_true, i10, outside_eq, in_eq, no_eq, eq_true h1, eq_true h2, hA.yes, hM.yes, hb]
  rw [ok_some, ok_some]
  refine ⟨?_, Or.inr ⟨?_, rfl, ?_, ?_⟩⟩
  · simp (disch := decide) only [ix_0, ix_1, ix_2, ix_3, ix_4, ix_5, ix_6, ix_7, ix_8, Nat.reduceAdd, wI_c, wI_ne, wL_1, lupd_ne, up1_eq, up1_ne]; rw [c1]
  · simp (disch := decide) only [ix_0, ix_1, ix_2, ix_3, ix_4, ix_5, ix_6, ix_7, ix_8, Nat.reduceAdd, wI_c, wI_ne, wL_1, lupd_ne, up1_eq, up1_ne]; exact h0
  · exact lgS.rf.wI (by decide) (by decide)
  · unfold RTim
    simp (disch := decide) only [ix_0, ix_1, ix_2, ix_3, ix_4, ix_5, ix_6, ix_7, ix_8, Nat.reduceAdd, wI_c, wI_ne, wL_1, lupd_ne, up1_eq, up1_ne]
    refine ⟨⟨c1, c2⟩, g1.set (by rw [c1]), b1.set ?_⟩
    · rw [sub_toInt (by omega) (by omega)]; omega
end
section
variable {s t : ev_M} {a : Int32}
theorem gb0 {x : Int32} (h : s.1 78 8 = 0) : fMoney_giveBack s x = some s := by
  show fMoney_giveBack_h2 (1048575 + 1) s x (cI 0) = _
  generalize 1048575 = n
  simp only [fMoney_giveBack_h2, if_neg (show ¬ cI 0 < s.1 78 8 by rw [h]; decide)]
theorem ub0 (h : s.1 125 3 = 0) : fLock_unbar s = some s := by
  show fLock_unbar_h2 (1048575 + 1) s (cI 0) = _
  generalize 1048575 = n
  simp only [fLock_unbar_h2, if_neg (show ¬ cI 0 < s.1 125 3 by rw [h]; decide)]
theorem bd0 (h : s.1 100 5 = 0) (h2 : s.1 78 8 = 0) (h3 : s.1 125 3 = 0) : fPH_beginDay s = some s := by
  unfold fPH_beginDay fChron_today
  rw [if_neg (by decide), bd1_some]
  generalize s.1 15 1 / cI 1440 = v
  show fPH_beginDay_h10 (1048575 + 1) s v (cI 0) = _
  generalize 1048575 = n
  simp only [fPH_beginDay_h10, if_neg (show ¬ cI 0 < s.1 100 5 by rw [h]; decide), gb0 h2, ub0 h3, bd1_some]
theorem nm0 (h : s.1 449 4 = 0) (h2 : s.1 449 6 = 0) : fLines_nextMinute s = some (cI 2147483647) := by
  have e : ∀ n x, fLines_nextMinute_h34 s (n + 1) x (cI 0) = some x := fun n x => by
    simp only [fLines_nextMinute_h34, if_neg (show ¬ cI 0 < s.1 449 6 by rw [h2]; decide)]
  show fLines_nextMinute_h5 s (1048575 + 1) (cI 2147483647) (cI 0) = _
  rw [← e 1048575 (cI 2147483647)]
  generalize 1048575 = n
  simp only [fLines_nextMinute_h5, if_neg (show ¬ cI 0 < s.1 449 4 by rw [h]; decide)]
  rw [show 1048576 = 1048575 + 1 from rfl, e, e]
theorem ar0 (h : s.1 449 6 = 0) : fLines_arrive s = some s := by
  show fLines_arrive_h2 (1048575 + 1) s (cI 0) = _
  generalize 1048575 = n
  simp only [fLines_arrive_h2, if_neg (show ¬ cI 0 < s.1 449 6 by rw [h]; decide)]
theorem la0 (h : s.1 449 4 = 0) : fLines_leaveAll s = some s := by
  show fLines_leaveAll_h2 (1048575 + 1) s (cI 0) = _
  generalize 1048575 = n
  simp only [fLines_leaveAll_h2, if_neg (show ¬ cI 0 < s.1 449 4 by rw [h]; decide)]
theorem goOn0 (hc : Cz s) (z : s.1 15 1 = 0) (ha : InR a (cI 1) (cI 1440)) : fPH_goOn_h54 1048576 s a (s.1 15 1 + a) (cI 0) = some (wI s 15 1 a, a) := by
  obtain ⟨-, -, -, -, -, -, z8, z5, z3, -, z4, z6⟩ := hc
  have ha1 : 1 ≤ a.toInt := ha.1
  have ha2 : a.toInt ≤ 1440 := ha.2
  have l1 : cI 0 < a := by rw [lt_i]; exact ha1
  have l2 : s.1 15 1 < a := by rw [z]; exact l1
  have l3 : a ≤ cI 1440 := by rw [le_i]; exact ha2
  have w : ∀ c, c ≠ 15 → (wI s 15 1 a).1 c = s.1 c := fun c h => wI_ne h
  have e1 : (wI s 15 1 a).1 15 1 = a := by rw [wI_c, up1_eq]
  have fin : ∀ n y, fPH_goOn_h54 (n + 1) (wI s 15 1 a) a a y = some (wI s 15 1 a, a) := fun n y => by
    unfold fPH_goOn_h54 fPH_goOn_b144
    rw [e1]
    by_cases g : y < a
    · rw [if_pos g, if_neg (show ¬ a < a by rw [lt_i]; omega)]
    · rw [if_neg g]
  have fin2 : ∀ n, fPH_goOn_b124 (fPH_goOn_h54 (n + 1)) (wI s 15 1 a) a a (cI 0) = some (wI s 15 1 a, a) := fun n => by
    unfold fPH_goOn_b124
    rw [ar0 (by rw [w _ (by decide), z6]), bd1_some, la0 (by rw [w _ (by decide), z4]), bd1_some, fin]
  have z1 : s.1 15 1 + a = a := by rw [z]; exact Int32.zero_add a
  rw [z1]
  show fPH_goOn_h54 (1048574 + 1 + 1) s a a (cI 0) = _
  generalize 1048574 = n
  unfold fPH_goOn_h54
  rw [if_pos l1, if_pos l2]
  unfold fChron_today
  rw [if_neg (by decide), bd1_some, z, show ((0 : Int32) / cI 1440 + cI 1) * cI 1440 = cI 1440 from by decide, ltI_eq, nm0 z4 z6, bd1_some]
  unfold fMath_min
  rw [if_pos (by decide), bd1_some, if_pos l3, bd1_some, ltM_eq, e1]
  by_cases g : a = cI 1440
  · rw [if_pos g, bd0 (by rw [w _ (by decide), z5]) (by rw [w _ (by decide), z8]) (by rw [w _ (by decide), z3]), bd1_some, fin2]
  · rw [if_neg g, fin2]
theorem tick0 (hm : Mz t) (z : t.1 549 22 = 0) (ha : InR a (cI 1) (cI 1440)) : fM_doTick_h51 1048576 t (t.1 549 22 + a) = some (wI t 549 22 a, a) := by
  have m58 := hm.2.2.2.2.2.1
  have m93 := hm.2.2.2.2.2.2.2.1
  have m101 := hm.2.2.2.2.2.2.2.2.1
  have m107 := hm.2.2.2.2.2.2.2.2.2.1
  have m119 := hm.2.2.2.2.2.2.2.2.2.2.2
  have ha1 : 1 ≤ a.toInt := ha.1
  have ha2 : a.toInt ≤ 1440 := ha.2
  have l2 : t.1 549 22 < a := by rw [z, lt_i]; exact ha1
  have l3 : ¬ cI 1440 < a := by rw [lt_i]; exact fun q => absurd (show (1440 : Int) < a.toInt from q) (by omega)
  have w : ∀ k, k ≠ 22 → (wI t 549 22 a).1 549 k = t.1 549 k := fun k h => by rw [wI_c, up1_ne h]
  have e1 : (wI t 549 22 a).1 549 22 = a := by rw [wI_c, up1_eq]
  have nx : fM_nextMinute t a = some a := by
    have e : ∀ n, fM_nextMinute_h95 t (n + 1) a (cI 0) = some a := fun n => by
      simp only [fM_nextMinute_h95, if_neg (show ¬ cI 0 < t.1 549 93 by rw [m93]; decide)]
    unfold fM_nextMinute
    rw [if_neg (by decide), z, show ((0 : Int32) / cI 1440 + cI 1) * cI 1440 = cI 1440 from by decide, ltI_eq, if_neg l3]
    show fM_nextMinute_h29 t (1048575 + 1) a (cI 0) = _
    generalize 1048575 = n
    simp only [fM_nextMinute_h29, if_neg (show ¬ cI 0 < t.1 549 101 by rw [m101]; decide)]
    exact e 1048575
  have dy : fM_dayBegins (wI t 549 22 a) = some (wI t 549 22 a) := by
    have e3 : ∀ n, fM_dayBegins_h111 (n + 1) (wI t 549 22 a) (cI 0) = some (wI t 549 22 a) := fun n => by
      simp only [fM_dayBegins_h111, if_neg (show ¬ cI 0 < (wI t 549 22 a).1 549 107 by rw [w _ (by decide), m107]; decide)]
    have e2 : ∀ n, fM_dayBegins_h48 (n + 1) (wI t 549 22 a) (cI 0) = some (wI t 549 22 a) := fun n => by
      simp only [fM_dayBegins_h48, if_neg (show ¬ cI 0 < (wI t 549 22 a).1 549 119 by rw [w _ (by decide), m119]; decide)]
      exact e3 1048575
    show fM_dayBegins_h2 (1048575 + 1) (wI t 549 22 a) (cI 0) = _
    generalize 1048575 = n
    simp only [fM_dayBegins_h2, if_neg (show ¬ cI 0 < (wI t 549 22 a).1 549 58 by rw [w _ (by decide), m58]; decide)]
    exact e2 1048575
  have fin : ∀ n, fM_doTick_h51 (n + 1) (wI t 549 22 a) a = some (wI t 549 22 a, a) := fun n => by
    unfold fM_doTick_h51
    rw [e1, if_neg (show ¬ a < a by rw [lt_i]; omega)]
  have fin2 : ∀ n, fM_doTick_b83 (fM_doTick_h51 (n + 1)) (wI t 549 22 a) a = some (wI t 549 22 a, a) := fun n => by
    have e2 : ∀ j, fM_doTick_h162 (fM_doTick_h51 (n + 1)) (j + 1) (wI t 549 22 a) a (cI 0) = some (wI t 549 22 a, a) := fun j => by
      simp only [fM_doTick_h162, if_neg (show ¬ cI 0 < (wI t 549 22 a).1 549 93 by rw [w _ (by decide), m93]; decide)]
      exact fin n
    show fM_doTick_h85 (fM_doTick_h51 (n + 1)) (1048575 + 1) (wI t 549 22 a) a (cI 0) = _
    generalize 1048575 = j
    simp only [fM_doTick_h85, if_neg (show ¬ cI 0 < (wI t 549 22 a).1 549 101 by rw [w _ (by decide), m101]; decide)]
    exact e2 1048575
  have z1 : t.1 549 22 + a = a := by rw [z]; exact Int32.zero_add a
  rw [z1]
  show fM_doTick_h51 (1048574 + 1 + 1) t a = _
  generalize 1048574 = n
  unfold fM_doTick_h51
  rw [if_pos l2, nx, bd1_some, ltM_eq, if_neg (by decide), e1]
  by_cases g : irem a (cI 1440) = 0
  · rw [if_pos g, dy, bd1_some, fin2]
  · rw [if_neg g, fin2]
theorem z9_40 {F : Bool} {A : Nat → Nat → Int32} (hA : AdmC s F A) (hM : FulM t F) (h0 : t.1 549 15 = 0) (hc : Cz s) (hm : Mz t) (z1 : s.1 15 1 = 0) (z2 : t.1 549 22 = 0) : Ok (fPH_goOn s a) fun x => Ok (fM_doTick t a) fun y => AP R9 R9 F A s x y := by
  have hn : R9 s (wI t 549 15 (cI 1)) := trivial
  by_cases h1 : InR a (cI 1) (cI 1440)
  rotate_left
  · exact sim_no (c := cI (-102)) (by simp only [fPH_goOn_b124, fPH_goOn_b144, fPH_goOn, fM_doTick_b23, fM_doTick_b154, fM_doTick_b188, fM_doTick_b83, fM_doTick, ltM_eq, ltI_eq, ltL_eq, bd1_some, bd2_some, ite_bI, if_true, if_false, ite_true, ite_false, eq_self, not_true_eq_false, not_false_eq_true, i10, outside_eq, in_eq, no_eq, eq_false h1]) (by simp only [fPH_goOn_b124, fPH_goOn_b144, fPH_goOn, fM_doTick_b23, fM_doTick_b154, fM_doTick_b188, fM_doTick_b83, fM_doTick, ltM_eq, ltI_eq, ltL_eq, bd1_some, bd2_some, ite_bI, if_true, if_false, ite_true, ite_false, eq_self, not_true_eq_false, not_false_eq_true, i10, outside_eq, in_eq, no_eq, eq_false h1]) hn
  have ha1 : 1 ≤ a.toInt := h1.1
  have ha2 : a.toInt ≤ 1440 := h1.2
  have g1 : a ≤ cI 1000000000 - s.1 15 1 := by rw [z1, le_i]; show a.toInt ≤ 1000000000; omega
  have g2 : t.1 549 22 ≤ cI 1000000000 - a := by rw [z2, le_i, sub_toInt (by rw [show (cI 1000000000).toInt = 1000000000 from rfl]; omega) (by rw [show (cI 1000000000).toInt = 1000000000 from rfl]; omega), show (cI 1000000000).toInt = 1000000000 from rfl, i32_0]; omega
  by_cases hF : F = true
  · subst hF
    exact sim_no (c := cI (-104)) (by simp only [fPH_goOn_b124, fPH_goOn_b144, fPH_goOn, fM_doTick_b23, fM_doTick_b154, fM_doTick_b188, fM_doTick_b83, fM_doTick, ltM_eq, ltI_eq, ltL_eq, bd1_some, bd2_some, ite_bI, if_true, if_false, ite_true, ite_false, eq_self, not_true_eq_false, not_false_eq_true, i10, outside_eq, in_eq, no_eq, eq_true h1, eq_true g1, hA.no]) (by simp only [fPH_goOn_b124, fPH_goOn_b144, fPH_goOn, fM_doTick_b23, fM_doTick_b154, fM_doTick_b188, fM_doTick_b83, fM_doTick, ltM_eq, ltI_eq, ltL_eq, bd1_some, bd2_some, ite_bI, if_true, if_false, ite_true, ite_false, eq_self, not_true_eq_false, not_false_eq_true, i10, outside_eq, in_eq, no_eq, eq_true h1, eq_true g2, hM.no, eq_false (show ¬ (1 : Int32) = 0 by decide)]) hn
  · have hF2 : F = false := by cases F <;> simp_all
    subst hF2
    have w : ∀ c, 14 < c → (lupd A s).1 c = s.1 c := fun c h => lupd_ne (Or.inr h)
    have hc2 : Cz (lupd A s) := by
      unfold Cz at hc ⊢
      rw [w 30 (by decide), w 78 (by decide), w 100 (by decide), w 125 (by decide), w 138 (by decide), w 449 (by decide)]
      exact hc
    have e := goOn0 (s := lupd A s) (a := a) hc2 (by rw [w 15 (by decide), z1]) h1
    have e2 := tick0 (t := t) (a := a) hm z2 h1
    simp only [fPH_goOn_b124, fPH_goOn_b144, fPH_goOn, fM_doTick_b23, fM_doTick_b154, fM_doTick_b188, fM_doTick_b83, fM_doTick, ltM_eq, ltI_eq, ltL_eq, bd1_some, bd2_some, ite_bI, if_true, if_false, ite_true, ite_false, eq_self, not_true_eq_false, not_false_eq_true, i10, outside_eq, in_eq, no_eq, eq_true h1, eq_true g1, eq_true g2, hA.yes, hM.yes, eq_false (show ¬ (1 : Int32) = 0 by decide), e, e2, ok_some]
    refine ⟨rfl, Or.inr ⟨?_, rfl, lgS.rf.wI (by decide) (by decide), trivial⟩⟩
    rw [wI_c, up1_ne (by decide)]
    exact h0
end
