/-! ===== LEVEL 3: a fresh house: the calls beside the acts, and the rest of the questions (printed) ===== -/
theorem sync0 {s : ev_M} (h6 : s.1 9 6 = 0) : fLog_writeAll s = some (wI (wI (wI s 9 4 (s.1 9 4 + cI 0)) 9 6 (cI 0)) 9 7 (cI 0), cI 0) := by
  unfold fLog_writeAll fLog_blocksFor
  rw [if_neg (by decide), bd1_some, h6, show ((0 : Int32) + cI 248 - cI 1) / cI 248 = cI 0 from by decide]
  show fLog_writeAll_h10 (1048575 + 1) s (cI 0) (cI 0) = _
  generalize 1048575 = n
  simp only [fLog_writeAll_h10, if_neg (show ¬ cI 0 < cI 0 by decide), ltM_eq]
theorem syncM0 {s : ev_M} : fM_sync_h32 1048576 s (cI 0) (cI 0) = some (wI (wI (wI s 549 4 (s.1 549 4 + cI 0)) 549 9 (cI 0)) 549 10 (cI 0), cI 0) := by
  show fM_sync_h32 (1048575 + 1) s (cI 0) (cI 0) = _
  generalize 1048575 = n
  simp only [fM_sync_h32, if_neg (show ¬ cI 0 < cI 0 by decide), ltM_eq]
theorem bad0 {s : ev_M} (h : s.1 9 4 = 0) : fLog_firstBad s = some (cI (-1)) := by
  show fLog_firstBad_h2 s (1048575 + 1) (cI 1) = _
  generalize 1048575 = n
  simp only [fLog_firstBad_h2, if_neg (show ¬ cI 1 ≤ s.1 9 4 by rw [h]; decide)]
theorem badM0 {s : ev_M} (h : s.1 549 4 = 0) : fM_verify_h17 1048576 s (cI 1) = some (s, cI (-1)) := by
  show fM_verify_h17 (1048575 + 1) s (cI 1) = _
  generalize 1048575 = n
  simp only [fM_verify_h17, fM_verify_b39, if_neg (show ¬ cI 1 ≤ s.1 549 4 by rw [h]; decide)]
section
variable {xs : Nat → Int32} {L : Nat} {m : ev_M}
theorem I0_d (h : I0 xs L m) : RDsk m m := (I0_log h).2.2.2.2.2.2.2
theorem I0_r (h : I0 xs L m) : RTap m.1 m.1 := by
  obtain ⟨a, b⟩ := I0_t h
  refine ⟨by rw [a, b], by rw [a]; decide, by rw [a]; decide, fun k hk => ?_⟩
  rw [a] at hk
  exact absurd hk (Nat.not_lt_zero k)
theorem I0_5 (h : I0 xs L m) : m.1 549 5 = 0 := I0_z h (by decide) rfl rfl
theorem I0_95 (h : I0 xs L m) : m.1 549 5 = m.1 9 9 := by rw [I0_5 h, I0_d9 h]
theorem p1_0 (h : I0 xs L m) : LC_0 (P1 m) m := fun a b c d e => (g_feed (I0_r h) a b c d e).mono fun x hx => ⟨hx.1, hx.2.mono fun z hz => ⟨hz.1, hz.2.1, hz.2.2.1.p1 (by decide +kernel)⟩⟩
theorem p1_1 (h : I0 xs L m) : LC_1 (P1 m) m := fun a => (g_end (I0_r h) a).mono fun x hx => ⟨hx.1, hx.2.mono fun z hz => ⟨hz.1, hz.2.1.p1 (by decide +kernel)⟩⟩
theorem p1_3 (h : I0 xs L m) : LC_3 (P1 m) m := fun a b => (g_cut (I0_95 h) a b).mono fun x hx => ⟨hx.1, hx.2.mono fun z hz => ⟨hz.1, (frX.of hz.2.1).p1 (by decide +kernel)⟩⟩
theorem p1_6 (h : I0 xs L m) : LC_6 (P1 m) m := fun a b => (g_octet (I0_d h) a b).mono fun x hx => ⟨hx.1, hx.2.mono fun z hz => ⟨hz.1, hz.2.1, hz.2.2.p1 (by decide +kernel)⟩⟩
theorem p1_7 (h : I0 xs L m) : LC_7 (P1 m) m := fun a b c => (g_poke (I0_d h) a b c).mono fun x hx => ⟨hx.1, hx.2.mono fun z hz => ⟨hz.1, hz.2.1, hz.2.2.p1 (by decide +kernel)⟩⟩
theorem p1_2 (h : I0 xs L m) : LC_2 (P1 m) m := by
  unfold LC_2
  refine p1_call (fun q h => fr_fPH_sync h) (fun z q h => fr_fM_sync h) (by decide +kernel) (by decide +kernel) ?_
  have d9 := I0_d9 h
  have z6 : m.1 9 6 = 0 := I0_z h (by decide) rfl rfl
  simp only [fPH_sync, d9, ltM_eq, ltI_eq, ltL_eq, bd1_some, bd2_some, ite_bI, if_true, if_false, ite_true, ite_false, eq_self, not_true_eq_false, not_false_eq_true, i10, sync0 z6, ok_some]
  have e5 : (wI (wI (wI (wI m 9 4 (m.1 9 4 + cI 0)) 9 6 (cI 0)) 9 7 (cI 0)) 549 0 (cI 0)).1 549 5 = 0 := by simp (disch := decide) only [ix_0, ix_1, ix_2, ix_3, ix_4, ix_5, ix_6, ix_7, ix_8, Nat.reduceAdd, wI_c, wI_ne, wL_1, lupd_ne, up1_eq, up1_ne]; exact I0_5 h
  have e9 : (wI (wI (wI (wI m 9 4 (m.1 9 4 + cI 0)) 9 6 (cI 0)) 9 7 (cI 0)) 549 0 (cI 0)).1 549 9 = 0 := by simp (disch := decide) only [ix_0, ix_1, ix_2, ix_3, ix_4, ix_5, ix_6, ix_7, ix_8, Nat.reduceAdd, wI_c, wI_ne, wL_1, lupd_ne, up1_eq, up1_ne]; exact I0_z h (by decide) rfl rfl
  simp only [fM_sync, e5, e9, ltM_eq, ltI_eq, ltL_eq, bd1_some, bd2_some, ite_bI, if_true, if_false, ite_true, ite_false, eq_self, not_true_eq_false, not_false_eq_true, i10, eq_false (show ¬ cI 248 = 0 by decide), show ((0 : Int32) + cI 248 - cI 1) / cI 248 = cI 0 from by decide, syncM0, ok_some]
theorem p1_4 (h : I0 xs L m) : LC_4 (P1 m) m := by
  unfold LC_4
  refine p1_call (fun q h => fr_fPH_start h) (fun z q h => fr_fM_start h) (by decide +kernel) (by decide +kernel) ?_
  have d9 := I0_d9 h
  have d5 := I0_d5 h
  simp only [fPH_start, d9, ltM_eq, ltI_eq, ltL_eq, bd1_some, bd2_some, ite_bI, if_true, if_false, ite_true, ite_false, eq_self, not_true_eq_false, not_false_eq_true, i10, ok_some, fM_start, d5]
theorem p1_5 (h : I0 xs L m) : LC_5 (P1 m) m := by
  unfold LC_5
  refine p1_ask (fun q h => fr_fM_verify h) (by decide +kernel) ?_
  have d9 := I0_d9 h
  have d5 := I0_d5 h
  have z4 : m.1 9 4 = 0 := I0_z h (by decide) rfl rfl
  have z5 : (wI m 549 0 (cI 0)).1 549 4 = 0 := by rw [I0_u h (by decide)]; exact I0_z h (by decide) rfl rfl
  simp only [fPH_verify, d9, ltM_eq, ltI_eq, ltL_eq, bd1_some, bd2_some, ite_bI, if_true, if_false, ite_true, ite_false, eq_self, not_true_eq_false, not_false_eq_true, i10, bad0 z4, ok_some, fM_verify, d5, badM0 z5]
theorem p1_8 (h : I0 xs L m) : LC_8 (P1 m) m := by
  unfold LC_8
  intro a
  refine p1_ask (fun q h => fr_fM_count h) (by decide +kernel) ?_
  have d9 := I0_d9 h
  have d5 := I0_d5 h
  have z : ∀ {c k : Nat}, inF Fc_PH_init c k = false → inF Fc_M_init c k = false → c < 682 → m.1 c k = 0 := fun h1 h2 h3 => I0_z h h3 h1 h2
  have c0 : m.1 30 2 = 0 := z rfl rfl (by decide)
  have c1 : m.1 30 4 = 0 := z rfl rfl (by decide)
  have c2 : m.1 30 7 = 0 := z rfl rfl (by decide)
  have c3 : m.1 30 9 = 0 := z rfl rfl (by decide)
  have c4 : m.1 30 11 = 0 := z rfl rfl (by decide)
  have c5 : m.1 100 5 = 0 := z rfl rfl (by decide)
  have c6 : m.1 138 3 = 0 := h.2.2.2.2.1.2.2.2.2.2.1
  have c7 : m.1 449 4 = 0 := z rfl rfl (by decide)
  have c8 : m.1 449 6 = 0 := z rfl rfl (by decide)
  have c9 : m.1 125 3 = 0 := z rfl rfl (by decide)
  have c10 : m.1 78 3 = 0 := z rfl rfl (by decide)
  have c11 : m.1 78 6 = 0 := z rfl rfl (by decide)
  have c12 : m.1 78 8 = 0 := z rfl rfl (by decide)
  have c13 : m.1 15 2 = 0 := h.2.2.2.2.1.2.1
  have c14 : m.1 15 7 = 0 := h.2.2.2.2.1.2.2.1
  have c15 : m.1 9 4 = 0 := z rfl rfl (by decide)
  have c16 : m.1 9 7 = 0 := z rfl rfl (by decide)
  have c17 : m.1 9 6 = 0 := z rfl rfl (by decide)
  have m0 : (wI m 549 0 (cI 0)).1 549 24 = 0 := I0_uz h rfl
  have m1 : (wI m 549 0 (cI 0)).1 549 27 = 0 := I0_uz h rfl
  have m2 : (wI m 549 0 (cI 0)).1 549 33 = 0 := I0_uz h rfl
  have m3 : (wI m 549 0 (cI 0)).1 549 38 = 0 := I0_uz h rfl
  have m4 : (wI m 549 0 (cI 0)).1 549 43 = 0 := I0_uz h rfl
  have m5 : (wI m 549 0 (cI 0)).1 549 58 = 0 := I0_uz h rfl
  have m6 : (wI m 549 0 (cI 0)).1 549 87 = 0 := I0_uz h rfl
  have m7 : (wI m 549 0 (cI 0)).1 549 93 = 0 := I0_uz h rfl
  have m8 : (wI m 549 0 (cI 0)).1 549 101 = 0 := I0_uz h rfl
  have m9 : (wI m 549 0 (cI 0)).1 549 107 = 0 := I0_uz h rfl
  have m10 : (wI m 549 0 (cI 0)).1 549 111 = 0 := I0_uz h rfl
  have m11 : (wI m 549 0 (cI 0)).1 549 114 = 0 := I0_uz h rfl
  have m12 : (wI m 549 0 (cI 0)).1 549 119 = 0 := I0_uz h rfl
  have m13 : (wI m 549 0 (cI 0)).1 549 129 = 0 := I0_uz h rfl
  have m14 : (wI m 549 0 (cI 0)).1 549 134 = 0 := I0_uz h rfl
  have m15 : (wI m 549 0 (cI 0)).1 549 4 = 0 := (I0_u h (by decide)).trans (z rfl rfl (by decide))
  have m16 : (wI m 549 0 (cI 0)).1 549 10 = 0 := (I0_u h (by decide)).trans (z rfl rfl (by decide))
  have m17 : (wI m 549 0 (cI 0)).1 549 9 = 0 := (I0_u h (by decide)).trans (z rfl rfl (by decide))
  simp only [fPH_count, fM_count, d9, d5, ltM_eq, ltI_eq, ltL_eq, bd1_some, bd2_some, ite_bI, if_true, if_false, ite_true, ite_false, eq_self, not_true_eq_false, not_false_eq_true, i10, c0, c1, c2, c3, c4, c5, c6, c7, c8, c9, c10, c11, c12, c13, c14, c15, c16, c17, m0, m1, m2, m3, m4, m5, m6, m7, m8, m9, m10, m11, m12, m13, m14, m15, m16, m17]
  by_cases g0 : a = cI 0
  · simp only [eq_true g0, if_true, ok_some]
  by_cases g1 : a = cI 1
  · simp only [eq_false g0, if_false, eq_true g1, if_true, ok_some]
  by_cases g2 : a = cI 2
  · simp only [eq_false g0, if_false, eq_false g1, if_false, eq_true g2, if_true, ok_some]
  by_cases g3 : a = cI 3
  · simp only [eq_false g0, if_false, eq_false g1, if_false, eq_false g2, if_false, eq_true g3, if_true, ok_some]
  by_cases g4 : a = cI 4
  · simp only [eq_false g0, if_false, eq_false g1, if_false, eq_false g2, if_false, eq_false g3, if_false, eq_true g4, if_true, ok_some]
  by_cases g5 : a = cI 5
  · simp only [eq_false g0, if_false, eq_false g1, if_false, eq_false g2, if_false, eq_false g3, if_false, eq_false g4, if_false, eq_true g5, if_true, ok_some]
  by_cases g6 : a = cI 6
  · simp only [eq_false g0, if_false, eq_false g1, if_false, eq_false g2, if_false, eq_false g3, if_false, eq_false g4, if_false, eq_false g5, if_false, eq_true g6, if_true, ok_some]
  by_cases g7 : a = cI 7
  · simp only [eq_false g0, if_false, eq_false g1, if_false, eq_false g2, if_false, eq_false g3, if_false, eq_false g4, if_false, eq_false g5, if_false, eq_false g6, if_false, eq_true g7, if_true, ok_some]
  by_cases g8 : a = cI 8
  · simp only [eq_false g0, if_false, eq_false g1, if_false, eq_false g2, if_false, eq_false g3, if_false, eq_false g4, if_false, eq_false g5, if_false, eq_false g6, if_false, eq_false g7, if_false, eq_true g8, if_true, ok_some]
  by_cases g9 : a = cI 9
  · simp only [eq_false g0, if_false, eq_false g1, if_false, eq_false g2, if_false, eq_false g3, if_false, eq_false g4, if_false, eq_false g5, if_false, eq_false g6, if_false, eq_false g7, if_false, eq_false g8, if_false, eq_true g9, if_true, ok_some]
  by_cases g10 : a = cI 10
  · simp only [eq_false g0, if_false, eq_false g1, if_false, eq_false g2, if_false, eq_false g3, if_false, eq_false g4, if_false, eq_false g5, if_false, eq_false g6, if_false, eq_false g7, if_false, eq_false g8, if_false, eq_false g9, if_false, eq_true g10, if_true, ok_some]
  by_cases g11 : a = cI 11
  · simp only [eq_false g0, if_false, eq_false g1, if_false, eq_false g2, if_false, eq_false g3, if_false, eq_false g4, if_false, eq_false g5, if_false, eq_false g6, if_false, eq_false g7, if_false, eq_false g8, if_false, eq_false g9, if_false, eq_false g10, if_false, eq_true g11, if_true, ok_some]
  by_cases g12 : a = cI 12
  · simp only [eq_false g0, if_false, eq_false g1, if_false, eq_false g2, if_false, eq_false g3, if_false, eq_false g4, if_false, eq_false g5, if_false, eq_false g6, if_false, eq_false g7, if_false, eq_false g8, if_false, eq_false g9, if_false, eq_false g10, if_false, eq_false g11, if_false, eq_true g12, if_true, ok_some]
  by_cases g13 : a = cI 13
  · simp only [eq_false g0, if_false, eq_false g1, if_false, eq_false g2, if_false, eq_false g3, if_false, eq_false g4, if_false, eq_false g5, if_false, eq_false g6, if_false, eq_false g7, if_false, eq_false g8, if_false, eq_false g9, if_false, eq_false g10, if_false, eq_false g11, if_false, eq_false g12, if_false, eq_true g13, if_true, ok_some]
  by_cases g14 : a = cI 14
  · simp only [eq_false g0, if_false, eq_false g1, if_false, eq_false g2, if_false, eq_false g3, if_false, eq_false g4, if_false, eq_false g5, if_false, eq_false g6, if_false, eq_false g7, if_false, eq_false g8, if_false, eq_false g9, if_false, eq_false g10, if_false, eq_false g11, if_false, eq_false g12, if_false, eq_false g13, if_false, eq_true g14, if_true, ok_some]
  by_cases g15 : a = cI 15
  · simp only [eq_false g0, if_false, eq_false g1, if_false, eq_false g2, if_false, eq_false g3, if_false, eq_false g4, if_false, eq_false g5, if_false, eq_false g6, if_false, eq_false g7, if_false, eq_false g8, if_false, eq_false g9, if_false, eq_false g10, if_false, eq_false g11, if_false, eq_false g12, if_false, eq_false g13, if_false, eq_false g14, if_false, eq_true g15, if_true, ok_some]
  by_cases g16 : a = cI 16
  · simp only [eq_false g0, if_false, eq_false g1, if_false, eq_false g2, if_false, eq_false g3, if_false, eq_false g4, if_false, eq_false g5, if_false, eq_false g6, if_false, eq_false g7, if_false, eq_false g8, if_false, eq_false g9, if_false, eq_false g10, if_false, eq_false g11, if_false, eq_false g12, if_false, eq_false g13, if_false, eq_false g14, if_false, eq_false g15, if_false, eq_true g16, if_true, ok_some]
  by_cases g17 : a = cI 17
  · simp only [eq_false g0, if_false, eq_false g1, if_false, eq_false g2, if_false, eq_false g3, if_false, eq_false g4, if_false, eq_false g5, if_false, eq_false g6, if_false, eq_false g7, if_false, eq_false g8, if_false, eq_false g9, if_false, eq_false g10, if_false, eq_false g11, if_false, eq_false g12, if_false, eq_false g13, if_false, eq_false g14, if_false, eq_false g15, if_false, eq_false g16, if_false, eq_true g17, if_true, ok_some]
  simp only [eq_false g0, eq_false g1, eq_false g2, eq_false g3, eq_false g4, eq_false g5, eq_false g6, eq_false g7, eq_false g8, eq_false g9, eq_false g10, eq_false g11, eq_false g12, eq_false g13, eq_false g14, eq_false g15, eq_false g16, eq_false g17, if_false, ok_some]

theorem p1_56 (h : I0 xs L m) : LC_56 (P1 m) m := by
  unfold LC_56
  intro a
  have d9 := I0_d9 h
  have d5 := I0_d5 h
  have z3 : m.1 78 3 = 0 := I0_z h (by decide) rfl rfl
  have z114 : (wI m 549 0 (cI 0)).1 549 114 = 0 := I0_uz h rfl
  have hm := I0_Mu h
  have g : Ok (fPH_balance m a) fun x => Ok (fM_balance m a) fun z => lg_cmp x z.2 = 0 := by
    by_cases i : InR a (cI 0) (cI 3)
    · have i' : InR a (cI 0) (cI 4 + 0 - cI 1) := i
      have z80 : m.2.1 80 (ix a) = 0 := (h.2.2.1 80 (ix a) (by decide) rfl rfl).2
      have hb : inb a 34 = true := inb_iff.mpr ⟨i.1, by have := i.2; rw [show (cI 3).toInt = 3 from rfl] at this; omega⟩
      simp only [fPH_balance, fMoney_has, d9, z3, outside_eq, eq_true i', ltM_eq, ltI_eq, ltL_eq, bd1_some, bd2_some, ite_bI, if_true, if_false, ite_true, ite_false, eq_self, not_true_eq_false, not_false_eq_true, i10, eq_true hb, z80, ok_some, eq_false (show ¬ cI 1 = 0 by decide), fM_balance_b41, fM_balance, d5, in_eq, eq_true i, q_bal z114]
      exact lgc_self _
    · have i' : ¬ InR a (cI 0) (cI 4 + 0 - cI 1) := i
      simp only [fPH_balance, fMoney_has, d9, z3, outside_eq, eq_false i', ltM_eq, ltI_eq, ltL_eq, bd1_some, bd2_some, ite_bI, if_true, if_false, ite_true, ite_false, eq_self, not_true_eq_false, not_false_eq_true, i10, eq_true (show cI 0 = 0 from rfl), ok_some, fM_balance_b41, fM_balance, d5, in_eq, eq_false i, mz_cus hm]
      exact lgc_self _
  obtain ⟨x, ex, z, ez, e⟩ := g
  exact ⟨x, ex, z, ez, e, (p1_fr (F := []) (fr.rf) (fr_fM_balance ez) rfl (by decide +kernel)).2⟩
theorem p1_71 (h : I0 xs L m) : LC_71 (P1 m) m := by
  unfold LC_71
  intro a b
  refine p1_ask (fun q h => fr_fM_notice h) (by decide +kernel) ?_
  have d9 := I0_d9 h
  have d5 := I0_d5 h
  have z7 : m.1 15 7 = 0 := h.2.2.2.2.1.2.2.1
  have z134 : (wI m 549 0 (cI 0)).1 549 134 = 0 := I0_uz h rfl
  have k1 : ¬ InR a (cI 0) ((0 : Int32) - cI 1) := fun z => absurd (out0 (s := m) (a := a) (n := 0) rfl) (by rw [outside_eq, bI_f (fun q => q z)]; decide)
  by_cases i : InR b (cI 0) (cI 3)
  · simp only [fPH_notice, fChron_tellNotice, fM_notice_b49, fM_notice, fMath_min, d9, d5, z7, z134, outside_eq, in_eq, eq_true i, eq_false k1, ltM_eq, ltI_eq, ltL_eq, bd1_some, bd2_some, ite_bI, if_true, if_false, ite_true, ite_false, eq_self, not_true_eq_false, not_false_eq_true, i10, eq_true (show (0 : Int32) ≤ cI 3000 by decide), eq_true (show (0 : Int32) < cI 3000 by decide), ok_some]
  · simp only [fPH_notice, fChron_tellNotice, fM_notice_b49, fM_notice, fMath_min, d9, d5, outside_eq, in_eq, eq_false i, ltM_eq, ltI_eq, ltL_eq, bd1_some, bd2_some, ite_bI, if_true, if_false, ite_true, ite_false, eq_self, not_true_eq_false, not_false_eq_true, i10, ok_some]
theorem p1_74 (h : I0 xs L m) : LC_74 (P1 m) m := by
  unfold LC_74
  refine p1_call (fun q h => fr_fPH_audit h) (fun z q h => fr_fM_audit h) (by decide +kernel) (by decide +kernel) ?_
  have d9 := I0_d9 h
  have z3 : m.1 78 3 = 0 := I0_z h (by decide) rfl rfl
  have z80 : ∀ k, m.2.1 80 k = 0 := fun k => (h.2.2.1 80 k (by decide) (by rfl) (by rfl)).2
  have z4 : m.1 449 4 = 0 := I0_z h (by decide) rfl rfl
  have z6 : m.1 449 6 = 0 := I0_z h (by decide) rfl rfl
  have z5 : m.1 100 5 = 0 := I0_z h (by decide) rfl rfl
  have z8 : m.1 138 3 = 0 := h.2.2.2.2.1.2.2.2.2.2.1
  have z25 : m.1 125 3 = 0 := I0_z h (by decide) rfl rfl
  simp only [fPH_audit, d9, ltM_eq, ltI_eq, ltL_eq, bd1_some, bd2_some, ite_bI, if_true, if_false, ite_true, ite_false, eq_self, not_true_eq_false, not_false_eq_true, i10, q_faults z3 z80, q_overladen z4, q_lmis z6 z5]
  rw [q_rmis (by rw [wR_ne (by decide), z8]) (by rw [wR_ne (by decide), z5]), bd2_some, q_kmis (by rw [wR_ne (by decide), wR_ne (by decide), z25]) (by rw [wR_ne (by decide), wR_ne (by decide), z5]), bd2_some, ok_some]
  have e5 : (wI (wR (wR (wR m 124 0 300 fun _ => cI 0) 124 0 300 fun _ => cI 0) 124 0 300 fun _ => cI 0) 549 0 (cI 0)).1 549 5 = 0 := by
    rw [wI_c, up1_ne (by decide), wR_ne (by decide), wR_ne (by decide), wR_ne (by decide)]; exact I0_5 h
  simp only [fM_audit, e5, ltM_eq, ltI_eq, ltL_eq, bd1_some, bd2_some, ite_bI, if_true, if_false, ite_true, ite_false, eq_self, not_true_eq_false, not_false_eq_true, i10, ok_some]
  rfl
end
