/-! ===== LEVEL 3: the call start ===== -/
def GST : List (Nat × (Nat × Nat)) := [(549, 549, 1), (549, 549, 5), (549, 549, 6), (549, 549, 7), (549, 549, 10), (549, 549, 11)]
theorem q_start {q : Nat} {s t : ev_M} (hq : q ≤ 819500) (R : RLog s t) (H : RH q s t) : Ok (fPH_start s) fun x => Ok (fM_start t) fun z => x.2 = z.2 ∧ RLog x.1 z.1 ∧ ∃ q', q' ≤ q + 12400 ∧ RH q' x.1 z.1 := by
  obtain ⟨a1, a2, a3, a4, a5, a6, a7, D⟩ := id R
  unfold fPH_start fM_start
  rw [ltM_eq, q_z5, a2.1]
  obtain ⟨t0, et0⟩ : ∃ t0, t0 = wI t 549 0 (cI 0) := ⟨_, rfl⟩
  have ft0 : fr [(549, 549, 1)] t t0 := by rw [et0]; exact fr.rf.wI rfl
  rw [← et0]
  by_cases z : s.1 9 9 = 0
  · rw [if_pos z, if_pos z, ok_some, ok_some]
    exact ⟨rfl, RLog_of R (fun c a b d k _ => rfl) rfl (fun k hk => by rw [et0, wI_c, up1_ne (by omega)]) (by rw [et0]; exact wI_ne (by decide)) (by rw [et0]; exact wI_ne (by decide)) (by rw [et0]; exact wI_ne (by decide)), q, by omega, H.keep fr.rf ft0 (F := []) (by decide +kernel) (by decide +kernel)⟩
  rw [if_neg z, if_neg z, ltM_eq]
  -- the house is cleared
  obtain ⟨s1, e1, C1⟩ := clr_C s
  have f1 := fr_fPH_clearHouse e1
  obtain ⟨t1, et1⟩ : ∃ t1, t1 = wI t0 549 4 (cI 0) := ⟨_, rfl⟩
  have ft1 : fr GST t t1 := by rw [et1]; exact (ft0.mono (by decide +kernel)).wI (by decide +kernel)
  rw [e1, bd1_some, ← et1]
  have dC : nof F_PH_clearHouse [(9, 0), (10, 0), (11, 0), (13, 0), (1003, 0)] = true := by decide +kernel
  have s9 : s1.1 9 = s.1 9 := (nof_c f1 dC (c := 9) rfl).1
  have s10 : s1.1 10 = s.1 10 := (nof_c f1 dC (c := 10) rfl).1
  have s11 : s1.1 11 = s.1 11 := (nof_c f1 dC (c := 11) rfl).1
  have s3 : s1.1 1003 = s.1 1003 := (nof_c f1 dC (c := 1003) rfl).1
  have dG : nof GST [(549, 8), (551, 0), (555, 0), (577, 0), (657, 0), (549, 162)] = true := by decide +kernel
  -- the blocks that hold
  obtain ⟨S0, eS0⟩ : ∃ S0, S0 = wI s1 9 4 (cI 0) := ⟨_, rfl⟩
  have fS0 : fr [(9, 9, 5)] s1 S0 := by rw [eS0]; exact fr.rf.wI rfl
  have D1 : RDsk S0 t1 := RDsk_of D (by rw [eS0, wI_ne (by decide), s10]) (by rw [eS0, wI_ne (by decide), s11]) (by rw [eS0, wI_c, up1_ne (by decide), s9]) (by rw [eS0, wI_c, up1_ne (by decide), s9]) (nof_c ft1 dG (c := 551) rfl).1 (nof_c ft1 dG (c := 555) rfl).1 (by rw [et1, wI_c, up1_ne (by decide), et0, wI_c, up1_ne (by decide)]) (nof_s ft1 dG (c := 549) (k := 7) rfl).1
  obtain ⟨S, T, b, u1, u2, u3, u4, u5, u6, u7, u8, u9⟩ := be_lp 150 1048576 1048576 1 0 S0 t1 (by decide) (by decide) (by decide) (Nat.le_refl _) (by decide) (by rw [eS0, wI_c, up1_eq]; rfl) (by rw [et1, wI_c, up1_eq]; rfl) D1 (fun j x1 x2 => by omega) (Or.inl rfl)
  have u1 : fLog_beginAgain_h7 1048576 S0 (cI 1) = fLog_beginAgain_b41 S := u1
  have u2 : fM_start_h22 1048576 t1 (cI 1) = fM_start_b65 T := u2
  unfold fLog_beginAgain
  rw [ltM_eq, ← eS0, u1, u2]
  unfold fLog_beginAgain_b41 fLog_forgetGathered fM_start_b65
  rw [ltM_eq, ltM_eq, ltM_eq, ltM_eq, ltM_eq, ltM_eq, bd1_some, bd1_some, ltM_eq, ltM_eq, ltM_eq, ltM_eq]
  obtain ⟨S2, eS2⟩ : ∃ S2, S2 = wI (wI (wI (wI (wI (wI S 9 10 (cI (-1))) 9 12 (cI 1)) 9 13 (cI 0)) 9 6 (cI 0)) 9 7 (cI 0)) 9 8 (cI 0) := ⟨_, rfl⟩
  obtain ⟨T1, eT1⟩ : ∃ T1, T1 = wI (wI (wI (wI T 549 5 (cI 0)) 549 6 (cI (-1))) 549 9 (cI 0)) 549 10 (cI 0) := ⟨_, rfl⟩
  rw [← eS2, ← eT1]
  obtain ⟨T2, e2, M2⟩ := clr_M T1
  have f2 := fr_fM_empty e2
  rw [e2, bd1_some, ltM_eq, ltM_eq]
  obtain ⟨T3, eT3⟩ : ∃ T3, T3 = wI (wI T2 549 14 (cI 1)) 549 20 (cI 0) := ⟨_, rfl⟩
  rw [← eT3]
  have fT1 : fr GST t T1 := by
    rw [eT1]
    exact ((((ft1.tr (u7.mono (by decide +kernel))).wI (by decide +kernel)).wI (by decide +kernel)).wI (by decide +kernel)).wI (by decide +kernel)
  have gT2 : fr (GST ++ F_M_empty) t T2 := (fT1.mono (contains_of fun q hq => List.mem_append_left _ hq)).tr (f2.mono (contains_of fun q hq => List.mem_append_right _ hq))
  have fT3 : fr [(549, 549, 15), (549, 549, 21)] T2 T3 := by rw [eT3]; exact (fr.rf.wI rfl).wI rfl
  have fS2 : fr [(9, 9, 5), (9, 9, 7), (9, 9, 8), (9, 9, 9), (9, 9, 11), (9, 9, 13), (9, 9, 14)] s1 S2 := by
    rw [eS2]
    exact (((((((fS0.tr u6).mono (by decide +kernel)).wI rfl).wI rfl).wI rfl).wI rfl).wI rfl).wI rfl
  -- all is empty
  have H2 : RH q s1 T2 := by
    obtain ⟨hRTim, hRMch, ⟨hRPl, hRSt, hRRn, hRPo⟩, hROr, hRLn, hRAk, hRCu, ⟨hRLg, hROm, hRRm⟩, ⟨⟨hRIt, hRIr, hRCo, hRSx⟩, ⟨hREv, hRNt⟩, ⟨hRRw, hRBc, hRBx⟩⟩, hRRo, hRSp, hRLk, hRBg, ⟨hRSg, hRSh, hSym, hSz⟩, hRCk, hRTa, hRSy, hRAv, hRMd⟩ := id H
    refine RH_0 C1 M2 (hRAk.keep f1 gT2 (by decide +kernel) (by decide +kernel)) (hSym.keep f1 gT2 (by decide +kernel) (by decide +kernel)) (hRMd.keep f1 gT2 (by decide +kernel) (by decide +kernel)) ?_
    obtain ⟨L, F, h1, h2, h3, h4, h5, h6, h7, -⟩ := hRSh
    rw [(nof_c gT2 (L := [(577, 0)]) (by decide +kernel) (c := 577) rfl).1, h7 0 (Nat.zero_le _), h4]
    rfl
  have H3 : RH q S2 T3 := H2.keep fS2 fT3 (by decide +kernel) (by decide +kernel)
  have k9 : ∀ k, k ≠ 10 → k ≠ 12 → k ≠ 13 → k ≠ 6 → k ≠ 7 → k ≠ 8 → S2.1 9 k = S.1 9 k := fun k x1 x2 x3 x4 x5 x6 => by rw [eS2, wI_c, up1_ne x6, wI_c, up1_ne x5, wI_c, up1_ne x4, wI_c, up1_ne x3, wI_c, up1_ne x2, wI_c, up1_ne x1]
  have kn : ∀ k, k ≠ 9 → S2.1 k = s1.1 k := fun k hk => by
    rw [eS2, wI_ne hk, wI_ne hk, wI_ne hk, wI_ne hk, wI_ne hk, wI_ne hk]
    rw [show S.1 k = S0.1 k from funext fun j => (u6.1 k j (by simp [inF, hk]; intro a b; omega)).1, eS0, wI_ne hk]
  have S010 : S0.1 10 = s1.1 10 := by rw [eS0, wI_ne (by decide)]
  have t3n : ∀ k, k ≠ 14 → k ≠ 20 → T3.1 549 k = T2.1 549 k := fun k x1 x2 => by rw [eT3, wI_c, up1_ne x2, wI_c, up1_ne x1]
  have dE : nof F_M_empty [(549, 5), (549, 6), (549, 7), (549, 8), (549, 10), (549, 11)] = true := by decide +kernel
  have P3 : RPy b S2 T3 := by
    refine ⟨fun j hj => ?_, ?_, ?_, ?_, ?_, ?_, ?_, ?_, ?_, ?_⟩
    · rw [kn 1003 (by decide), s3]; exact a1 j hj
    · rw [k9 4 (by decide) (by decide) (by decide) (by decide) (by decide) (by decide)]; exact u3
    · rw [t3n 4 (by decide) (by decide), (nof_s f2 dE (c := 549) (k := 4) rfl).1, eT1, wI_c, up1_ne (by decide), wI_c, up1_ne (by decide), wI_c, up1_ne (by decide), wI_c, up1_ne (by decide)]; exact u4
    · rw [eS2, wI_c, up1_ne (by decide), wI_c, up1_ne (by decide), wI_c, up1_ne (by decide), wI_c, up1_ne (by decide), wI_c, up1_eq]
    · rw [eT3, wI_c, up1_ne (by decide), wI_c, up1_eq]
    · rw [t3n 9 (by decide) (by decide), (nof_s f2 dE (c := 549) (k := 9) rfl).1, eT1, wI_c, up1_ne (by decide), wI_c, up1_eq]
    · rw [t3n 10 (by decide) (by decide), (nof_s f2 dE (c := 549) (k := 10) rfl).1, eT1, wI_c, up1_eq]
    · rw [eS2, wI_c, up1_ne (by decide), wI_c, up1_eq]
    · rw [t3n 5 (by decide) (by decide), (nof_s f2 dE (c := 549) (k := 5) rfl).1, eT1, wI_c, up1_ne (by decide), wI_c, up1_ne (by decide), wI_c, up1_ne (by decide), wI_c, up1_eq]
    · obtain ⟨d1, d2, d3, d4, d5⟩ := D
      have m51 : T3.1 551 = t.1 551 := by rw [(nof_c fT3 (L := [(551, 0)]) (by decide +kernel) (c := 551) rfl).1, (nof_c gT2 (L := [(551, 0)]) (by decide +kernel) (c := 551) rfl).1]
      have m55 : T3.1 555 = t.1 555 := by rw [(nof_c fT3 (L := [(555, 0)]) (by decide +kernel) (c := 555) rfl).1, (nof_c gT2 (L := [(555, 0)]) (by decide +kernel) (c := 555) rfl).1]
      have n10 : S2.1 10 = s.1 10 := by rw [kn 10 (by decide), s10]
      have n11 : S2.1 11 = s.1 11 := by rw [kn 11 (by decide), s11]
      have c10 : S2.1 9 10 = cI (-1) := by rw [eS2, wI_c, up1_ne (by decide), wI_c, up1_ne (by decide), wI_c, up1_ne (by decide), wI_c, up1_ne (by decide), wI_c, up1_ne (by decide), wI_c, up1_eq]
      have c11 : S2.1 9 11 = s.1 9 11 := by rw [k9 11 (by decide) (by decide) (by decide) (by decide) (by decide) (by decide), (u6.1 9 11 (by decide +kernel)).1, eS0, wI_c, up1_ne (by decide), s9]
      have m6 : T3.1 549 6 = cI (-1) := by rw [t3n 6 (by decide) (by decide), (nof_s f2 dE (c := 549) (k := 6) rfl).1, eT1, wI_c, up1_ne (by decide), wI_c, up1_ne (by decide), wI_c, up1_eq]
      have m7 : T3.1 549 7 = t.1 549 7 := by rw [t3n 7 (by decide) (by decide), (nof_s gT2 (L := [(549, 8)]) (by decide +kernel) (c := 549) (k := 7) rfl).1]
      unfold RDsk
      rw [m51, m55, n10, n11, c10, c11, m6, m7]
      exact ⟨d1, d2, d3, ⟨rfl, by decide, by decide⟩, d5⟩
  have u8' : ∀ j, 1 ≤ j → j ≤ b → ∃ n : Nat, 1 ≤ n ∧ n ≤ 248 ∧ S2.1 10 ((j - 1) * 256 + 3) &&& cI 255 = cI (n : Int) := fun j x1 x2 => by rw [kn 10 (by decide), ← S010]; exact u8 j x1 x2
  have u9' : b = 0 ∨ S2.1 10 ((b - 1) * 256 + 2) &&& cI 255 = cI 1 := by rw [kn 10 (by decide), ← S010]; exact u9
  obtain ⟨X, Y, q', v, w1, w2, w3, w4, w5⟩ := bl_lp (b := b) (q0 := q) u5 hq b 1048576 1048576 1 q 0 S2 T3 (cI 0) (by omega) (by omega) (by omega) (Nat.le_refl _) P3 ⟨by rw [eT3, wI_c, up1_eq]; rfl, by rw [eS2, wI_c, up1_ne (by decide), wI_c, up1_ne (by decide), wI_c, up1_eq]; rfl, fun i hi => absurd hi (Nat.not_lt_zero _)⟩ (by rw [eS2, wI_c, up1_eq]) (by rw [eS2, wI_c, up1_ne (by decide), wI_c, up1_ne (by decide), wI_c, up1_ne (by decide), wI_c, up1_eq]) H3 (by omega) (by omega) (Or.inl rfl) u8' u9'
  have w1 : fPH_start_h26 1048576 S2 (cI 1) = _ := w1
  have w2 : fM_start_h103 1048576 T3 (cI 0) (cI 1) = _ := w2
  rw [w1, ok_some, w2, ok_some]
  exact ⟨rfl, w3, q', w5, w4⟩
theorem lc_4 {L i : Nat} {m : ev_M} (H : II L i m) (hi : i ≤ 63) : LC_4 (II L (i + 1)) m := by
  obtain ⟨q, q1, h1, h2, h3, h4, h5⟩ := H.1
  obtain ⟨x, ex, -⟩ := q_start (by omega) h3 h1
  have fx := fr_fPH_start ex
  have x549 : x.1.1 549 = m.1 549 := (nof_c fx (L := [(549, 0)]) (by decide +kernel) (c := 549) rfl).1
  have k3 : RLog m x.1 := RLog_of h3 (fun c a b d k _ => rfl) rfl (fun k _ => by rw [x549]) (nof_c fx (L := [(551, 0)]) (by decide +kernel) (c := 551) rfl).1 (nof_c fx (L := [(552, 0)]) (by decide +kernel) (c := 552) rfl).1 (nof_c fx (L := [(555, 0)]) (by decide +kernel) (c := 555) rfl).1
  obtain ⟨x', ex', z, ez, e1, e2, q', q2, e3⟩ := q_start (by omega) k3 (h1.keep fr.rf fx (F := []) (by decide +kernel) (by decide +kernel))
  obtain rfl : x = x' := Option.some.inj (ex.symm.trans ex')
  have fz := fr_fM_start ez
  obtain ⟨p1, p2⟩ := p1_fr fx fz (by decide +kernel) (by decide +kernel)
  have f : fr (F_PH_start ++ F_M_start) m z.1 := (fx.mono (contains_of fun q hq => List.mem_append_left _ hq)).tr (fz.mono (contains_of fun q hq => List.mem_append_right _ hq))
  have d : nof F_M_start [(9, 0), (10, 0), (11, 0), (13, 0), (1003, 0)] = true := by decide +kernel
  have L' : RLog z.1 z.1 := RLog_of e2 (fun c a b g k _ => by
    obtain rfl | rfl | rfl | rfl : c = 9 ∨ c = 10 ∨ c = 11 ∨ c = 13 := by omega
    · rw [(nof_c fz d (c := 9) rfl).1]
    · rw [(nof_c fz d (c := 10) rfl).1]
    · rw [(nof_c fz d (c := 11) rfl).1]
    · rw [(nof_c fz d (c := 13) rfl).1]) (nof_c fz d (c := 1003) rfl).1 (fun k _ => rfl) rfl rfl rfl
  refine ⟨x, ex, p1, z, ez, e1, H.of p2 ⟨q', by omega, e3.keep fz fr.rf (G := []) (by decide +kernel) (by decide +kernel), h2.keep f f (by decide +kernel) (by decide +kernel), L', h4.keepX f.1 (by decide +kernel), fun k hk => ?_⟩⟩
  rw [(nof_c f (L := [(2, 0)]) (by decide +kernel) (c := 2) rfl).1]
  exact h5 k hk
