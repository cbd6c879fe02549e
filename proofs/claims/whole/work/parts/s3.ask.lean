/-! ===== LEVEL 3: the calls of questions (printed by gen3/s3gen.py) ===== -/
def RH_A : List (Nat × Nat) := RTim_C ++ RMch_C ++ RPl_C ++ RSt_C ++ RRn_C ++ RPo_C ++ ROr_C ++ RLn_C ++ RCu_C ++ RLg_C ++ ROm_C ++ RRm_C ++ RIt_C ++ RIr_C ++ RCo_C ++ RSx_C ++ REv_C ++ RNt_C ++ RRw_C ++ RBc_C ++ RBx_C ++ RRo_C ++ RSp_C ++ RLk_C ++ RBg_C ++ RSg_C ++ RSh_C ++ Sym_C ++ RCk_C ++ RTa_C ++ RSy_C ++ RAv_C ++ RMd_C
theorem RH.keepA {q : Nat} {s t s' t' : ev_M} {F G : List (Nat × (Nat × Nat))} (H : RH q s t) (hs : fr F s s') (ht : fr G t t') (d1 : nof F RH_A = true) (d2 : nof G RH_M = true) (ak : RAk (300 * (q + 1)) s' t') : RH (q + 1) s' t' := by
  obtain ⟨hRTim, hRMch, ⟨hRPl, hRSt, hRRn, hRPo⟩, hROr, hRLn, hRAk, hRCu, ⟨hRLg, hROm, hRRm⟩, ⟨⟨hRIt, hRIr, hRCo, hRSx⟩, ⟨hREv, hRNt⟩, ⟨hRRw, hRBc, hRBx⟩⟩, hRRo, hRSp, hRLk, hRBg, ⟨hRSg, hRSh, hSym, hSz⟩, hRCk, hRTa, hRSy, hRAv, hRMd⟩ := H
  exact ⟨(hRTim.keep hs ht (nof_sub d1 (by decide +kernel)) (nof_sub d2 (by decide +kernel))), (hRMch.keep hs ht (nof_sub d1 (by decide +kernel)) (nof_sub d2 (by decide +kernel))), ⟨(hRPl.keep hs ht (nof_sub d1 (by decide +kernel)) (nof_sub d2 (by decide +kernel))), (hRSt.keep hs ht (nof_sub d1 (by decide +kernel)) (nof_sub d2 (by decide +kernel))), (hRRn.keep hs ht (nof_sub d1 (by decide +kernel)) (nof_sub d2 (by decide +kernel))), (hRPo.keep hs ht (nof_sub d1 (by decide +kernel)) (nof_sub d2 (by decide +kernel)))⟩, (hROr.keep hs ht (nof_sub d1 (by decide +kernel)) (nof_sub d2 (by decide +kernel))), ((hRLn.keep hs ht (nof_sub d1 (by decide +kernel)) (nof_sub d2 (by decide +kernel))).mono (by omega)), ak, (hRCu.keep hs ht (nof_sub d1 (by decide +kernel)) (nof_sub d2 (by decide +kernel))), ⟨(hRLg.keep hs ht (nof_sub d1 (by decide +kernel)) (nof_sub d2 (by decide +kernel))), (hROm.keep hs ht (nof_sub d1 (by decide +kernel)) (nof_sub d2 (by decide +kernel))), (hRRm.keep hs ht (nof_sub d1 (by decide +kernel)) (nof_sub d2 (by decide +kernel)))⟩, ⟨⟨(hRIt.keep hs ht (nof_sub d1 (by decide +kernel)) (nof_sub d2 (by decide +kernel))), (hRIr.keep hs ht (nof_sub d1 (by decide +kernel)) (nof_sub d2 (by decide +kernel))), ((hRCo.keep hs ht (nof_sub d1 (by decide +kernel)) (nof_sub d2 (by decide +kernel))).mono (by omega)), (hRSx.keep hs ht (nof_sub d1 (by decide +kernel)) (nof_sub d2 (by decide +kernel)))⟩, ⟨((hREv.keep hs ht (nof_sub d1 (by decide +kernel)) (nof_sub d2 (by decide +kernel))).mono (by omega)), ((hRNt.keep hs ht (nof_sub d1 (by decide +kernel)) (nof_sub d2 (by decide +kernel))).mono (by omega))⟩, ⟨(hRRw.keep hs ht (nof_sub d1 (by decide +kernel)) (nof_sub d2 (by decide +kernel))), (hRBc.keep hs ht (nof_sub d1 (by decide +kernel)) (nof_sub d2 (by decide +kernel))), (hRBx.keep hs ht (nof_sub d1 (by decide +kernel)) (nof_sub d2 (by decide +kernel)))⟩⟩, (hRRo.keep hs ht (nof_sub d1 (by decide +kernel)) (nof_sub d2 (by decide +kernel))), (hRSp.keep hs ht (nof_sub d1 (by decide +kernel)) (nof_sub d2 (by decide +kernel))), (hRLk.keep hs ht (nof_sub d1 (by decide +kernel)) (nof_sub d2 (by decide +kernel))), (hRBg.keep hs ht (nof_sub d1 (by decide +kernel)) (nof_sub d2 (by decide +kernel))), ⟨(hRSg.keep hs ht (nof_sub d1 (by decide +kernel)) (nof_sub d2 (by decide +kernel))), (hRSh.keep hs ht (nof_sub d1 (by decide +kernel)) (nof_sub d2 (by decide +kernel))), (hSym.keep hs ht (nof_sub d1 (by decide +kernel)) (nof_sub d2 (by decide +kernel))), (by rw [(nof_s hs (L := [(52, 3), (52, 4)]) (nof_sub d1 (by decide +kernel)) (c := 52) (k := 2) rfl).1, (nof_s hs (L := [(52, 3), (52, 4)]) (nof_sub d1 (by decide +kernel)) (c := 52) (k := 3) rfl).1]; exact hSz)⟩, (hRCk.keep hs ht (nof_sub d1 (by decide +kernel)) (nof_sub d2 (by decide +kernel))), (hRTa.keep hs ht (nof_sub d1 (by decide +kernel)) (nof_sub d2 (by decide +kernel))), (hRSy.keep hs ht (nof_sub d1 (by decide +kernel)) (nof_sub d2 (by decide +kernel))), (hRAv.keep hs ht (nof_sub d1 (by decide +kernel)) (nof_sub d2 (by decide +kernel))), (hRMd.keep hs ht (nof_sub d1 (by decide +kernel)) (nof_sub d2 (by decide +kernel)))⟩
theorem RLn.toRLw {k : Nat} {s t : ev_M} (h : RLn k s t) : RLw k s t := by
  obtain ⟨n1, g1, g2, g3, g4, g5, g6, g7, b1, b2, b3, b4, b5, b6, b7⟩ := h
  exact ⟨n1, g1, g2, g3, g4, g5, g6, g7, b1, b2, b3, b4, b5, fun q hq => ⟨by have := (b6 q hq).1; omega, (b6 q hq).2⟩, b7⟩
theorem nof_app {F G : List (Nat × (Nat × Nat))} {L : List (Nat × Nat)} (h : nof F L = true) (h2 : nof G L = true) : nof (F ++ G) L = true := by
  refine List.all_eq_true.mpr fun q hq => ?_
  rw [List.all_append, Bool.and_eq_true]
  exact ⟨List.all_eq_true.mp h q hq, List.all_eq_true.mp h2 q hq⟩
def RI_N : List (Nat × Nat) := Cn_C ++ [(9, 0), (10, 0), (11, 0), (13, 0), (1003, 0), (1, 2), (2, 0)]
theorem RI.keepA {q : Nat} {s t s' t' : ev_M} {F G : List (Nat × (Nat × Nat))} (H : RI q s t) (hs : fr F s s') (ht : fr G t t') (d0 : nof F RH_A = true) (d1 : nof F RI_N = true) (d2 : nof G RI_M = true) (ak : RAk (300 * (q + 1)) s' t') : RI (q + 1) s' t' := by
  obtain ⟨h1, h2, h3, h4, h5⟩ := H
  have c9 := (nof_c hs d1 (c := 9) (by decide +kernel)).1
  have c10 := (nof_c hs d1 (c := 10) (by decide +kernel)).1
  have c11 := (nof_c hs d1 (c := 11) (by decide +kernel)).1
  have c13 := (nof_c hs d1 (c := 13) (by decide +kernel)).1
  have c2 := (nof_c hs d1 (c := 2) (by decide +kernel)).1
  have c1 := (nof_s hs d1 (c := 1) (k := 1) (by decide +kernel)).1
  have m2 := (nof_s ht d2 (c := 549) (k := 2) (by decide +kernel)).1
  have m50 := (nof_c ht d2 (c := 550) (by decide +kernel)).1
  refine ⟨h1.keepA hs ht d0 (nof_sub d2 (by decide +kernel)) ak, h2.keep hs ht (nof_sub d1 (by decide +kernel)) (nof_sub d2 (by decide +kernel)), RLog_of h3 (fun c a b d k _ => ?_) (nof_c hs d1 (c := 1003) (by decide +kernel)).1 (fun k hk => ?_) (nof_c ht d2 (c := 551) (by decide +kernel)).1 (nof_c ht d2 (c := 552) (by decide +kernel)).1 (nof_c ht d2 (c := 555) (by decide +kernel)).1, ?_, fun k hk => by rw [c2]; exact h5 k hk⟩
  · obtain rfl | rfl | rfl | rfl : c = 9 ∨ c = 10 ∨ c = 11 ∨ c = 13 := by omega
    · rw [c9]
    · rw [c10]
    · rw [c11]
    · rw [c13]
  · rcases hk with rfl | rfl | rfl | rfl | rfl | rfl
    · exact (nof_s ht d2 (c := 549) (k := 4) (by decide +kernel)).1
    · exact (nof_s ht d2 (c := 549) (k := 5) (by decide +kernel)).1
    · exact (nof_s ht d2 (c := 549) (k := 6) (by decide +kernel)).1
    · exact (nof_s ht d2 (c := 549) (k := 7) (by decide +kernel)).1
    · exact (nof_s ht d2 (c := 549) (k := 9) (by decide +kernel)).1
    · exact (nof_s ht d2 (c := 549) (k := 10) (by decide +kernel)).1
  · unfold RTap at h4 ⊢
    rw [c1, c2, m2, m50]
    exact h4
/-- a question that changes what the class keeps for itself -/
theorem ii_mem {L i : Nat} {m : ev_M} {F G : List (Nat × (Nat × Nat))} {fc : Option (ev_M × Int32)} {fm : ev_M → Option (ev_M × Int32)} (H : II L i m) (hi : i ≤ 64) (h1 : ∀ q, fc = some q → fr F m q.1) (h2 : ∀ z q, fm z = some q → fr G z q.1) (n1 : nof F SCR = true) (n2 : nof G SCR = true) (d0 : nof F RH_A = true) (d1 : nof F RI_N = true) (d2 : nof F RI_M = true) (e1 : nof G RI_C = true) (e2 : nof G RI_M = true) (h : ∀ q t, q < 832100 → RI q m t → Ok fc fun x => Ok (fm t) fun z => x.2 = z.2 ∧ RAk (300 * (q + 1)) x.1 z.1) : Ok fc fun x => scr m x.1 ∧ Ok (fm x.1) fun z => x.2 = z.2 ∧ II L (i + 1) z.1 := by
  obtain ⟨q, q1, q2⟩ := H.1
  obtain ⟨x, ex, -⟩ := h q m (by omega) q2
  have fx := h1 x ex
  obtain ⟨x', ex', z, ez, e, ak⟩ := h q x.1 (by omega) (q2.keep (F := []) fr.rf fx (by decide +kernel) d2)
  obtain rfl : x = x' := Option.some.inj (ex.symm.trans ex')
  have fz := h2 _ z ez
  obtain ⟨p1, p2⟩ := p1_fr fx fz n1 n2
  have fxz : fr (F ++ G) m z.1 := (fx.mono (contains_of fun q hq => List.mem_append_left _ hq)).tr (fz.mono (contains_of fun q hq => List.mem_append_right _ hq))
  exact ⟨x, ex, p1, z, ez, e, H.of p2 ⟨q + 1, by omega, q2.keepA fxz fxz (nof_app d0 (nof_sub e1 (by decide +kernel))) (nof_app d1 (nof_sub e1 (by decide +kernel))) (nof_app d2 e2) (ak.keep fz (F := G) (G := []) fr.rf (nof_sub e1 (by decide +kernel)) rfl)⟩⟩
theorem q_count {q : Nat} {s t : ev_M} {a : Int32} (hR : RI q s t) : Ok (fPH_count s a) fun x => Ok (fM_count t a) fun z => x = z.2 := by
  obtain ⟨⟨hRTim, hRMch, ⟨hRPl, hRSt, hRRn, hRPo⟩, hROr, hRLn, hRAk, hRCu, ⟨hRLg, hROm, hRRm⟩, ⟨⟨hRIt, hRIr, hRCo, hRSx⟩, ⟨hREv, hRNt⟩, ⟨hRRw, hRBc, hRBx⟩⟩, hRRo, hRSp, hRLk, hRBg, ⟨hRSg, hRSh, hSym, hSz⟩, hRCk, hRTa, hRSy, hRAv, hRMd⟩, hCn, hL, hT, hb⟩ := hR
  unfold fPH_count fM_count
  rw [ltM_eq, q_z5, hL.2.1.1]
  have zz : ∀ k, k ≠ 0 → (wI t 549 0 (cI 0)).1 549 k = t.1 549 k := fun k hk => by rw [wI_c, up1_ne hk]
  by_cases z : s.1 9 9 = 0
  rotate_left
  · rw [if_neg z, if_neg z, ok_some, ok_some]
  rw [if_pos z, if_pos z]
  by_cases b0 : a = cI 0
  · rw [if_pos b0, if_pos b0, ok_some, ok_some, zz 24 (by decide)]; exact (hRPl.1.1).symm
  rw [if_neg b0, if_neg b0]
  by_cases b1 : a = cI 1
  · rw [if_pos b1, if_pos b1, ok_some, ok_some, zz 27 (by decide)]; exact (hRSt.1.1).symm
  rw [if_neg b1, if_neg b1]
  by_cases b2 : a = cI 2
  · rw [if_pos b2, if_pos b2, ok_some, ok_some, zz 33 (by decide)]; exact (hRRn.1.1).symm
  rw [if_neg b2, if_neg b2]
  by_cases b3 : a = cI 3
  · rw [if_pos b3, if_pos b3, ok_some, ok_some, zz 38 (by decide)]; exact (hRPo.1.1).symm
  rw [if_neg b3, if_neg b3]
  by_cases b4 : a = cI 4
  · rw [if_pos b4, if_pos b4, ok_some, ok_some, zz 43 (by decide)]; exact (hROr.1.1).symm
  rw [if_neg b4, if_neg b4]
  by_cases b5 : a = cI 5
  · rw [if_pos b5, if_pos b5, ok_some, ok_some, zz 58 (by decide)]; exact (hRIt.1.1).symm
  rw [if_neg b5, if_neg b5]
  by_cases b6 : a = cI 6
  · rw [if_pos b6, if_pos b6, ok_some, ok_some, zz 87 (by decide)]; exact (hRRo.1.1).symm
  rw [if_neg b6, if_neg b6]
  by_cases b7 : a = cI 7
  · rw [if_pos b7, if_pos b7, ok_some, ok_some, zz 93 (by decide)]; exact (hRLn.1.1).symm
  rw [if_neg b7, if_neg b7]
  by_cases b8 : a = cI 8
  · rw [if_pos b8, if_pos b8, ok_some, ok_some, zz 101 (by decide)]; exact (hRBg.1.1).symm
  rw [if_neg b8, if_neg b8]
  by_cases b9 : a = cI 9
  · rw [if_pos b9, if_pos b9, ok_some, ok_some, zz 107 (by decide)]; exact (hRLk.1.1).symm
  rw [if_neg b9, if_neg b9]
  by_cases b10 : a = cI 10
  · rw [if_pos b10, if_pos b10, ok_some, ok_some, zz 111 (by decide)]; exact (hRCu.1.1).symm
  rw [if_neg b10, if_neg b10]
  by_cases b11 : a = cI 11
  · rw [if_pos b11, if_pos b11, ok_some, ok_some, zz 114 (by decide)]; exact (hRLg.1.1).symm
  rw [if_neg b11, if_neg b11]
  by_cases b12 : a = cI 12
  · rw [if_pos b12, if_pos b12, ok_some, ok_some, zz 119 (by decide)]; exact (hROm.1.1).symm
  rw [if_neg b12, if_neg b12]
  by_cases b13 : a = cI 13
  · rw [if_pos b13, if_pos b13, ok_some, ok_some, zz 129 (by decide)]; exact (hREv.1.1).symm
  rw [if_neg b13, if_neg b13]
  by_cases b14 : a = cI 14
  · rw [if_pos b14, if_pos b14, ok_some, ok_some, zz 134 (by decide)]; exact (hRNt.1.1).symm
  rw [if_neg b14, if_neg b14]
  by_cases b15 : a = cI 15
  · rw [if_pos b15, if_pos b15, ok_some, ok_some, zz 4 (by decide)]; exact (hL.2.2.1.1).symm
  rw [if_neg b15, if_neg b15]
  by_cases b16 : a = cI 16
  · rw [if_pos b16, if_pos b16, ok_some, ok_some, zz 10 (by decide)]; exact (hL.2.2.2.2.2.1).symm
  rw [if_neg b16, if_neg b16]
  by_cases b17 : a = cI 17
  · rw [if_pos b17, if_pos b17, ok_some, ok_some, zz 9 (by decide)]; exact (hL.2.2.2.1.1).symm
  rw [if_neg b17, if_neg b17]
  rw [ok_some, ok_some]
section
variable {L i : Nat} {m : ev_M}
theorem lc_14 (H : II L i m) (hi : i ≤ 64) : LC_14 (II L (i + 1)) m := by
  unfold LC_14
  intro a
  refine ii_ask H (fun q h => fr_fM_find h) (by decide +kernel) (by decide +kernel) (by decide +kernel) (fun q hq hR => ?_) hi
  obtain ⟨⟨hRTim, hRMch, ⟨hRPl, hRSt, hRRn, hRPo⟩, hROr, hRLn, hRAk, hRCu, ⟨hRLg, hROm, hRRm⟩, ⟨⟨hRIt, hRIr, hRCo, hRSx⟩, ⟨hREv, hRNt⟩, ⟨hRRw, hRBc, hRBx⟩⟩, hRRo, hRSp, hRLk, hRBg, ⟨hRSg, hRSh, hSym, hSz⟩, hRCk, hRTa, hRSy, hRAv, hRMd⟩, hCn, hL, hT, hb⟩ := hR
  exact q_find hL.2.1.1 hRPl
theorem lc_15 (H : II L i m) (hi : i ≤ 64) : LC_15 (II L (i + 1)) m := by
  unfold LC_15
  intro a b
  refine ii_ask H (fun q h => fr_fM_pointAt h) (by decide +kernel) (by decide +kernel) (by decide +kernel) (fun q hq hR => ?_) hi
  obtain ⟨⟨hRTim, hRMch, ⟨hRPl, hRSt, hRRn, hRPo⟩, hROr, hRLn, hRAk, hRCu, ⟨hRLg, hROm, hRRm⟩, ⟨⟨hRIt, hRIr, hRCo, hRSx⟩, ⟨hREv, hRNt⟩, ⟨hRRw, hRBc, hRBx⟩⟩, hRRo, hRSp, hRLk, hRBg, ⟨hRSg, hRSh, hSym, hSz⟩, hRCk, hRTa, hRSy, hRAv, hRMd⟩, hCn, hL, hT, hb⟩ := hR
  exact q_pointAt hL.2.1.1 hRPo hRSt hRSp
theorem lc_17 (H : II L i m) (hi : i ≤ 64) : LC_17 (II L (i + 1)) m := by
  unfold LC_17
  refine ii_ask H (fun q h => fr_fM_read h) (by decide +kernel) (by decide +kernel) (by decide +kernel) (fun q hq hR => ?_) hi
  obtain ⟨⟨hRTim, hRMch, ⟨hRPl, hRSt, hRRn, hRPo⟩, hROr, hRLn, hRAk, hRCu, ⟨hRLg, hROm, hRRm⟩, ⟨⟨hRIt, hRIr, hRCo, hRSx⟩, ⟨hREv, hRNt⟩, ⟨hRRw, hRBc, hRBx⟩⟩, hRRo, hRSp, hRLk, hRBg, ⟨hRSg, hRSh, hSym, hSz⟩, hRCk, hRTa, hRSy, hRAv, hRMd⟩, hCn, hL, hT, hb⟩ := hR
  exact q_read hL.2.1.1 ⟨hRSg, hRSh, hSym, hSz⟩
theorem lc_18 (H : II L i m) (hi : i ≤ 64) : LC_18 (II L (i + 1)) m := by
  unfold LC_18
  intro a b
  refine ii_ask H (fun q h => fr_fM_textLine h) (by decide +kernel) (by decide +kernel) (by decide +kernel) (fun q hq hR => ?_) hi
  obtain ⟨⟨hRTim, hRMch, ⟨hRPl, hRSt, hRRn, hRPo⟩, hROr, hRLn, hRAk, hRCu, ⟨hRLg, hROm, hRRm⟩, ⟨⟨hRIt, hRIr, hRCo, hRSx⟩, ⟨hREv, hRNt⟩, ⟨hRRw, hRBc, hRBx⟩⟩, hRRo, hRSp, hRLk, hRBg, ⟨hRSg, hRSh, hSym, hSz⟩, hRCk, hRTa, hRSy, hRAv, hRMd⟩, hCn, hL, hT, hb⟩ := hR
  exact q_textLine hL.2.1.1 hRSh
theorem lc_19 (H : II L i m) (hi : i ≤ 64) : LC_19 (II L (i + 1)) m := by
  unfold LC_19
  intro a b c
  refine ii_ask H (fun q h => fr_fM_sign h) (by decide +kernel) (by decide +kernel) (by decide +kernel) (fun q hq hR => ?_) hi
  obtain ⟨⟨hRTim, hRMch, ⟨hRPl, hRSt, hRRn, hRPo⟩, hROr, hRLn, hRAk, hRCu, ⟨hRLg, hROm, hRRm⟩, ⟨⟨hRIt, hRIr, hRCo, hRSx⟩, ⟨hREv, hRNt⟩, ⟨hRRw, hRBc, hRBx⟩⟩, hRRo, hRSp, hRLk, hRBg, ⟨hRSg, hRSh, hSym, hSz⟩, hRCk, hRTa, hRSy, hRAv, hRMd⟩, hCn, hL, hT, hb⟩ := hR
  exact q_sign hL.2.1.1 hRSh hSym
theorem lc_28 (H : II L i m) (hi : i ≤ 64) : LC_28 (II L (i + 1)) m := by
  unfold LC_28
  refine ii_ask H (fun q h => fr_fM_mended h) (by decide +kernel) (by decide +kernel) (by decide +kernel) (fun q hq hR => ?_) hi
  obtain ⟨⟨hRTim, hRMch, ⟨hRPl, hRSt, hRRn, hRPo⟩, hROr, hRLn, hRAk, hRCu, ⟨hRLg, hROm, hRRm⟩, ⟨⟨hRIt, hRIr, hRCo, hRSx⟩, ⟨hREv, hRNt⟩, ⟨hRRw, hRBc, hRBx⟩⟩, hRRo, hRSp, hRLk, hRBg, ⟨hRSg, hRSh, hSym, hSz⟩, hRCk, hRTa, hRSy, hRAv, hRMd⟩, hCn, hL, hT, hb⟩ := hR
  exact q_mended hL.2.1.1 hRMd
theorem lc_33 (H : II L i m) (hi : i ≤ 64) : LC_33 (II L (i + 1)) m := by
  unfold LC_33
  intro a b
  refine ii_ask H (fun q h => fr_fM_stop h) (by decide +kernel) (by decide +kernel) (by decide +kernel) (fun q hq hR => ?_) hi
  obtain ⟨⟨hRTim, hRMch, ⟨hRPl, hRSt, hRRn, hRPo⟩, hROr, hRLn, hRAk, hRCu, ⟨hRLg, hROm, hRRm⟩, ⟨⟨hRIt, hRIr, hRCo, hRSx⟩, ⟨hREv, hRNt⟩, ⟨hRRw, hRBc, hRBx⟩⟩, hRRo, hRSp, hRLk, hRBg, ⟨hRSg, hRSh, hSym, hSz⟩, hRCk, hRTa, hRSy, hRAv, hRMd⟩, hCn, hL, hT, hb⟩ := hR
  exact q_stop hL.2.1.1 hRPo hRRo hRSp
theorem lc_35 (H : II L i m) (hi : i ≤ 64) : LC_35 (II L (i + 1)) m := by
  unfold LC_35
  refine ii_ask H (fun q h => fr_fM_passes h) (by decide +kernel) (by decide +kernel) (by decide +kernel) (fun q hq hR => ?_) hi
  obtain ⟨⟨hRTim, hRMch, ⟨hRPl, hRSt, hRRn, hRPo⟩, hROr, hRLn, hRAk, hRCu, ⟨hRLg, hROm, hRRm⟩, ⟨⟨hRIt, hRIr, hRCo, hRSx⟩, ⟨hREv, hRNt⟩, ⟨hRRw, hRBc, hRBx⟩⟩, hRRo, hRSp, hRLk, hRBg, ⟨hRSg, hRSh, hSym, hSz⟩, hRCk, hRTa, hRSy, hRAv, hRMd⟩, hCn, hL, hT, hb⟩ := hR
  exact q_passes hL.2.1.1 hRSy
theorem lc_36 (H : II L i m) (hi : i ≤ 64) : LC_36 (II L (i + 1)) m := by
  unfold LC_36
  intro a
  refine ii_ask H (fun q h => fr_fM_wrong h) (by decide +kernel) (by decide +kernel) (by decide +kernel) (fun q hq hR => ?_) hi
  obtain ⟨⟨hRTim, hRMch, ⟨hRPl, hRSt, hRRn, hRPo⟩, hROr, hRLn, hRAk, hRCu, ⟨hRLg, hROm, hRRm⟩, ⟨⟨hRIt, hRIr, hRCo, hRSx⟩, ⟨hREv, hRNt⟩, ⟨hRRw, hRBc, hRBx⟩⟩, hRRo, hRSp, hRLk, hRBg, ⟨hRSg, hRSh, hSym, hSz⟩, hRCk, hRTa, hRSy, hRAv, hRMd⟩, hCn, hL, hT, hb⟩ := hR
  exact q_wrong hL.2.1.1 hRSy hRIt
theorem lc_37 (H : II L i m) (hi : i ≤ 64) : LC_37 (II L (i + 1)) m := by
  unfold LC_37
  intro a b
  refine ii_ask H (fun q h => fr_fM_row h) (by decide +kernel) (by decide +kernel) (by decide +kernel) (fun q hq hR => ?_) hi
  obtain ⟨⟨hRTim, hRMch, ⟨hRPl, hRSt, hRRn, hRPo⟩, hROr, hRLn, hRAk, hRCu, ⟨hRLg, hROm, hRRm⟩, ⟨⟨hRIt, hRIr, hRCo, hRSx⟩, ⟨hREv, hRNt⟩, ⟨hRRw, hRBc, hRBx⟩⟩, hRRo, hRSp, hRLk, hRBg, ⟨hRSg, hRSh, hSym, hSz⟩, hRCk, hRTa, hRSy, hRAv, hRMd⟩, hCn, hL, hT, hb⟩ := hR
  exact q_row hL.2.1.1 hRRw hRRo hRIt
theorem lc_45 (H : II L i m) (hi : i ≤ 64) : LC_45 (II L (i + 1)) m := by
  unfold LC_45
  intro a b
  refine ii_ask H (fun q h => fr_fM_bagAt h) (by decide +kernel) (by decide +kernel) (by decide +kernel) (fun q hq hR => ?_) hi
  obtain ⟨⟨hRTim, hRMch, ⟨hRPl, hRSt, hRRn, hRPo⟩, hROr, hRLn, hRAk, hRCu, ⟨hRLg, hROm, hRRm⟩, ⟨⟨hRIt, hRIr, hRCo, hRSx⟩, ⟨hREv, hRNt⟩, ⟨hRRw, hRBc, hRBx⟩⟩, hRRo, hRSp, hRLk, hRBg, ⟨hRSg, hRSh, hSym, hSz⟩, hRCk, hRTa, hRSy, hRAv, hRMd⟩, hCn, hL, hT, hb⟩ := hR
  exact q_bagAt hL.2.1.1 hRBg hRBc hRIt
theorem lc_57 (H : II L i m) (hi : i ≤ 64) : LC_57 (II L (i + 1)) m := by
  unfold LC_57
  intro a b
  refine ii_ask H (fun q h => fr_fM_entry h) (by decide +kernel) (by decide +kernel) (by decide +kernel) (fun q hq hR => ?_) hi
  obtain ⟨⟨hRTim, hRMch, ⟨hRPl, hRSt, hRRn, hRPo⟩, hROr, hRLn, hRAk, hRCu, ⟨hRLg, hROm, hRRm⟩, ⟨⟨hRIt, hRIr, hRCo, hRSx⟩, ⟨hREv, hRNt⟩, ⟨hRRw, hRBc, hRBx⟩⟩, hRRo, hRSp, hRLk, hRBg, ⟨hRSg, hRSh, hSym, hSz⟩, hRCk, hRTa, hRSy, hRAv, hRMd⟩, hCn, hL, hT, hb⟩ := hR
  exact q_entry hL.2.1.1 hRLg
theorem lc_59 (H : II L i m) (hi : i ≤ 64) : LC_59 (II L (i + 1)) m := by
  unfold LC_59
  intro a
  refine ii_ask H (fun q h => fr_fM_price h) (by decide +kernel) (by decide +kernel) (by decide +kernel) (fun q hq hR => ?_) hi
  obtain ⟨⟨hRTim, hRMch, ⟨hRPl, hRSt, hRRn, hRPo⟩, hROr, hRLn, hRAk, hRCu, ⟨hRLg, hROm, hRRm⟩, ⟨⟨hRIt, hRIr, hRCo, hRSx⟩, ⟨hREv, hRNt⟩, ⟨hRRw, hRBc, hRBx⟩⟩, hRRo, hRSp, hRLk, hRBg, ⟨hRSg, hRSh, hSym, hSz⟩, hRCk, hRTa, hRSy, hRAv, hRMd⟩, hCn, hL, hT, hb⟩ := hR
  exact q_price hL.2.1.1 hRTa hRIt
theorem lc_63 (H : II L i m) (hi : i ≤ 64) : LC_63 (II L (i + 1)) m := by
  unfold LC_63
  intro a b
  refine ii_ask H (fun q h => fr_fM_orderAt h) (by decide +kernel) (by decide +kernel) (by decide +kernel) (fun q hq hR => ?_) hi
  obtain ⟨⟨hRTim, hRMch, ⟨hRPl, hRSt, hRRn, hRPo⟩, hROr, hRLn, hRAk, hRCu, ⟨hRLg, hROm, hRRm⟩, ⟨⟨hRIt, hRIr, hRCo, hRSx⟩, ⟨hREv, hRNt⟩, ⟨hRRw, hRBc, hRBx⟩⟩, hRRo, hRSp, hRLk, hRBg, ⟨hRSg, hRSh, hSym, hSz⟩, hRCk, hRTa, hRSy, hRAv, hRMd⟩, hCn, hL, hT, hb⟩ := hR
  exact q_orderAt hL.2.1.1 hROm
theorem lc_66 (H : II L i m) (hi : i ≤ 64) : LC_66 (II L (i + 1)) m := by
  unfold LC_66
  intro a b
  refine ii_ask H (fun q h => fr_fM_lockerAt h) (by decide +kernel) (by decide +kernel) (by decide +kernel) (fun q hq hR => ?_) hi
  obtain ⟨⟨hRTim, hRMch, ⟨hRPl, hRSt, hRRn, hRPo⟩, hROr, hRLn, hRAk, hRCu, ⟨hRLg, hROm, hRRm⟩, ⟨⟨hRIt, hRIr, hRCo, hRSx⟩, ⟨hREv, hRNt⟩, ⟨hRRw, hRBc, hRBx⟩⟩, hRRo, hRSp, hRLk, hRBg, ⟨hRSg, hRSh, hSym, hSz⟩, hRCk, hRTa, hRSy, hRAv, hRMd⟩, hCn, hL, hT, hb⟩ := hR
  exact q_lockerAt hL.2.1.1 hRLk hRBx hRIt
theorem lc_69 (H : II L i m) (hi : i ≤ 64) : LC_69 (II L (i + 1)) m := by
  unfold LC_69
  intro a b c
  refine ii_ask H (fun q h => fr_fM_trace h) (by decide +kernel) (by decide +kernel) (by decide +kernel) (fun q hq hR => ?_) hi
  obtain ⟨⟨hRTim, hRMch, ⟨hRPl, hRSt, hRRn, hRPo⟩, hROr, hRLn, hRAk, hRCu, ⟨hRLg, hROm, hRRm⟩, ⟨⟨hRIt, hRIr, hRCo, hRSx⟩, ⟨hREv, hRNt⟩, ⟨hRRw, hRBc, hRBx⟩⟩, hRRo, hRSp, hRLk, hRBg, ⟨hRSg, hRSh, hSym, hSz⟩, hRCk, hRTa, hRSy, hRAv, hRMd⟩, hCn, hL, hT, hb⟩ := hR
  exact q_trace hL.2.1.1 hREv hRIt
theorem lc_71 (H : II L i m) (hi : i ≤ 64) : LC_71 (II L (i + 1)) m := by
  unfold LC_71
  intro a b
  refine ii_ask H (fun q h => fr_fM_notice h) (by decide +kernel) (by decide +kernel) (by decide +kernel) (fun q hq hR => ?_) hi
  obtain ⟨⟨hRTim, hRMch, ⟨hRPl, hRSt, hRRn, hRPo⟩, hROr, hRLn, hRAk, hRCu, ⟨hRLg, hROm, hRRm⟩, ⟨⟨hRIt, hRIr, hRCo, hRSx⟩, ⟨hREv, hRNt⟩, ⟨hRRw, hRBc, hRBx⟩⟩, hRRo, hRSp, hRLk, hRBg, ⟨hRSg, hRSh, hSym, hSz⟩, hRCk, hRTa, hRSy, hRAv, hRMd⟩, hCn, hL, hT, hb⟩ := hR
  exact q_notice hL.2.1.1 hRNt hRIt
theorem lc_73 (H : II L i m) (hi : i ≤ 64) : LC_73 (II L (i + 1)) m := by
  unfold LC_73
  refine ii_ask H (fun q h => fr_fM_now h) (by decide +kernel) (by decide +kernel) (by decide +kernel) (fun q hq hR => ?_) hi
  obtain ⟨⟨hRTim, hRMch, ⟨hRPl, hRSt, hRRn, hRPo⟩, hROr, hRLn, hRAk, hRCu, ⟨hRLg, hROm, hRRm⟩, ⟨⟨hRIt, hRIr, hRCo, hRSx⟩, ⟨hREv, hRNt⟩, ⟨hRRw, hRBc, hRBx⟩⟩, hRRo, hRSp, hRLk, hRBg, ⟨hRSg, hRSh, hSym, hSz⟩, hRCk, hRTa, hRSy, hRAv, hRMd⟩, hCn, hL, hT, hb⟩ := hR
  exact q_now hL.2.1.1 hRTim
theorem lc_8 (H : II L i m) (hi : i ≤ 64) : LC_8 (II L (i + 1)) m := by
  unfold LC_8
  intro a
  exact ii_ask H (fun q h => fr_fM_count h) (by decide +kernel) (by decide +kernel) (by decide +kernel) (fun q hq hR => q_count hR) hi
theorem lc_56 (H : II L i m) (hi : i ≤ 64) : LC_56 (II L (i + 1)) m := by
  unfold LC_56
  intro a
  have h := ii_ask (fc := fPH_balance m a) (fm := fM_balance m a) H (fun q h => fr_fM_balance h) (by decide +kernel) (by decide +kernel) (by decide +kernel) (fun q hq hR => by
    obtain ⟨⟨hRTim, hRMch, ⟨hRPl, hRSt, hRRn, hRPo⟩, hROr, hRLn, hRAk, hRCu, ⟨hRLg, hROm, hRRm⟩, ⟨⟨hRIt, hRIr, hRCo, hRSx⟩, ⟨hREv, hRNt⟩, ⟨hRRw, hRBc, hRBx⟩⟩, hRRo, hRSp, hRLk, hRBg, ⟨hRSg, hRSh, hSym, hSz⟩, hRCk, hRTa, hRSy, hRAv, hRMd⟩, hCn, hL, hT, hb⟩ := hR
    exact q_balance hL.2.1.1 hRLg hRCu) hi
  exact h.mono fun x hx => hx.mono fun z hz => ⟨by rw [hz.1]; exact lgc_self _, hz.2⟩
theorem lc_12 (H : II L i m) (hi : i ≤ 64) : LC_12 (II L (i + 1)) m := by
  unfold LC_12
  intro a b
  refine ii_mem H hi (fun q h => fr_fPH_effective h) (fun z q h => fr_fM_effective h) (by decide +kernel) (by decide +kernel) (by decide +kernel) (by decide +kernel) (by decide +kernel) (by decide +kernel) (by decide +kernel) (fun q t hq hR => ?_)
  obtain ⟨⟨hRTim, hRMch, ⟨hRPl, hRSt, hRRn, hRPo⟩, hROr, hRLn, hRAk, hRCu, ⟨hRLg, hROm, hRRm⟩, ⟨⟨hRIt, hRIr, hRCo, hRSx⟩, ⟨hREv, hRNt⟩, ⟨hRRw, hRBc, hRBx⟩⟩, hRRo, hRSp, hRLk, hRBg, ⟨hRSg, hRSh, hSym, hSz⟩, hRCk, hRTa, hRSy, hRAv, hRMd⟩, hCn, hL, hT, hb⟩ := hR
  have h := q_effective (a := a) (b := b) hL.2.1.1 (by omega) hRAk hRPo hROr hRTim
  exact h.mono fun x hx => hx.mono fun z hz => ⟨hz.1, RAk.mono hz.2 (by omega)⟩
theorem lc_13 (H : II L i m) (hi : i ≤ 64) : LC_13 (II L (i + 1)) m := by
  unfold LC_13
  intro a b
  refine ii_mem H hi (fun q h => fr_fPH_lastPoint h) (fun z q h => fr_fM_lastPoint h) (by decide +kernel) (by decide +kernel) (by decide +kernel) (by decide +kernel) (by decide +kernel) (by decide +kernel) (by decide +kernel) (fun q t hq hR => ?_)
  obtain ⟨⟨hRTim, hRMch, ⟨hRPl, hRSt, hRRn, hRPo⟩, hROr, hRLn, hRAk, hRCu, ⟨hRLg, hROm, hRRm⟩, ⟨⟨hRIt, hRIr, hRCo, hRSx⟩, ⟨hREv, hRNt⟩, ⟨hRRw, hRBc, hRBx⟩⟩, hRRo, hRSp, hRLk, hRBg, ⟨hRSg, hRSh, hSym, hSz⟩, hRCk, hRTa, hRSy, hRAv, hRMd⟩, hCn, hL, hT, hb⟩ := hR
  have h := q_lastPoint (a := a) (b := b) hL.2.1.1 (by omega) hRAk hRPo hROr hRTim
  exact h.mono fun x hx => hx.mono fun z hz => ⟨hz.1, RAk.mono hz.2 (by omega)⟩
theorem lc_25 (H : II L i m) (hi : i ≤ 64) : LC_25 (II L (i + 1)) m := by
  unfold LC_25
  intro a b
  refine ii_mem H hi (fun q h => fr_fPH_about h) (fun z q h => fr_fM_about h) (by decide +kernel) (by decide +kernel) (by decide +kernel) (by decide +kernel) (by decide +kernel) (by decide +kernel) (by decide +kernel) (fun q t hq hR => ?_)
  obtain ⟨⟨hRTim, hRMch, ⟨hRPl, hRSt, hRRn, hRPo⟩, hROr, hRLn, hRAk, hRCu, ⟨hRLg, hROm, hRRm⟩, ⟨⟨hRIt, hRIr, hRCo, hRSx⟩, ⟨hREv, hRNt⟩, ⟨hRRw, hRBc, hRBx⟩⟩, hRRo, hRSp, hRLk, hRBg, ⟨hRSg, hRSh, hSym, hSz⟩, hRCk, hRTa, hRSy, hRAv, hRMd⟩, hCn, hL, hT, hb⟩ := hR
  have h := q_about (a := a) (b := b) hL.2.1.1 (by omega) hRAk hRPo hROr hRTim hRIt hRIr hRCu hRTa
  exact h.mono fun x hx => hx.mono fun z hz => ⟨hz.1, RAk.mono hz.2 (by omega)⟩
theorem lc_26 (H : II L i m) (hi : i ≤ 64) : LC_26 (II L (i + 1)) m := by
  unfold LC_26
  intro a b
  refine ii_mem H hi (fun q h => fr_fPH_bar h) (fun z q h => fr_fM_bar h) (by decide +kernel) (by decide +kernel) (by decide +kernel) (by decide +kernel) (by decide +kernel) (by decide +kernel) (by decide +kernel) (fun q t hq hR => ?_)
  obtain ⟨⟨hRTim, hRMch, ⟨hRPl, hRSt, hRRn, hRPo⟩, hROr, hRLn, hRAk, hRCu, ⟨hRLg, hROm, hRRm⟩, ⟨⟨hRIt, hRIr, hRCo, hRSx⟩, ⟨hREv, hRNt⟩, ⟨hRRw, hRBc, hRBx⟩⟩, hRRo, hRSp, hRLk, hRBg, ⟨hRSg, hRSh, hSym, hSz⟩, hRCk, hRTa, hRSy, hRAv, hRMd⟩, hCn, hL, hT, hb⟩ := hR
  obtain ⟨x, ex, z, ez, e⟩ := q_bar (a := a) (b := b) hL.2.1.1 hCn hRIt hRPo.1.2.2
  exact ⟨x, ex, z, ez, e, RAk.mono (hRAk.keep (fr_fPH_bar ex) (fr_fM_bar ez) (by decide +kernel) (by decide +kernel)) (by omega)⟩
theorem lc_46 (H : II L i m) (hi : i ≤ 64) : LC_46 (II L (i + 1)) m := by
  unfold LC_46
  intro a b c
  refine ii_mem H hi (fun q h => fr_fPH_way h) (fun z q h => fr_fM_way h) (by decide +kernel) (by decide +kernel) (by decide +kernel) (by decide +kernel) (by decide +kernel) (by decide +kernel) (by decide +kernel) (fun q t hq hR => ?_)
  obtain ⟨⟨hRTim, hRMch, ⟨hRPl, hRSt, hRRn, hRPo⟩, hROr, hRLn, hRAk, hRCu, ⟨hRLg, hROm, hRRm⟩, ⟨⟨hRIt, hRIr, hRCo, hRSx⟩, ⟨hREv, hRNt⟩, ⟨hRRw, hRBc, hRBx⟩⟩, hRRo, hRSp, hRLk, hRBg, ⟨hRSg, hRSh, hSym, hSz⟩, hRCk, hRTa, hRSy, hRAv, hRMd⟩, hCn, hL, hT, hb⟩ := hR
  obtain ⟨x, ex, z, ez, e⟩ := q_way (a := a) (b := b) (c := c) hL.2.1.1 (RLn.toRLw hRLn) hRTim hRPl (by omega)
  exact ⟨x, ex, z, ez, e, RAk.mono (hRAk.keep (fr_fPH_way ex) (fr_fM_way ez) (by decide +kernel) (by decide +kernel)) (by omega)⟩
theorem lc_74 (H : II L i m) (hi : i ≤ 64) : LC_74 (II L (i + 1)) m := by
  unfold LC_74
  refine ii_mem H hi (fun q h => fr_fPH_audit h) (fun z q h => fr_fM_audit h) (by decide +kernel) (by decide +kernel) (by decide +kernel) (by decide +kernel) (by decide +kernel) (by decide +kernel) (by decide +kernel) (fun q t hq hR => ?_)
  obtain ⟨⟨hRTim, hRMch, ⟨hRPl, hRSt, hRRn, hRPo⟩, hROr, hRLn, hRAk, hRCu, ⟨hRLg, hROm, hRRm⟩, ⟨⟨hRIt, hRIr, hRCo, hRSx⟩, ⟨hREv, hRNt⟩, ⟨hRRw, hRBc, hRBx⟩⟩, hRRo, hRSp, hRLk, hRBg, ⟨hRSg, hRSh, hSym, hSz⟩, hRCk, hRTa, hRSy, hRAv, hRMd⟩, hCn, hL, hT, hb⟩ := hR
  obtain ⟨x, ex, z, ez, e⟩ := q_audit hL.2.1.1 hRLg hRCu hRLn hRBg hRAv hRIt hRSx hRIr hRRo hRLk ⟨hRRw, hRBc, hRBx⟩
  exact ⟨x, ex, z, ez, e, RAk.mono (hRAk.keep (fr_fPH_audit ex) (fr_fM_audit ez) (by decide +kernel) (by decide +kernel)) (by omega)⟩
end
