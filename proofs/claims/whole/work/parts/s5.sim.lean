/-! ===== LEVEL 3: the calls feed, end, cut, octet, poke, scan ===== -/
def RHd_C : List (Nat × Nat) := RTim_C ++ RMch_C ++ RPl_C ++ RSt_C ++ RRn_C ++ RPo_C ++ ROr_C ++ RLn_C ++ RAk_C ++ RCu_C ++ RLg_C ++ ROm_C ++ RRm_C ++ RIt_C ++ RIr_C ++ RCo_C ++ RSx_C ++ REv_C ++ RNt_C ++ RRw_C ++ RBc_C ++ RBx_C ++ RRo_C ++ RSp_C ++ RLk_C ++ RBg_C ++ RSg_C ++ RSh_C ++ Sym_C ++ RCk_C ++ RTa_C ++ RSy_C ++ RAv_C
def RHd_M : List (Nat × Nat) := RTim_M ++ RMch_M ++ RPl_M ++ RSt_M ++ RRn_M ++ RPo_M ++ ROr_M ++ RLn_M ++ RAk_M ++ RCu_M ++ RLg_M ++ ROm_M ++ RRm_M ++ RIt_M ++ RIr_M ++ RCo_M ++ RSx_M ++ REv_M ++ RNt_M ++ RRw_M ++ RBc_M ++ RBx_M ++ RRo_M ++ RSp_M ++ RLk_M ++ RBg_M ++ RSg_M ++ RSh_M ++ Sym_M ++ RCk_M ++ RTa_M ++ RSy_M ++ RAv_M
theorem RH.keepD {q : Nat} {s t s' t' : ev_M} {F G : List (Nat × (Nat × Nat))} (H : RH q s t) (hs : fr F s s') (ht : fr G t t') (d1 : nof F RHd_C = true) (d2 : nof G RHd_M = true) (md : RMd s' t') : RH q s' t' := by
  obtain ⟨hRTim, hRMch, ⟨hRPl, hRSt, hRRn, hRPo⟩, hROr, hRLn, hRAk, hRCu, ⟨hRLg, hROm, hRRm⟩, ⟨⟨hRIt, hRIr, hRCo, hRSx⟩, ⟨hREv, hRNt⟩, ⟨hRRw, hRBc, hRBx⟩⟩, hRRo, hRSp, hRLk, hRBg, ⟨hRSg, hRSh, hSym, hSz⟩, hRCk, hRTa, hRSy, hRAv, hRMd⟩ := H
  exact ⟨(hRTim.keep hs ht (nof_sub d1 (by decide +kernel)) (nof_sub d2 (by decide +kernel))), (hRMch.keep hs ht (nof_sub d1 (by decide +kernel)) (nof_sub d2 (by decide +kernel))), ⟨(hRPl.keep hs ht (nof_sub d1 (by decide +kernel)) (nof_sub d2 (by decide +kernel))), (hRSt.keep hs ht (nof_sub d1 (by decide +kernel)) (nof_sub d2 (by decide +kernel))), (hRRn.keep hs ht (nof_sub d1 (by decide +kernel)) (nof_sub d2 (by decide +kernel))), (hRPo.keep hs ht (nof_sub d1 (by decide +kernel)) (nof_sub d2 (by decide +kernel)))⟩, (hROr.keep hs ht (nof_sub d1 (by decide +kernel)) (nof_sub d2 (by decide +kernel))), (hRLn.keep hs ht (nof_sub d1 (by decide +kernel)) (nof_sub d2 (by decide +kernel))), (hRAk.keep hs ht (nof_sub d1 (by decide +kernel)) (nof_sub d2 (by decide +kernel))), (hRCu.keep hs ht (nof_sub d1 (by decide +kernel)) (nof_sub d2 (by decide +kernel))), ⟨(hRLg.keep hs ht (nof_sub d1 (by decide +kernel)) (nof_sub d2 (by decide +kernel))), (hROm.keep hs ht (nof_sub d1 (by decide +kernel)) (nof_sub d2 (by decide +kernel))), (hRRm.keep hs ht (nof_sub d1 (by decide +kernel)) (nof_sub d2 (by decide +kernel)))⟩, ⟨⟨(hRIt.keep hs ht (nof_sub d1 (by decide +kernel)) (nof_sub d2 (by decide +kernel))), (hRIr.keep hs ht (nof_sub d1 (by decide +kernel)) (nof_sub d2 (by decide +kernel))), (hRCo.keep hs ht (nof_sub d1 (by decide +kernel)) (nof_sub d2 (by decide +kernel))), (hRSx.keep hs ht (nof_sub d1 (by decide +kernel)) (nof_sub d2 (by decide +kernel)))⟩, ⟨(hREv.keep hs ht (nof_sub d1 (by decide +kernel)) (nof_sub d2 (by decide +kernel))), (hRNt.keep hs ht (nof_sub d1 (by decide +kernel)) (nof_sub d2 (by decide +kernel)))⟩, ⟨(hRRw.keep hs ht (nof_sub d1 (by decide +kernel)) (nof_sub d2 (by decide +kernel))), (hRBc.keep hs ht (nof_sub d1 (by decide +kernel)) (nof_sub d2 (by decide +kernel))), (hRBx.keep hs ht (nof_sub d1 (by decide +kernel)) (nof_sub d2 (by decide +kernel)))⟩⟩, (hRRo.keep hs ht (nof_sub d1 (by decide +kernel)) (nof_sub d2 (by decide +kernel))), (hRSp.keep hs ht (nof_sub d1 (by decide +kernel)) (nof_sub d2 (by decide +kernel))), (hRLk.keep hs ht (nof_sub d1 (by decide +kernel)) (nof_sub d2 (by decide +kernel))), (hRBg.keep hs ht (nof_sub d1 (by decide +kernel)) (nof_sub d2 (by decide +kernel))), ⟨(hRSg.keep hs ht (nof_sub d1 (by decide +kernel)) (nof_sub d2 (by decide +kernel))), (hRSh.keep hs ht (nof_sub d1 (by decide +kernel)) (nof_sub d2 (by decide +kernel))), (hSym.keep hs ht (nof_sub d1 (by decide +kernel)) (nof_sub d2 (by decide +kernel))), (by rw [(nof_s hs (L := [(52, 3), (52, 4)]) (nof_sub d1 (by decide +kernel)) (c := 52) (k := 2) rfl).1, (nof_s hs (L := [(52, 3), (52, 4)]) (nof_sub d1 (by decide +kernel)) (c := 52) (k := 3) rfl).1]; exact hSz)⟩, (hRCk.keep hs ht (nof_sub d1 (by decide +kernel)) (nof_sub d2 (by decide +kernel))), (hRTa.keep hs ht (nof_sub d1 (by decide +kernel)) (nof_sub d2 (by decide +kernel))), (hRSy.keep hs ht (nof_sub d1 (by decide +kernel)) (nof_sub d2 (by decide +kernel))), (hRAv.keep hs ht (nof_sub d1 (by decide +kernel)) (nof_sub d2 (by decide +kernel))), md⟩
theorem RH.ctr {q : Nat} {a : Nat → Nat → Int32} {b : Nat → Nat → Int64} {c c' : Nat × ((Nat → Nat → Bool) × (Nat × Nat))} (H : RH q (a, (b, c)) (a, (b, c))) : RH q (a, (b, c')) (a, (b, c')) := by
  obtain ⟨hRTim, hRMch, ⟨hRPl, hRSt, hRRn, hRPo⟩, hROr, hRLn, hRAk, hRCu, ⟨hRLg, hROm, hRRm⟩, ⟨⟨hRIt, hRIr, hRCo, hRSx⟩, ⟨hREv, hRNt⟩, ⟨hRRw, hRBc, hRBx⟩⟩, hRRo, hRSp, hRLk, hRBg, ⟨hRSg, hRSh, hSym, hSz⟩, hRCk, hRTa, hRSy, hRAv, hRMd⟩ := H
  refine ⟨hRTim, hRMch, ⟨hRPl, hRSt, hRRn, hRPo⟩, hROr, hRLn, hRAk, hRCu, ⟨hRLg, hROm, hRRm⟩, ⟨⟨hRIt, hRIr, hRCo, hRSx⟩, ⟨hREv, hRNt⟩, ⟨hRRw, hRBc, hRBx⟩⟩, hRRo, hRSp, hRLk, hRBg, ⟨hRSg, ?_, hSym, hSz⟩, hRCk, hRTa, hRSy, hRAv, hRMd⟩
  have en : ∀ x y z, fSheet_nearest (a, (b, c')) x y z = fSheet_nearest (a, (b, c)) x y z := ne_ct rfl
  unfold RSh at hRSh ⊢
  simp only [en]
  exact hRSh
/-- the rest of what a frame of X leaves -/
theorem frX.f {F : List (Nat × (Nat × Nat))} {m z : ev_M} (h : frX F m z) : fr F m (z.1, (z.2.1, m.2.2)) := ⟨h.1, rfl⟩
def LX : List (Nat × Nat) := [(9, 0), (10, 0), (11, 0), (13, 0), (1003, 0), (551, 0), (552, 0), (555, 0), (549, 5), (549, 6), (549, 7), (549, 8), (549, 10), (549, 11)]
theorem RLog.keepX {F : List (Nat × (Nat × Nat))} {m z : ev_M} (h : RLog m m) (hf : ∀ c k, inF F c k = false → z.1 c k = m.1 c k ∧ z.2.1 c k = m.2.1 c k) (n : nof F LX = true) : RLog z z := by
  have f : fr F (m.1, (m.2.1, z.2.2)) z := ⟨hf, rfl⟩
  refine RLog_of h (fun c a b d k _ => ?_) (nof_c f n (c := 1003) rfl).1 (fun k hk => ?_) (nof_c f n (c := 551) rfl).1 (nof_c f n (c := 552) rfl).1 (nof_c f n (c := 555) rfl).1
  · obtain rfl | rfl | rfl | rfl : c = 9 ∨ c = 10 ∨ c = 11 ∨ c = 13 := by omega
    · exact congrFun (nof_c f n (c := 9) rfl).1 k
    · exact congrFun (nof_c f n (c := 10) rfl).1 k
    · exact congrFun (nof_c f n (c := 11) rfl).1 k
    · exact congrFun (nof_c f n (c := 13) rfl).1 k
  · rcases hk with rfl | rfl | rfl | rfl | rfl | rfl
    · exact (nof_s f n (c := 549) (k := 4) rfl).1
    · exact (nof_s f n (c := 549) (k := 5) rfl).1
    · exact (nof_s f n (c := 549) (k := 6) rfl).1
    · exact (nof_s f n (c := 549) (k := 7) rfl).1
    · exact (nof_s f n (c := 549) (k := 9) rfl).1
    · exact (nof_s f n (c := 549) (k := 10) rfl).1
def LD : List (Nat × Nat) := [(9, 5), (9, 7), (9, 8), (9, 10), (9, 13), (13, 0), (1003, 0), (552, 0), (549, 5), (549, 6), (549, 10), (549, 11)]
/-- … whose disk is given -/
theorem RLog.keepY {F : List (Nat × (Nat × Nat))} {m z : ev_M} (h : RLog m m) (hf : ∀ c k, inF F c k = false → z.1 c k = m.1 c k ∧ z.2.1 c k = m.2.1 c k) (n : nof F LD = true) (d : RDsk z z) : RLog z z := by
  have f : fr F (m.1, (m.2.1, z.2.2)) z := ⟨hf, rfl⟩
  obtain ⟨a1, a2, a3, a4, a5, a6, a7, a8⟩ := h
  have e3 : z.1 1003 = m.1 1003 := (nof_c f n (c := 1003) rfl).1
  have c4 : z.1 9 4 = m.1 9 4 := (nof_s f n (c := 9) (k := 4) rfl).1
  have c6 : z.1 9 6 = m.1 9 6 := (nof_s f n (c := 9) (k := 6) rfl).1
  have c7 : z.1 9 7 = m.1 9 7 := (nof_s f n (c := 9) (k := 7) rfl).1
  have c9 : z.1 9 9 = m.1 9 9 := (nof_s f n (c := 9) (k := 9) rfl).1
  have c12 : z.1 9 12 = m.1 9 12 := (nof_s f n (c := 9) (k := 12) rfl).1
  have m4 : z.1 549 4 = m.1 549 4 := (nof_s f n (c := 549) (k := 4) rfl).1
  have m5 : z.1 549 5 = m.1 549 5 := (nof_s f n (c := 549) (k := 5) rfl).1
  have m9 : z.1 549 9 = m.1 549 9 := (nof_s f n (c := 549) (k := 9) rfl).1
  have m10 : z.1 549 10 = m.1 549 10 := (nof_s f n (c := 549) (k := 10) rfl).1
  exact ⟨fun j hj => (congrFun e3 j).trans (a1 j hj), by rw [m5, c9]; exact a2, by rw [m4, c4]; exact a3, RWt_of a4 c6 (nof_c f n (c := 13) rfl).1 m9 (nof_c f n (c := 552) rfl).1, by rw [c6, c4]; exact a5, by rw [m10, c7]; exact a6, by rw [c12]; exact a7, d⟩
theorem II.X {L i : Nat} {m z : ev_M} {F : List (Nat × (Nat × Nat))} (H : II L i m) (h : frX F m z) (n0 : nof F SCR = true) (n1 : nof F (RH_C ++ Cn_C) = true) (n2 : nof F (RH_M ++ Cn_M) = true) (hL : RLog z z) (hT : RTap z.1 z.1) (hb : ∀ k, k < 4096 → i2b (z.1 2 k) = z.1 2 k) : II L (i + 1) z := by
  obtain ⟨q, q1, h1, h2, h3, h4, h5⟩ := H.1
  have f := h.f
  have a := h1.keep f f (nof_sub n1 (by decide +kernel)) (nof_sub n2 (by decide +kernel))
  have b := h2.keep f f (nof_sub n1 (by decide +kernel)) (nof_sub n2 (by decide +kernel))
  obtain ⟨z1, z2, z3⟩ := z
  exact H.of (h.p1 n0) ⟨q, by omega, a.ctr, b, hL, hT, hb⟩
theorem i2b_i (x : Int32) : i2b (i2b x) = i2b x := by
  unfold i2b
  rw [Int8.toInt8_toInt32]
theorem i2b_rg (x : Int32) : -128 ≤ (i2b x).toInt ∧ (i2b x).toInt ≤ 127 := by
  have e : (i2b x).toInt = (x.toInt8).toInt := by unfold i2b; rw [Int8.toInt_toInt32]
  rw [e]
  exact ⟨Int8.le_toInt _, by have := Int8.toInt_lt x.toInt8; omega⟩
def Byt (s : ev_M) : Prop := ∀ k, k < 4096 → i2b (s.1 2 k) = s.1 2 k
theorem app_by : ∀ (n : Nat) {s : ev_M} {w x : Int32} {y : ev_M}, fTape_append_1_h3 n s w x = some y → Byt s → Byt y
  | 0, s, w, x, y, h, b => by rw [fTape_append_1_h3] at h; cases h
  | n + 1, s, w, x, y, h, b => by
    rw [fTape_append_1_h3] at h
    by_cases z : x < 0
    · rw [if_pos z] at h; cases h; exact b
    rw [if_neg z] at h
    by_cases z2 : s.1 1 1 < cI 4096
    rotate_left
    · rw [if_neg z2] at h; cases h; exact b
    rw [if_pos z2, ltM_eq] at h
    by_cases z3 : inb (s.1 1 1) 4096 = true
    rotate_left
    · rw [if_neg z3] at h; cases h
    rw [if_pos z3, ltM_eq] at h
    refine app_by n h fun k hk => ?_
    rw [wI_c]
    by_cases e : k = ix (s.1 1 1)
    · rw [e, up1_eq, i2b_i]
    · rw [up1_ne e, wI_ne (by decide)]; exact b k hk
theorem feed_by {m : ev_M} {a b c d e : Int32} {x : ev_M × Int32} (h : fFeed m a b c d e = some x) (hb : Byt m) : Byt x.1 := by
  unfold fFeed at h
  by_cases z : cI 4096 < m.1 1 1 + cI 20
  · rw [if_pos z] at h; cases h; exact hb
  rw [if_neg z] at h
  obtain ⟨s1, g1, h⟩ := bd1_of h
  obtain ⟨s2, g2, h⟩ := bd1_of h
  obtain ⟨s3, g3, h⟩ := bd1_of h
  obtain ⟨s4, g4, h⟩ := bd1_of h
  obtain ⟨s5, g5, h⟩ := bd1_of h
  cases h
  have k : Byt s5 := app_by _ g5 (app_by _ g4 (app_by _ g3 (app_by _ g2 (app_by _ g1 hb))))
  intro j hj
  rw [show (wL s5 681 0 (s5.1 1 1).toInt64, cI 0).1.1 2 j = s5.1 2 j by rw [wL_1]]
  exact k j hj
theorem lc_0 {L i : Nat} {m : ev_M} (H : II L i m) : LC_0 (II L (i + 1)) m := by
  intro a b c d e
  obtain ⟨q, q1, h1, h2, h3, h4, h5⟩ := H.1
  obtain ⟨x, ex, s1, z, ez, e1, e2, f, t⟩ := g_feed h4 a b c d e
  refine ⟨x, ex, s1, z, ez, e1, e2, H.X f (by decide +kernel) (by decide +kernel) (by decide +kernel) (h3.keepX f.1 (by decide +kernel)) t fun k hk => ?_⟩
  rw [((fr_fM_feed ez).1 2 k rfl).1]
  exact feed_by ex h5 k hk
theorem lc_1 {L i : Nat} {m : ev_M} (H : II L i m) : LC_1 (II L (i + 1)) m := by
  intro a
  obtain ⟨q, q1, h1, h2, h3, h4, h5⟩ := H.1
  obtain ⟨x, ex, s1, z, ez, e1, f, t⟩ := g_end h4 a
  refine ⟨x, ex, s1, z, ez, e1, H.X f (by decide +kernel) (by decide +kernel) (by decide +kernel) (h3.keepX f.1 (by decide +kernel)) t fun k hk => ?_⟩
  rw [f.keep (L := [(2, 0)]) (by decide +kernel) (c := 2) rfl]
  exact h5 k hk
theorem RTap.keepX {F : List (Nat × (Nat × Nat))} {m z : ev_M} (h : RTap m.1 m.1) (hf : ∀ c k, inF F c k = false → z.1 c k = m.1 c k ∧ z.2.1 c k = m.2.1 c k) (n : nof F [(1, 2), (2, 0), (549, 3), (550, 0)] = true) : RTap z.1 z.1 := by
  have f : fr F (m.1, (m.2.1, z.2.2)) z := ⟨hf, rfl⟩
  have c1 : z.1 1 1 = m.1 1 1 := (nof_s f n (c := 1) (k := 1) rfl).1
  have c2 : z.1 2 = m.1 2 := (nof_c f n (c := 2) rfl).1
  have m2 : z.1 549 2 = m.1 549 2 := (nof_s f n (c := 549) (k := 2) rfl).1
  have m5 : z.1 550 = m.1 550 := (nof_c f n (c := 550) rfl).1
  unfold RTap at h ⊢
  rw [c1, c2, m2, m5]
  exact h
theorem lc_3 {L i : Nat} {m : ev_M} (H : II L i m) : LC_3 (II L (i + 1)) m := by
  intro a b
  obtain ⟨q, q1, h1, h2, h3, h4, h5⟩ := H.1
  obtain ⟨x, ex, s1, z, ez, e1, f, t⟩ := g_cut h3.2.1.1 a b
  have d := t h3.2.2.2.2.2.2.2
  refine ⟨x, ex, s1, z, ez, e1, H.X (frX.of f) (by decide +kernel) (by decide +kernel) (by decide +kernel) (h3.keepY f.1 (by decide +kernel) d) (h4.keepX f.1 (by decide +kernel)) fun k hk => ?_⟩
  rw [(f.1 2 k rfl).1]
  exact h5 k hk
theorem lc_6 {L i : Nat} {m : ev_M} (H : II L i m) : LC_6 (II L (i + 1)) m := by
  intro a b
  obtain ⟨q, q1, h1, h2, h3, h4, h5⟩ := H.1
  obtain ⟨x, ex, s1, z, ez, e1, e2, f⟩ := g_octet h3.2.2.2.2.2.2.2 a b
  refine ⟨x, ex, s1, z, ez, e1, e2, H.X f (by decide +kernel) (by decide +kernel) (by decide +kernel) (h3.keepX f.1 (by decide +kernel)) (h4.keepX f.1 (by decide +kernel)) fun k hk => ?_⟩
  rw [f.keep (L := [(2, 0)]) (by decide +kernel) (c := 2) rfl]
  exact h5 k hk
/-- the disk after poke -/
theorem d_poke {m : ev_M} (hd : RDsk m m) (a b c : Int32) : Ok (fPoke m a b c) fun x => Ok (fM_poke x.1 a b c) fun z => RDsk z.1 z.1 := by
  unfold fPoke
  rw [hasB, bd1_some]
  by_cases i : InR a (cI 1) (cI 150) ∧ InR b (cI 0) (cI 255)
  · obtain ⟨p1, p2, p3, p4⟩ := ad_pos i.1 i.2
    have e : (m.1 551 (ix (cI 256 * a + b))) = m.1 10 (ix ((a - cI 1) * cI 256 + b)) := by rw [p3]; exact hd.1 _ p4
    rw [bI_t i, if_neg (by decide)]
    unfold fLog_change
    rw [hasB, bd1_some, bI_t i, if_neg (by decide), if_pos p1, if_pos p1, ltM_eq]
    unfold fLog_change_b28 fLog_byteAt
    rw [hasB, bd1_some, bI_t i, if_neg (by decide), if_pos p1, bd1_some, bd2_some, ok_some]
    generalize hv : i2b (i2b (m.1 10 (ix ((a - cI 1) * cI 256 + b)) ^^^ i2b c)) = v
    generalize hp : ix ((a - cI 1) * cI 256 + b) = p at *
    rw [show (wI m 10 p v).1 10 p = v by rw [wI_c, up1_eq]]
    unfold fM_poke
    simp only [in_eq, eq_true i.1, eq_true i.2, ltM_eq, ltI_eq, ltL_eq, bd1_some, bd2_some, ite_bI, if_true, if_false, ite_true, ite_false, eq_self, not_true_eq_false, not_false_eq_true, i10, fM_poke_b28, fM_at, eq_true p2]
    have k1 : (wI (wL (wI m 10 p v) 681 0 (Int32.toInt64 (v &&& cI 255))) 549 0 (cI 0)).1 549 0 = cI 0 := by rw [wI_c, up1_eq]
    have k2 : (wI (wL (wI m 10 p v) 681 0 (Int32.toInt64 (v &&& cI 255))) 549 0 (cI 0)).1 551 = m.1 551 := by rw [wI_ne (by decide), wL_1, wI_ne (by decide)]
    rw [if_pos (show (wI (wL (wI m 10 p v) 681 0 (Int32.toInt64 (v &&& cI 255))) 549 0 (cI 0)).1 549 0 ≤ 0 by rw [k1]; decide), ok_some]
    have k3 : i2b (i2b ((wI (wL (wI m 10 p v) 681 0 (Int32.toInt64 (v &&& cI 255))) 549 0 (cI 0)).1 551 (ix (cI 256 * a + b)) ^^^ c)) = v := by rw [k2, e, ← i2b_x, hv]
    rw [k3, p3]
    generalize hw : wL (wI m 10 p v) 681 0 (Int32.toInt64 (v &&& cI 255)) = w
    have w10 : w.1 10 = up1 (m.1 10) p v := by rw [← hw, wL_1, wI_c]
    have wn : ∀ c, c ≠ 10 → w.1 c = m.1 c := fun c hc => by rw [← hw, wL_1, wI_ne hc]
    obtain ⟨d1, d2, d3, d4, d5⟩ := hd
    have z551 : (wI (wI w 549 0 (cI 0)) 551 (p + 256) v).1 551 = up1 (m.1 551) (p + 256) v := by rw [wI_c, wI_ne (by decide), wn 551 (by decide)]
    have z10 : (wI (wI w 549 0 (cI 0)) 551 (p + 256) v).1 10 = up1 (m.1 10) p v := by rw [wI_ne (by decide), wI_ne (by decide), w10]
    have z555 : (wI (wI w 549 0 (cI 0)) 551 (p + 256) v).1 555 = m.1 555 := by rw [wI_ne (by decide), wI_ne (by decide), wn 555 (by decide)]
    have z11 : (wI (wI w 549 0 (cI 0)) 551 (p + 256) v).1 11 = m.1 11 := by rw [wI_ne (by decide), wI_ne (by decide), wn 11 (by decide)]
    have z9 : (wI (wI w 549 0 (cI 0)) 551 (p + 256) v).1 9 = m.1 9 := by rw [wI_ne (by decide), wI_ne (by decide), wn 9 (by decide)]
    have zM : ∀ k, k ≠ 0 → (wI (wI w 549 0 (cI 0)) 551 (p + 256) v).1 549 k = m.1 549 k := fun k hk => by rw [wI_ne (by decide), wI_c, up1_ne hk, wn 549 (by decide)]
    unfold RDsk
    rw [z551, z10, z555, z11, z9, zM 6 (by decide), zM 7 (by decide)]
    refine ⟨fun j hj => ?_, fun j hj => ?_, d3, d4, d5⟩
    · by_cases y : j = p
      · rw [y, up1_eq, up1_eq]
      · rw [up1_ne y, up1_ne (fun u => y (by omega))]; exact d1 j hj
    · by_cases y : j = p
      · rw [y, up1_eq, ← hv]; exact i2b_rg _
      · rw [up1_ne y]; exact d2 j hj
  · rw [bI_f i, if_pos rfl, ok_some]
    have em : fM_poke (mkX m) a b c = some (wI (mkX m) 549 0 (cI 1), cI 0) := by
      have k : fM_poke_b28 (mkX m) a b c (cI 1) = some (wI (mkX m) 549 0 (cI 1), cI 0) := by
        unfold fM_poke_b28
        rw [ltM_eq, if_neg (show ¬ (wI (mkX m) 549 0 (cI 1)).1 549 0 ≤ 0 by rw [wI_c, up1_eq]; decide)]
      unfold fM_poke
      by_cases i1 : InR a (cI 1) (cI 150)
      · have i2 : ¬ InR b (cI 0) (cI 255) := fun q => i ⟨i1, q⟩
        simp only [in_eq, eq_true i1, eq_false i2, ltM_eq, ltI_eq, ltL_eq, bd1_some, bd2_some, ite_bI, if_true, if_false, ite_true, ite_false, eq_self, not_true_eq_false, not_false_eq_true, i10, fM_poke_b27, k]
      · simp only [in_eq, eq_false i1, ltM_eq, ltI_eq, ltL_eq, bd1_some, bd2_some, ite_bI, if_true, if_false, ite_true, ite_false, eq_self, not_true_eq_false, not_false_eq_true, i10, fM_poke_b27, k]
    rw [em, ok_some]
    exact RDsk_u hd
theorem lc_7 {L i : Nat} {m : ev_M} (H : II L i m) : LC_7 (II L (i + 1)) m := by
  intro a b c
  obtain ⟨q, q1, h1, h2, h3, h4, h5⟩ := H.1
  obtain ⟨x, ex, s1, z, ez, e1, e2, f⟩ := g_poke h3.2.2.2.2.2.2.2 a b c
  obtain ⟨x', ex', z', ez', d⟩ := d_poke h3.2.2.2.2.2.2.2 a b c
  obtain rfl : x = x' := Option.some.inj (ex.symm.trans ex')
  obtain rfl : z = z' := Option.some.inj (ez.symm.trans ez')
  refine ⟨x, ex, s1, z, ez, e1, e2, H.X f (by decide +kernel) (by decide +kernel) (by decide +kernel) (h3.keepY f.1 (by decide +kernel) d) (h4.keepX f.1 (by decide +kernel)) fun k hk => ?_⟩
  rw [f.keep (L := [(2, 0)]) (by decide +kernel) (c := 2) rfl]
  exact h5 k hk
theorem lc_27 {L i : Nat} {m : ev_M} (H : II L i m) (hi : i ≤ 64) : LC_27 (II L (i + 1)) m := by
  obtain ⟨q, q1, h1, h2, h3, h4, h5⟩ := H.1
  have RI0 : RI q m m := ⟨h1, h2, h3, h4, h5⟩
  have pr : ∀ t, RH q m t → Cn m t → RLog m t → RTap m.1 t.1 → _ := fun t a1 a2 a3 a4 => by
    obtain ⟨hRTim, hRMch, ⟨hRPl, hRSt, hRRn, hRPo⟩, hROr, hRLn, hRAk, hRCu, ⟨hRLg, hROm, hRRm⟩, ⟨⟨hRIt, hRIr, hRCo, hRSx⟩, ⟨hREv, hRNt⟩, ⟨hRRw, hRBc, hRBx⟩⟩, hRRo, hRSp, hRLk, hRBg, ⟨hRSg, hRSh, hSym, hSz⟩, hRCk, hRTa, hRSy, hRAv, hRMd⟩ := a1
    exact q_scan a3.2.1.1 a2 hRIt hRMd a4.1 a4.2.2.2
  obtain ⟨x, ex, -⟩ := pr m h1 h2 h3 h4
  have fx := fr_fPH_scan ex
  have r0 : fr [] m m := fr.rf
  have k3 : RLog m x.1 := RLog_of h3 (fun c a b d k _ => rfl) rfl (fun k hk => by
    have d : nof F_PH_scan [(549, 0)] = true := by decide +kernel
    rw [(nof_c fx d (c := 549) rfl).1]) (nof_c fx (L := [(551, 0)]) (by decide +kernel) (c := 551) rfl).1 (nof_c fx (L := [(552, 0)]) (by decide +kernel) (c := 552) rfl).1 (nof_c fx (L := [(555, 0)]) (by decide +kernel) (c := 555) rfl).1
  have x549 : x.1.1 549 = m.1 549 := (nof_c fx (L := [(549, 0)]) (by decide +kernel) (c := 549) rfl).1
  have x550 : x.1.1 550 = m.1 550 := (nof_c fx (L := [(550, 0)]) (by decide +kernel) (c := 550) rfl).1
  have k4 : RTap m.1 x.1.1 := by
    unfold RTap at h4 ⊢
    rw [x549, x550]; exact h4
  obtain ⟨x', ex', z, ez, e1, e2, e3, -, -⟩ := pr x.1 (h1.keep r0 fx (by decide +kernel) (by decide +kernel)) (h2.keep r0 fx (by decide +kernel) (by decide +kernel)) k3 k4
  obtain rfl : x = x' := Option.some.inj (ex.symm.trans ex')
  have fz := fr_fM_scan ez
  obtain ⟨p1, p2⟩ := p1_fr fx fz (by decide +kernel) (by decide +kernel)
  have f : fr (F_PH_scan ++ F_M_scan) m z.1 := (fx.mono (contains_of fun q hq => List.mem_append_left _ hq)).tr (fz.mono (contains_of fun q hq => List.mem_append_right _ hq))
  have md : RMd z.1 z.1 := RMd.keep (G := []) e2 fz fr.rf (by decide +kernel) (by decide +kernel)
  refine ⟨x, ex, p1, z, ez, e1, H.of p2 ⟨q, by omega, h1.keepD f f (by decide +kernel) (by decide +kernel) md, h2.keep f f (by decide +kernel) (by decide +kernel), h3.keepX f.1 (by decide +kernel), ?_, fun k hk => ?_⟩⟩
  · by_cases y : m.1 9 9 = 0
    · obtain ⟨g1, g2⟩ := e3 y
      have g1' : z.1.1 1 1 = 0 := (fz.1 1 1 (by decide +kernel)).1.trans g1
      refine ⟨by rw [g2, g1'], by rw [g1']; decide, by rw [g1']; decide, fun k hk => ?_⟩
      rw [g1'] at hk
      exact absurd hk (Nat.not_lt_zero _)
    · have y' : ¬ (wI x.1 549 0 (cI 0)).1 549 5 = 0 := by rw [wI_c, up1_ne (by decide), x549, h3.2.1.1]; exact y
      unfold fPH_scan at ex
      rw [if_neg y] at ex
      cases ex
      unfold fM_scan at ez
      rw [ltM_eq, if_neg y'] at ez
      cases ez
      exact h4.keepX (F := [(549, 549, 1)]) (fr.wI fr.rf rfl).1 (by decide +kernel)
  · rw [(nof_c f (L := [(2, 0)]) (by decide +kernel) (c := 2) rfl).1]
    exact h5 k hk
