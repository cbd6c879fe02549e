/-! ===== LEVEL 3: the act sort ===== -/
/-- the last sorting: its passes and who strayed -/
def RSy (s t : ev_M) : Prop := (t.1 549 91 = s.1 138 9 ∧ Rg 0 (s.1 138 9) 10) ∧ ∃ L, Hol (s.1 173) (s.1 138 10) L ∧ L.Pairwise (· < ·) ∧ (∀ x, x ∈ L → x < ix (s.1 100 5)) ∧ ∀ x, x < 300 → (t.1 610 x = cI 0 ∨ t.1 610 x = cI 1) ∧ (x ∈ L ↔ t.1 610 x = cI 1)
def RSy_C : List (Nat × Nat) := [(100, 6), (138, 10), (138, 11), (173, 0)]
def RSy_M : List (Nat × Nat) := [(549, 92), (610, 0)]
theorem RSy.keep {s t s' t' : ev_M} {F G : List (Nat × (Nat × Nat))} (h : RSy s t) (hs : fr F s s') (ht : fr G t t') (d1 : nof F RSy_C = true) (d2 : nof G RSy_M = true) : RSy s' t' := by
  have e1 : s'.1 138 9 = s.1 138 9 := (nof_s hs d1 (c := 138) (k := 9) rfl).1
  have e2 : s'.1 138 10 = s.1 138 10 := (nof_s hs d1 (c := 138) (k := 10) rfl).1
  have e3 : s'.1 173 = s.1 173 := (nof_c hs d1 (c := 173) rfl).1
  have e4 : s'.1 100 5 = s.1 100 5 := (nof_s hs d1 (c := 100) (k := 5) rfl).1
  have e5 : t'.1 549 91 = t.1 549 91 := (nof_s ht d2 (c := 549) (k := 91) rfl).1
  have e6 : t'.1 610 = t.1 610 := (nof_c ht d2 (c := 610) rfl).1
  unfold RSy at h ⊢
  rw [e1, e2, e3, e4, e5, e6]
  exact h
theorem RV.keep {n : Nat} {s t s' t' : ev_M} {F G : List (Nat × (Nat × Nat))} (h : RV n s t) (hs : fr F s s') (ht : fr G t t') (d1 : ((nof F RIt_C && (nof F RIr_C && (nof F RCo_C && nof F RSx_C))) && ((nof F REv_C && nof F RNt_C) && (nof F RRw_C && (nof F RBc_C && nof F RBx_C)))) = true) (d2 : ((nof G RIt_M && (nof G RIr_M && (nof G RCo_M && nof G RSx_M))) && ((nof G REv_M && nof G RNt_M) && (nof G RRw_M && (nof G RBc_M && nof G RBx_M)))) = true) : RV n s' t' := by
  rw [Bool.and_eq_true, Bool.and_eq_true (nof F REv_C && nof F RNt_C)] at d1
  rw [Bool.and_eq_true, Bool.and_eq_true (nof G REv_M && nof G RNt_M)] at d2
  exact ⟨h.1.keep hs ht d1.1 d2.1, h.2.1.keep hs ht d1.2.1 d2.2.1, h.2.2.keep hs ht d1.2.2 d2.2.2⟩
theorem RAk.mono {g m : Nat} {s t : ev_M} (h : RAk g s t) (hm : g ≤ m) : RAk m s t := ⟨h.1, h.2.1, Int.le_trans h.2.2 (by omega)⟩
def FsrC : List (Nat × (Nat × Nat)) := (173, 173, 0) :: (138, 138, 11) :: (FgaC ++ ((177, 177, 0) :: FpzC ++ FksC))
def FsrM : List (Nat × (Nat × Nat)) := (671, 671, 0) :: (FgaM ++ (FpzM ++ FksM))
theorem srt_core {a : Int32} {n g : Nat} {s t : ev_M} (h : RV n s t) (hU : RCu s t) (ho : ROr s t) (ht : RTim s t) (hP : RPo s t) (hp : RSp s t) (hr : RRo s t) (hk : RAk g s t) (hB : RBg s t) (hl : RLk s t) (hM : RMch s t) (ha : Has a (s.1 138 3)) (hz : s.1 144 (ix a) = 0) (hg : g + 300 < 2147483647) (hn : n + 300 < 2147483646) (h12 : (s.1 138 3).toInt ≤ 12) (h9 : (s.1 30 9).toInt ≤ 120) : ∃ s' t' v, (bd1 (fRounds_gather s a) fun s8 => bd1 (fRounds_rank s8) fun s9 => ltM (wI s9 138 9 (cI 0)) fun s10 => fRounds_sortItems_h56 1048576 s10 a (cI 1) (cI 0)) = some (s', v) ∧ fM_doSort_h46 1048576 t a (cI 0) = some (t', v) ∧ RV (n + 300) s' t' ∧ RAk (g + 300) s' t' ∧ RSy s' t' ∧ fr FsrC s s' ∧ fr FsrM t t' := by
  obtain ⟨⟨n1, n2, n3⟩, -⟩ := id h.1.1
  have ec := ix_toNat (s.1 100 5)
  have hb : inb a 12 = true := ha.inb h12
  obtain ⟨t0, b1, b2, b3⟩ := cl_lp (a := a) 300 1048576 t (cI 0) (by decide) (by decide) (by omega) (fun q hq => absurd hq (by rw [ix_0]; exact Nat.not_lt_zero _))
  have f1 : fr [(138, 138, 13)] s (wI s 138 12 (cI 0)) := fr.rf.wI rfl
  have g1 : fr [(610, 610, 0), (549, 549, 167)] t (wI t0 549 166 (cI 0)) := (b3.mono (by decide +kernel)).wI rfl
  have hA : RGa [] 0 (wI s 138 12 (cI 0)) (wI t0 549 166 (cI 0)) := by
    refine ⟨List.nodup_nil, fun x hx => absurd hx List.not_mem_nil, ?_, ?_, fun q hq => absurd hq (Nat.not_lt_zero _), fun x hx => absurd hx List.not_mem_nil, fun x hx => ?_⟩
    · rw [wI_c, up1_eq]; rfl
    · rw [wI_c, up1_eq, wI_c, up1_eq]
    · rw [wI_ne (by decide)]; exact b2 x hx
  have h1 : RV n (wI s 138 12 (cI 0)) (wI t0 549 166 (cI 0)) := h.keep f1 g1 (by decide +kernel) (by decide +kernel)
  obtain ⟨L, s2, t2, c1, c2, c3, c4, c5, c6⟩ := gr_lp (a := a) (N := n) (ix (s.1 100 5)) 1048576 1048576 0 g [] (wI s 138 12 (cI 0)) (wI t0 549 166 (cI 0)) (cI 0) (by decide) (by rw [(f1.1 100 5 rfl).1, Nat.zero_add]) (by omega) (by omega) (by omega) hA h1.1.1 h1.1.2.1 h1.1.2.2.1 h1.1.2.2.2 (hU.keep f1 g1 (by decide +kernel) (by decide +kernel)) (ho.keep f1 g1 (by decide +kernel) (by decide +kernel)) (ht.keep f1 g1 (by decide +kernel) (by decide +kernel)) (hP.keep f1 g1 (by decide +kernel) (by decide +kernel)) (hp.keep f1 g1 (by decide +kernel) (by decide +kernel)) (hr.keep f1 g1 (by decide +kernel) (by decide +kernel)) (hk.keep f1 g1 (by decide +kernel) (by decide +kernel)) (by rw [(f1.1 138 3 rfl).1]; exact ha)
  rw [(f1.1 100 5 rfl).1] at c3
  have f2 : fr FgaC s s2 := (f1.mono (by decide +kernel)).tr c5
  have g2 : fr FgaM t t2 := (g1.mono (by decide +kernel)).tr c6
  obtain ⟨s3, t3, d1, d2, d3, d4, d5⟩ := rank_ok c3 (by omega) (by rw [(f2.1 30 9 (by decide +kernel)).1]; exact h9)
  have f3 : fr ((175, 175, 0) :: (138, 138, 10) :: (177, 177, 0) :: FgaC) s (wI s3 138 9 (cI 0)) := ((f2.mono (by decide +kernel)).tr (d4.mono (by decide +kernel))).wI (by decide +kernel)
  have g3 : fr ((549, 549, 92) :: (671, 671, 0) :: FgaM) t (wI t3 549 91 (cI 0)) := ((g2.mono (by decide +kernel)).tr (d5.mono (by decide +kernel))).wI (by decide +kernel)
  have f3' : fr [(138, 138, 10)] s3 (wI s3 138 9 (cI 0)) := fr.rf.wI rfl
  have g3' : fr [(549, 549, 92)] t3 (wI t3 549 91 (cI 0)) := fr.rf.wI rfl
  obtain ⟨F', s5, t5, e1, e2, e3, e4, e5, e6, e7, e8, e9⟩ := pss_lp (a := a) 10 1048576 1048576 0 L (wI s3 138 9 (cI 0)) (wI t3 549 91 (cI 0)) (cI 1) (cI 0) (by omega) (by decide) (by omega) (by omega) (d3.keep f3' g3' (by decide +kernel) (by decide +kernel)) (hM.keep f3 g3 (by decide +kernel) (by decide +kernel)) (by rw [wI_c, up1_eq]) (by rw [wI_c, up1_eq]) (by decide) (fun _ => by decide) (by decide)
  have f5 : fr ((177, 177, 0) :: (FgaC ++ FpzC)) s s5 := (f3.mono (by decide +kernel)).tr (e8.mono (by decide +kernel))
  have g5 : fr ((671, 671, 0) :: (FgaM ++ FpzM)) t t5 := (g3.mono (by decide +kernel)).tr (e9.mono (by decide +kernel))
  have f25 : fr ((177, 177, 0) :: (175, 175, 0) :: FpzC) s2 s5 := (d4.mono (by decide +kernel)).tr ((f3'.mono (by decide +kernel)).tr (e8.mono (by decide +kernel)))
  have k1 : s5.1 102 = s2.1 102 := (nof_c f25 (L := [(102, 0)]) (by decide +kernel) (c := 102) rfl).1
  have k2 : s5.1 109 = s2.1 109 := (nof_c f25 (L := [(109, 0)]) (by decide +kernel) (c := 109) rfl).1
  have k3 : s5.1 100 5 = s.1 100 5 := (f5.1 100 5 (by decide +kernel)).1
  have k4 : s5.1 144 = s.1 144 := (nof_c f5 (L := [(144, 0)]) (by decide +kernel) (c := 144) rfl).1
  have k5 : s5.1 138 3 = s.1 138 3 := (f5.1 138 3 (by decide +kernel)).1
  have fn : F'.length ≤ 300 := e3.len
  obtain ⟨s6, t6, u1, u2, u3, u4, u5, u6⟩ := ks_lp (a := a) (F := F') F'.length 1048576 1048576 n 0 s5 t5 (cI 0) (cI 0) (by omega) (by decide) (by omega) (by omega) (by omega) e3 (h.keep f5 g5 (by decide +kernel) (by decide +kernel)) (hU.keep f5 g5 (by decide +kernel) (by decide +kernel)) (ht.keep f5 g5 (by decide +kernel) (by decide +kernel)) (hB.keep f5 g5 (by decide +kernel) (by decide +kernel)) (hl.keep f5 g5 (by decide +kernel) (by decide +kernel)) (by rw [k5]; exact ha) (by rw [k5]; exact h12) (fun q hq _ => by
    have m := (e4 _).mp (List.getElem_mem hq)
    obtain ⟨-, x2, -, -, -, x6, -⟩ := c3
    rw [k1, k2, k3]
    exact ⟨(x6 _ m).1, (x6 _ m).2.1, x2 _ m⟩) (by rw [k4]; exact hz.symm)
  have f6 : fr [(138, 138, 11)] s6 (wI s6 138 10 (cI 0)) := fr.rf.wI rfl
  have u7 : RFd F' (wI s6 138 10 (cI 0)) t6 := u3.keep f6 rf_fr (by decide +kernel) (by decide +kernel)
  obtain ⟨v1, v2, v3, v4, v5, v6, v7⟩ := id u7
  obtain ⟨L', s7, w1, w2, w3, w4, w5⟩ := sty_lp (F := F') v1 v2 F'.length 1048576 0 [] (wI s6 138 10 (cI 0)) (cI 0) (by omega) (by decide) (by omega) v3 (fun q hq => (v5 q hq).1) List.Pairwise.nil (fun x => ⟨fun z => absurd z List.not_mem_nil, fun z => absurd z.1 List.not_mem_nil⟩) ⟨by rw [wI_c, up1_eq]; rfl, fun k hk => absurd hk (Nat.not_lt_zero _)⟩
  have f7 : fr [(173, 173, 0), (138, 138, 11)] s6 s7 := (f6.mono (by decide +kernel)).tr w5
  have f57 : fr ((173, 173, 0) :: (138, 138, 11) :: FksC) s5 s7 := (u5.mono (by decide +kernel)).tr (f7.mono (by decide +kernel))
  have f07 : fr FsrC s s7 := (f5.mono (by decide +kernel)).tr (f57.mono (by decide +kernel))
  have g07 : fr FsrM t t6 := (g5.mono (by decide +kernel)).tr (u6.mono (by decide +kernel))
  have k6 : s7.1 144 = s6.1 144 := (nof_c f7 (L := [(144, 0)]) rfl (c := 144) rfl).1
  refine ⟨s7, t6, s6.1 144 (ix a), ?_, ?_, ?_, ?_, ⟨⟨?_, ?_, ?_⟩, L', w2, w3, fun x hx => ?_, fun x hx => ?_⟩, f07, g07⟩
  · unfold fRounds_gather
    generalize fRounds_gather_h7 1048576 = H at c1 ⊢
    rw [ltM_eq, c1, bd1_some, d1, bd1_some, ltM_eq, e1]
    unfold fRounds_sortItems_b111 fRounds_keepSorted
    generalize fRounds_keepSorted_h2 1048576 = K at u1 ⊢
    rw [u1, w1, bd1_some, if_pos hb, ix_4, k6]
  · rw [b1]
    unfold fM_findFed
    generalize fM_findFed_h7 1048576 = H at c2 ⊢
    rw [ltM_eq, c2, d2, bd1_some, ltM_eq, e2]
    exact u2
  · exact (u4.mono (by omega)).keep f7 rf_fr (by decide +kernel) (by decide +kernel)
  · have q : fr ((177, 177, 0) :: (173, 173, 0) :: (138, 138, 11) :: (FpzC ++ FksC)) s2 s7 := (f25.mono (by decide +kernel)).tr (f57.mono (by decide +kernel))
    have q2 : fr FsrM t2 t6 := ((d5.mono (by decide +kernel)).tr ((g3'.mono (by decide +kernel)).tr (e9.mono (by decide +kernel)))).tr (u6.mono (by decide +kernel))
    exact (RAk.mono c4 (by omega)).keep q q2 (by decide +kernel) (by decide +kernel)
  · rw [(f57.1 138 9 (by decide +kernel)).1, (u6.1 549 91 (by decide +kernel)).1]; exact e5.symm
  · rw [(f57.1 138 9 (by decide +kernel)).1]; exact e6
  · rw [(f57.1 138 9 (by decide +kernel)).1]; exact e7
  · rw [(f07.1 100 5 (by decide +kernel)).1]
    exact c3.2.1 _ ((e4 x).mp ((w4 x).mp hx).1)
  · by_cases z : x ∈ F'
    · obtain ⟨-, y2, y3⟩ := v6 x z
      rw [w4 x, y2]
      exact ⟨y3, fun y => y.2, fun y => ⟨z, y⟩⟩
    · rw [v7 x hx z]
      exact ⟨Or.inl rfl, fun y => absurd ((w4 x).mp y).1 z, fun y => absurd y (by decide)⟩
