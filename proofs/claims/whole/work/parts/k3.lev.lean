/-! ===== LEVEL 3: all lines that leave ===== -/
def FdpC : List (Nat × (Nat × Nat)) := [(546, 546, 0), (547, 547, 0), (548, 548, 0), (459, 459, 0), (460, 460, 0), (463, 463, 0), (464, 464, 0), (456, 456, 0), (457, 457, 0)]
def FdpM : List (Nat × (Nat × Nat)) := [(675, 675, 0), (676, 676, 0), (677, 677, 0), (618, 618, 0), (619, 619, 0), (621, 621, 0), (622, 622, 0), (616, 616, 0), (617, 617, 0)]
theorem sn_ok {k l : Nat} {s t : ev_M} (hL : RLw k s t) (ht : RTim s t) (hl : l < ix (s.1 449 4)) : ∃ s2 t2 y, fLines_setNext s (cI (l : Int)) = some s2 ∧ fM_departs_b240 t (cI (l : Int)) = some t2 ∧ RLw k s2 t2 ∧ s2.1 456 = up1 (s.1 456) l y ∧ (s.1 15 1).toInt < y.toInt ∧ fr [(456, 456, 0), (457, 457, 0)] s s2 ∧ fr [(616, 616, 0), (617, 617, 0)] t t2 := by
  obtain ⟨⟨l1, l2, l3⟩, f1, f2, f3, f4, f5, f6, f7, e1, e2, e3, e4, e5, e6, e7⟩ := id hL
  obtain ⟨⟨c1, c2, c3⟩, -⟩ := id ht
  have ll := ix_toNat (s.1 449 4)
  have lb : inb (cI (l : Int)) 20 = true := k_in (by omega) (by decide)
  have xl : ix (cI (l : Int)) = l := k_ix (by omega)
  have t1 : (s.1 15 1 + cI 1).toInt = (s.1 15 1).toInt + 1 := inc_i (by omega)
  obtain ⟨y, y1, y2, y3, y4⟩ := from_eq (a := s.1 15 1 + cI 1) (d := s.1 453 l) ⟨by omega, by omega⟩ (e3 l hl)
  have fC : fr [(456, 456, 0), (457, 457, 0)] s (wI (wI s 456 l y) 457 l (cI 0)) := (fr.rf.wI rfl).wI rfl
  have fM : fr [(616, 616, 0), (617, 617, 0)] t (wI (wI t 616 l y) 617 l (cI 0)) := (fr.rf.wI rfl).wI rfl
  refine ⟨_, _, y, ?_, ?_, ?_, ?_, by omega, fC, fM⟩
  · unfold fLines_setNext fLines_firstFrom
    simp (disch := decide) only [if_pos lb, xl, ix_0, ix_1, ix_2, ix_3, ix_4, ix_5, ix_6, ix_7, ix_8, ix_9, ix_10, ix_11, ix_12, ix_13, ix_14, ix_15, ix_16, ix_17, ix_18, ix_19, ix_20, ix_21, Nat.reduceAdd, wI_c, wI_ne, wL_1, lupd_ne, up1_eq, up1_ne, if_neg (show ¬ cI 1440 = 0 by decide), bd1_some, ltM_eq, ← y2]
  · unfold fM_departs_b240
    simp (disch := decide) only [if_pos lb, xl, c1, f3 l hl, y1, bd1_some, ltM_eq]
  · unfold RLw
    simp (disch := decide) only [ix_0, ix_1, ix_2, ix_3, ix_4, ix_5, ix_6, ix_7, ix_8, ix_9, ix_10, ix_11, ix_12, ix_13, ix_14, ix_15, ix_16, ix_17, ix_18, ix_19, ix_20, ix_21, Nat.reduceAdd, wI_c, wI_ne, wL_1, lupd_ne, up1_eq, up1_ne]
    exact ⟨⟨l1, l2, l3⟩, f1, f2, f3, f4, f5, f6.up, f7.up, e1, e2, e3, e4, e5, e6.set ⟨by omega, by omega⟩, e7.set ⟨by decide, by show (0 : Int) ≤ _; omega⟩⟩
  · rw [wI_ne (by decide), wI_c]
theorem dep_ok {k l : Nat} {s t : ev_M} (hL : RLw k s t) (ht : RTim s t) (hP : RPl s t) (hB : RBg s t) (hA : RAv s t) (hk : 600 * k ≤ 500000000) (hl : l < ix (s.1 449 4)) : ∃ s1 s2 t', fLines_load s (cI (l : Int)) = some s1 ∧ fLines_setNext s1 (cI (l : Int)) = some s2 ∧ fM_departs t (cI (l : Int)) = some t' ∧ RLw k s2 t' ∧ RBg s2 t' ∧ RAv s2 t' ∧ (∃ y : Int32, (s.1 15 1).toInt < y.toInt ∧ s2.1 456 = up1 (s.1 456) l y) ∧ fr FdpC s s2 ∧ fr FdpM t t' := by
  obtain ⟨⟨l1, l2, l3⟩, f1, f2, f3, f4, f5, f6, f7, e1, e2, e3, e4, e5, e6, e7⟩ := id hL
  obtain ⟨⟨c1, c2, c3⟩, -⟩ := id ht
  obtain ⟨⟨p1, p2, p3⟩, -⟩ := id hP
  obtain ⟨⟨n1, n2, n3⟩, -⟩ := id hB
  have ll := ix_toNat (s.1 449 4)
  have bb := ix_toNat (s.1 449 6)
  have lb : inb (cI (l : Int)) 20 = true := k_in (by omega) (by decide)
  have xl : ix (cI (l : Int)) = l := k_ix (by omega)
  have hfr : Has (s.1 451 l) (s.1 30 2) := ⟨(e1 l hl).1, by have := (e1 l hl).2; omega⟩
  obtain ⟨s5, t7, a1, a2, a3, -, a5, a6⟩ := ways_ok hL ht hP hk hfr
  have g449 : s5.1 449 = s.1 449 := funext fun i => (a5.1 449 i rfl).1
  have g455 : s5.1 455 = s.1 455 := funext fun i => (a5.1 455 i rfl).1
  have g463 : s5.1 463 = s.1 463 := funext fun i => (a5.1 463 i rfl).1
  have g459 : s5.1 459 = s.1 459 := funext fun i => (a5.1 459 i rfl).1
  have g460 : s5.1 460 = s.1 460 := funext fun i => (a5.1 460 i rfl).1
  have g451 : s5.1 451 = s.1 451 := funext fun i => (a5.1 451 i rfl).1
  have g456 : s5.1 456 = s.1 456 := funext fun i => (a5.1 456 i rfl).1
  have g30 : s5.1 30 = s.1 30 := funext fun i => (a5.1 30 i rfl).1
  have g15 : s5.1 15 = s.1 15 := funext fun i => (a5.1 15 i rfl).1
  obtain ⟨v6, b1, b2⟩ := cb_C (s := s5) (x1 := cI (l : Int)) (by rw [g449]; exact n2) (by rw [g449]; exact n3) (ix (s5.1 449 6)) 1048576 0 (cI 0) (by omega) (by rw [g449]; omega) rfl
  have ce := cntE_le (f := s5.1 463) (x := cI (l : Int)) (ix (s5.1 449 6))
  rw [g449] at b2 ce
  obtain ⟨sp1, sp2⟩ := e5 l hl
  obtain ⟨v7, ev7⟩ : ∃ v, v = s.1 455 l - v6 := ⟨_, rfl⟩
  have v7b : v7.toInt = (s.1 455 l).toInt - (cntE (s.1 463) (cI (l : Int)) (ix (s.1 449 6)) : Int) := by
    rw [ev7, sub_b (by omega) (by omega), b2, g463]
  obtain ⟨v8, d1, d2⟩ := cb_M (l := l) (X := (s.1 455 l).toInt) hB ⟨by omega, sp2⟩ (by omega) (ix (s.1 449 6)) 1048576 0 (s.1 455 l) (by omega) (by omega) (by
    show _ = _ - ((0 : Nat) : Int)
    omega)
  obtain rfl : v8 = v7 := eq_i.mpr (by omega)
  obtain ⟨w, w1, w2, w3⟩ := wt_M (x2 := v8) hB (show l < 20 by omega) (f1 l hl) (ix (s.1 449 6)) 1048576 0 (cI 0) (by omega) (by omega) (Or.inl rfl) ⟨fun _ q hq => absurd hq (Nat.not_lt_zero _), fun _ => rfl⟩
  have kC : ∀ s6, fLines_load_h29 1048576 s5 (cI (l : Int)) v8 (cI 0) = some s6 → fLines_load s (cI (l : Int)) = some s6 := fun s6 h => by
    have b1' : fLines_carriedBy_h4 s5 1048576 (cI (l : Int)) (cI 0) (cI 0) = some v6 := b1
    unfold fLines_load fLines_carriedBy
    generalize fLines_load_h29 1048576 = H at h ⊢
    simp (disch := decide) only [if_pos lb, xl, ix_0, ix_1, ix_2, ix_3, ix_4, ix_5, ix_6, ix_7, ix_8, ix_9, ix_10, ix_11, ix_12, ix_13, ix_14, ix_15, ix_16, ix_17, ix_18, ix_19, ix_20, ix_21, Nat.reduceAdd, wI_c, wI_ne, wL_1, lupd_ne, up1_eq, up1_ne, a1, bd1_some, b1', ltI_eq, g455, ← ev7]
    exact h
  have kM : fM_departs t (cI (l : Int)) = fM_departs_h56 1048576 t (cI (l : Int)) v8 (cI 0) (cI 0) := by
    unfold fM_departs
    rw [if_pos lb, ltI_eq, xl, f5 l hl]
    exact d1
  have fin : ∀ {s6 t6 : ev_M}, fLines_load_h29 1048576 s5 (cI (l : Int)) v8 (cI 0) = some s6 → fM_departs_h56 1048576 t (cI (l : Int)) v8 (cI 0) (cI 0) = fM_departs_b240 t6 (cI (l : Int)) → RBg s6 t6 → RAv s6 t6 → fr FavC s5 s6 → fr (FswM ++ FavM) t t6 → ∃ s1 s2 t', fLines_load s (cI (l : Int)) = some s1 ∧ fLines_setNext s1 (cI (l : Int)) = some s2 ∧ fM_departs t (cI (l : Int)) = some t' ∧ RLw k s2 t' ∧ RBg s2 t' ∧ RAv s2 t' ∧ (∃ y : Int32, (s.1 15 1).toInt < y.toInt ∧ s2.1 456 = up1 (s.1 456) l y) ∧ fr FdpC s s2 ∧ fr FdpM t t' := by
    intro s6 t6 h1 h2 h3 h4 h5 h6
    have h7 : fr FdpC s s6 := (a5.mono (by decide +kernel)).tr (h5.mono (by decide +kernel))
    have h8 : fr (FswC ++ FavC) s s6 := (a5.mono (by decide +kernel)).tr (h5.mono (by decide +kernel))
    have L6 : RLw k s6 t6 := hL.keep h8 h6 (by decide +kernel) (by decide +kernel)
    have T6 : RTim s6 t6 := ht.keep h8 h6 (by decide +kernel) (by decide +kernel)
    obtain ⟨s2, t2, y, y1, y2, y3, y4, y5, y6, y7⟩ := sn_ok (l := l) L6 T6 (by rw [(h8.1 449 4 rfl).1]; exact hl)
    refine ⟨s6, s2, t2, kC _ h1, y1, ?_, y3, h3.keep y6 y7 (by decide +kernel) (by decide +kernel), h4.keep y6 y7 (by decide +kernel) (by decide +kernel), ⟨y, ?_, ?_⟩, h7.tr (y6.mono (by decide +kernel)), (h6.mono (by decide +kernel)).tr (y7.mono (by decide +kernel))⟩
    · rw [kM, h2]; exact y2
    · rw [(h8.1 15 1 rfl).1] at y5; exact y5
    · rw [y4, show s6.1 456 = s.1 456 from funext fun i => (h8.1 456 i rfl).1]
  have B5 : RBg s5 t := hB.keep a5 rf_fr (by decide +kernel) (by decide +kernel)
  have A5 : RAv s5 t := hA.keep a5 rf_fr (by decide +kernel) (by decide +kernel)
  rcases w1 with w1 | w1
  · have nw := w2.mp w1
    refine fin (s6 := s5) (t6 := t) (ld_C0 (by rw [g449]; exact n2) (by rw [g449]; exact n3) (by omega) (fun q hq u => nw q (by rw [g449] at hq; exact hq) ?_) (ix (s5.1 449 6)) 1048576 0 (by omega) (by rw [g449]; omega)) ?_ B5 A5 fr.rf fr.rf
    · unfold wtB at u ⊢
      rw [g459, g460, g451] at u
      exact u
    · refine w3.trans ?_
      rw [w1, if_pos (show cI 0 = 0 from rfl)]
      exact ld_M0 (m := 1048575)
  · obtain ⟨s6, t6, v1, v2, v3, v4, v5, v9⟩ := ld_lp (k := k) (l := l) (ix (s5.1 449 6)) 1048576 1048576 0 s5 t7 v8 (by omega) (by rw [g449]; omega) (by rw [g449]; omega) (hL.keep a5 a6 (by decide +kernel) (by decide +kernel)) (hB.keep a5 a6 (by decide +kernel) (by decide +kernel)) (hA.keep a5 a6 (by decide +kernel) (by decide +kernel)) (by rw [(a6.1 549 22 rfl).1, g15]; exact c1) (by rw [g15]; exact c2) (by rw [g15]; exact c3) (by rw [g30]; exact p2) (by rw [g30]; exact p3) (by rw [g449]; exact hl) (by rw [g30]; exact a3) (fun _ => by rw [g463, g449, g455]; omega)
    refine fin v1 ?_ v3 v4 v5 ((a6.mono (by decide +kernel)).tr (v9.mono (by decide +kernel)))
    refine w3.trans ?_
    rw [w1, if_neg (show ¬ cI 1 = 0 by decide), a2, bd1_some]
    exact v2
theorem lv_lp {k : Nat} (hk : 600 * k ≤ 500000000) : ∀ (r m m' l : Nat) (s t : ev_M), l + r = ix (s.1 449 4) → r < m → r < m' → RLw k s t → RTim s t → RPl s t → RBg s t → RAv s t → (∀ q, q < l → (s.1 15 1).toInt < (s.1 456 q).toInt) → ∃ s' t', fLines_leaveAll_h2 m s (cI (l : Int)) = some s' ∧ (∀ k51 x2, fM_doTick_h162 k51 m' t x2 (cI (l : Int)) = k51 t' x2) ∧ RLn k s' t' ∧ RBg s' t' ∧ RAv s' t' ∧ fr FdpC s s' ∧ fr FdpM t t'
  | 0, m, m', l, s, t, hl, hm, hm', hL, ht, hP, hB, hA, hq => by
    obtain ⟨m, rfl⟩ : ∃ k, m = k + 1 := ⟨m - 1, by omega⟩
    obtain ⟨m', rfl⟩ : ∃ k, m' = k + 1 := ⟨m' - 1, by omega⟩
    obtain ⟨⟨l1, l2, l3⟩, f1, f2, f3, f4, f5, f6, f7, e1, e2, e3, e4, e5, e6, e7⟩ := id hL
    have ll := ix_toNat (s.1 449 4)
    have nl : ¬ cI (l : Int) < s.1 449 4 := by rw [lt_i, k_ti (by omega)]; omega
    refine ⟨s, t, ?_, fun k51 x2 => ?_, ⟨⟨l1, l2, l3⟩, f1, f2, f3, f4, f5, f6, f7, e1, e2, e3, e4, e5, fun q h => ?_, e7⟩, hB, hA, fr.rf, fr.rf⟩
    · rw [fLines_leaveAll_h2, if_neg nl]
    · rw [fM_doTick_h162, l1, if_neg nl]
    · have w1 := hq q (by omega)
      have w2 := e6 q h
      exact ⟨by omega, w2.2⟩
  | r + 1, m, m', l, s, t, hl, hm, hm', hL, ht, hP, hB, hA, hq => by
    obtain ⟨m, rfl⟩ : ∃ k, m = k + 1 := ⟨m - 1, by omega⟩
    obtain ⟨m', rfl⟩ : ∃ k, m' = k + 1 := ⟨m' - 1, by omega⟩
    obtain ⟨⟨l1, l2, l3⟩, f1, f2, f3, f4, f5, f6, f7, e1, e2, e3, e4, e5, e6, e7⟩ := id hL
    obtain ⟨⟨c1, c2, c3⟩, -⟩ := id ht
    have ll := ix_toNat (s.1 449 4)
    have lt : cI (l : Int) < s.1 449 4 := by rw [lt_i, k_ti (by omega)]; omega
    have lb : inb (cI (l : Int)) 20 = true := k_in (by omega) (by decide)
    have xl : ix (cI (l : Int)) = l := k_ix (by omega)
    have hl' : l < ix (s.1 449 4) := by omega
    by_cases z : s.1 456 l = s.1 15 1
    · obtain ⟨s1, s2, t2, a1, a2, a3, a4, a5, a6, ⟨y, a7, a8⟩, a9, a10⟩ := dep_ok hL ht hP hB hA hk hl'
      have e449 := (a9.1 449 4 rfl).1
      have e15 := (a9.1 15 1 rfl).1
      obtain ⟨s', t', b1, b2, b3, b4, b5, b6, b7⟩ := lv_lp hk r m m' (l + 1) s2 t2 (by rw [e449]; omega) (by omega) (by omega) a4 (ht.keep a9 a10 (by decide +kernel) (by decide +kernel)) (hP.keep a9 a10 (by decide +kernel) (by decide +kernel)) a5 a6 (fun q h => by
        rw [e15, a8]
        by_cases v : q = l
        · rw [v, up1_eq]; exact a7
        · rw [up1_ne v]; exact hq q (by omega))
      refine ⟨s', t', ?_, fun k51 x2 => ?_, b3, b4, b5, a9.tr b6, a10.tr b7⟩
      · rw [← b1, ← k_s (by omega), fLines_leaveAll_h2, if_pos lt]
        simp (disch := decide) only [if_pos lb, xl, ix_0, ix_1, ix_2, ix_3, ix_4, ix_5, ix_6, ix_7, ix_8, ix_9, ix_10, ix_11, ix_12, ix_13, ix_14, ix_15, ix_16, ix_17, ix_18, ix_19, ix_20, ix_21, Nat.reduceAdd, wI_c, wI_ne, wL_1, lupd_ne, up1_eq, up1_ne, if_pos z, a1, a2, bd1_some, fLines_leaveAll_b41]
      · rw [← b2 k51 x2, ← k_s (by omega), fM_doTick_h162, l1, if_pos lt]
        simp (disch := decide) only [if_pos lb, xl, f6 l hl', c1, if_pos z, a3, bd1_some, fM_doTick_b188]
    · obtain ⟨s', t', b1, b2, b3, b4, b5, b6, b7⟩ := lv_lp hk r m m' (l + 1) s t (by omega) (by omega) (by omega) hL ht hP hB hA (fun q h => by
        by_cases v : q = l
        · rw [v]
          have w := (e6 l hl').1
          rw [eq_i] at z
          omega
        · exact hq q (by omega))
      refine ⟨s', t', ?_, fun k51 x2 => ?_, b3, b4, b5, b6, b7⟩
      · rw [← b1, ← k_s (by omega), fLines_leaveAll_h2, if_pos lt]
        simp (disch := decide) only [if_pos lb, xl, ix_0, ix_1, ix_2, ix_3, ix_4, ix_5, ix_6, ix_7, ix_8, ix_9, ix_10, ix_11, ix_12, ix_13, ix_14, ix_15, ix_16, ix_17, ix_18, ix_19, ix_20, ix_21, Nat.reduceAdd, wI_c, wI_ne, wL_1, lupd_ne, up1_eq, up1_ne, if_neg z, fLines_leaveAll_b41]
      · rw [← b2 k51 x2, ← k_s (by omega), fM_doTick_h162, l1, if_pos lt]
        simp (disch := decide) only [if_pos lb, xl, f6 l hl', c1, if_neg z, fM_doTick_b188]
