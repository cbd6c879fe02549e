/-! ===== LEVEL 3: the act arrange, whole ===== -/
def FarC : List (Nat × (Nat × Nat)) := [(146, 157, 0), (175, 175, 0), (183, 191, 0), (193, 448, 0)]
def FarM : List (Nat × (Nat × Nat)) := [(664, 664, 0), (665, 665, 0), (666, 666, 0), (667, 667, 0), (572, 572, 0)]
/-- the order of the way, both -/
theorem arr_way {a : Int32} {n : Nat} {P : Nat → Nat} {d : Nat → Nat → Int32} {s t : ev_M} (hn : n ≤ 20) (h0 : 0 < n) (ha : inb a 12 = true) (hd : Dn d n) (hc : ∀ q, q < n → d n q = d q n) (hJ : ∀ q q', q < n → q' < n → P q = P q' → q = q') (h3 : s.1 143 (ix a) = cI (n : Int)) (hG : Gq s a n P d) (hR : Rw s (ix a) n P) (hF : Fg t n d) (hP : ∀ q, q < n → t.1 664 q = cI (P q : Int) ∧ P q < 120) : ∃ (o : Nat → Nat) (s' t' : ev_M) (v : Int32), (if cI (n : Int) ≤ cI 8 then bd1 (fRounds_goLeastWay s a) fun s5 => fRounds_arrangeStops_b122 s5 a else bd1 (fRounds_goToNearest s a) fun s6 => fRounds_arrangeStops_b122 s6 a) = some (s', v) ∧ (if cI (n : Int) ≤ cI 8 then bd2 (fM_arrangeExactly t (cI (n : Int))) fun s8 v9 => some (s8, v9) else bd2 (fM_arrangeByNearest t (cI (n : Int))) fun s10 v11 => some (s10, v11)) = some (t', v) ∧ (∀ q, q < n → s'.1 (146 + ix a) q = cI (P (o q) : Int)) ∧ (∀ q, q < n → o q < n) ∧ (∀ q, q < n → t'.1 572 (P (o q)) = cI (q : Int)) ∧ (∀ i, (∀ q, q < n → i ≠ P (o q)) → t'.1 572 i = t.1 572 i) ∧ (∀ c, c < 175 → c ≠ 146 + ix a → s'.1 c = s.1 c) ∧ fr FarC s s' ∧ fr FarM t t' := by
  have al := inb_lt ha
  by_cases z : n ≤ 8
  · have z2 : cI (n : Int) ≤ cI 8 := by rw [le_i, k_ti (by omega), show (cI 8).toInt = 8 from rfl]; omega
    obtain ⟨s', a1, a2, a3, a4, a5⟩ := leastWay z ha hd hc h3 hG hR
    obtain ⟨t', b1, b2, b3, b4⟩ := exactly z h0 hd hJ hF hP
    have ho : ∀ q, q < n → wo d n q < n := fun q hq => ((wk_ok (d := d) z q (by omega)).2.2.2 hq).2.2.1
    have w := e_wayOf (s := s') (o := wo d n) hn h0 ha hc (by rw [a4 143 (by decide) (by omega)]; exact h3) (hG.cg (fun c hc => a4 c (by omega) (by omega))) ho a2
    refine ⟨wo d n, s', t', wv d n (2 ^ n - 1) n, ?_, ?_, a2, ho, b2, b3, a4, a5.mono (by decide +kernel), b4.mono (by decide +kernel)⟩
    · rw [if_pos z2, a1, bd1_some]
      unfold fRounds_arrangeStops_b122
      rw [w, bd1_some, wv_all z hd]
    · rw [if_pos z2, b1, bd2_some]
  · have z2 : ¬ cI (n : Int) ≤ cI 8 := by rw [le_i, k_ti (by omega), show (cI 8).toInt = 8 from rfl]; omega
    obtain ⟨o, s', t', a1, a2, a3, a4, a5, a6, a7, a8, a9, a10, a11⟩ := nr_lp (P := P) hn ha hd hc hJ n 1048576 1048576 0 s t (fun q => q) (cI 0) (by omega) (by omega) (by omega) h3 hG hR hF hP (fun q hq => hq) (fun q q' _ h _ => h) (fun k hk => ⟨fun _ => ⟨k, Nat.zero_le _, hk, rfl⟩, fun _ => unv_0 k (by omega)⟩) (fun q hq => absurd hq (Nat.not_lt_zero _)) (fun q hq => absurd hq (Nat.not_lt_zero _))
    have w := e_wayOf (s := s') (o := o) hn h0 ha hc (by rw [a9 143 (by omega)]; exact h3) (hG.cg (fun c hc => a9 c (by omega))) a5 a3
    refine ⟨o, s', t', sp d n o n + d (lst n o n) n, ?_, ?_, a3, a5, a6, a7, fun c h1 h2 => a9 c h2, a10.mono (by decide +kernel), a11.mono (by decide +kernel)⟩
    · rw [if_neg z2]
      unfold fRounds_goToNearest
      rw [if_pos ha]
      have a1' : fRounds_goToNearest_h9 1048576 s a (ix a) (cI 0) = some s' := a1
      rw [a1', bd1_some]
      unfold fRounds_arrangeStops_b122
      rw [w, bd1_some]
    · rw [if_neg z2]
      unfold fM_arrangeByNearest
      have a2' : fM_arrangeByNearest_h10 1048576 t (cI (n : Int)) (cI 0) (cI (n : Int)) (cI 0) (cI 0) = some (t', sp d n o n + d (lst n o n) n) := a2
      rw [a2', bd2_some]
theorem arr_core {s t : ev_M} {a : Int32} (hS : RSt s t) (hP : RPo s t) (hr : RRo s t) (h : RSp s t) (ha : Has a (s.1 138 3)) : ∃ s' t' v, fRounds_arrangeStops_h43 1048576 s a (s.1 143 (ix a)) (ix a) (cI 1) = some (s', v) ∧ fM_doArrange_h33 1048576 t a (cI 0) (cI 0) = some (t', v) ∧ RSp s' t' ∧ fr FarC s s' ∧ fr FarM t t' := by
  obtain ⟨⟨m1, m2, m3⟩, g1, g2, g3, g4, g5, g6⟩ := id hr
  obtain ⟨q0, q1, q2, q3, q4, q5⟩ := id h
  obtain ⟨⟨p1, p2, p3⟩, -⟩ := id hP
  have r1 := ha.ix
  have hb : inb a 12 = true := ha.inb m3
  have al := inb_lt hb
  have rc : cI ((ix a : Nat) : Int) = a := cI_ix ha.1
  obtain ⟨z1, z2⟩ := q1 _ r1
  obtain ⟨n, en⟩ : ∃ n, n = ix (s.1 143 (ix a)) := ⟨_, rfl⟩
  have hn : s.1 143 (ix a) = cI (n : Int) := by rw [en, cI_ix z1]
  have n20 : n ≤ 20 := by rw [en, ix_toNat]; omega
  have hpt : ix (s.1 30 9) ≤ 120 := by rw [ix_toNat]; omega
  obtain ⟨R, eR⟩ : ∃ R : Nat → Nat, R = fun q => ix (s.1 (146 + ix a) q) := ⟨_, rfl⟩
  have rR : ∀ q, R q = ix (s.1 (146 + ix a) q) := fun q => by rw [eR]
  have hRow : ∀ q, q < n → s.1 (146 + ix a) q = cI (R q : Int) ∧ R q < ix (s.1 30 9) ∧ s.1 158 (R q) = a ∧ t.1 572 (R q) = cI (q : Int) := fun q hq => by
    obtain ⟨w1, w2, w3⟩ := q5 (ix a) q r1 (by omega)
    rw [rows_at al] at w1 w2 w3
    rw [rR]
    exact ⟨(cI_ix w1.1).symm, w1.ix, by rw [w2, rc], w3⟩
  have hMem : ∀ y, (∃ q, q < n ∧ y = R q) ↔ y < ix (s.1 30 9) ∧ t.1 571 y = a := fun y => by
    constructor
    · rintro ⟨q, h1, h2⟩
      obtain ⟨w1, w2, w3, w4⟩ := hRow q h1
      rw [h2]
      exact ⟨w2, by rw [q2 _ w2]; exact w3⟩
    · rintro ⟨h1, h2⟩
      rw [q2 _ h1] at h2
      rcases q4 y h1 with w | ⟨w1, w2, w3⟩
      · rw [w] at h2
        have := ha.1
        rw [← h2] at this
        exact absurd this (by decide)
      · rw [h2] at w2 w3
        have w4 := w2.ix
        rw [rows_at al] at w3
        refine ⟨ix (t.1 572 y), by omega, ?_⟩
        rw [rR, w3, k_ix (by omega)]
  obtain ⟨P, s1, a1, a2, a3, a4, a5, a6, a7⟩ := st_all (s := s) (a := a) (n := n) (R := R) al n20 (fun q hq => by have := (hRow q hq).2.1; omega) (fun q q' h1 h2 e => by
    have w := (hRow q (by omega)).2.2.2
    rw [e, (hRow q' h2).2.2.2, eq_i, k_ti (by omega), k_ti (by omega)] at w
    omega) (fun q hq => (hRow q hq).1)
  have pm : ∀ y, y ∈ P ↔ y < ix (s.1 30 9) ∧ t.1 571 y = a := fun y => (a5 y).trans (hMem y)
  obtain ⟨P', t1, y2, b1, b2, b3, b4, b5, b6⟩ := ls_lp (s := s) (a := a) (B := t.1 571) (ix (s.1 30 9)) 1048576 0 [] t (cI 0) (cI 0) (by omega) rfl rfl (by omega) hS hP rfl (fun l hl hy => by
    have := List.Nodup.length_le_of_subset hl (fun y w => (pm y).mpr (hy y w) : l ⊆ P)
    omega) (fun q hq => absurd hq (Nat.not_lt_zero _)) List.Pairwise.nil (fun y => ⟨fun w => (by cases w), fun w => absurd w.1 (Nat.not_lt_zero _)⟩)
  obtain rfl : P' = P := sorted_eq a4 b4 (fun y => (b5 y).trans (pm y).symm)
  have ey : y2 = cI (n : Int) := by rw [eq_i, b2, a2, k_ti (by omega)]
  subst ey
  obtain ⟨Q, eQ⟩ : ∃ Q : Nat → Nat, Q = fun q => P'.getD q 0 := ⟨_, rfl⟩
  have hQ : ∀ q (h : q < P'.length), Q q = P'[q] := fun q h => by rw [eQ]; show P'.getD q 0 = _; rw [List.getD_eq_getElem?_getD, List.getElem?_eq_getElem h]; rfl
  have hQ1 : ∀ q, q < n → Q q < ix (s.1 30 9) ∧ t.1 571 (Q q) = a := fun q hq => by
    rw [hQ q (by omega)]
    exact (pm _).mp (List.getElem_mem _)
  have hJ : ∀ q q', q < n → q' < n → Q q = Q q' → q = q' := fun q q' h1 h2 e => by
    rw [hQ q (by omega), hQ q' (by omega)] at e
    have pg := List.pairwise_iff_getElem.mp a4
    rcases Nat.lt_trichotomy q q' with w | w | w
    · have := pg q q' (by omega) (by omega) w; omega
    · exact w
    · have := pg q' q (by omega) (by omega) w; omega
  have hR1 : Rw s1 (ix a) n Q := fun q hq => by rw [a3 q (by omega), hQ q (by omega)]
  have c146 : ∀ c, c < 146 → s1.1 c = s.1 c := fun c hc => a6 c (by omega)
  have S1 : RSt s1 t := hS.keep a7 rf_fr (by decide +kernel) rfl
  have P1 : RPo s1 t := hP.keep a7 rf_fr (by decide +kernel) rfl
  obtain ⟨X, eX⟩ : ∃ X : Nat → Int32, X = fun i => if i = n then s.1 141 (ix a) else pX s (Q i) := ⟨_, rfl⟩
  obtain ⟨Y, eY⟩ : ∃ Y : Nat → Int32, Y = fun i => if i = n then s.1 142 (ix a) else pY s (Q i) := ⟨_, rfl⟩
  have Xn : X n = s.1 141 (ix a) := by rw [eX]; exact if_pos rfl
  have Yn : Y n = s.1 142 (ix a) := by rw [eY]; exact if_pos rfl
  have Xq : ∀ q, q < n → X q = pX s (Q q) := fun q hq => by rw [eX]; exact if_neg (by omega)
  have Yq : ∀ q, q < n → Y q = pY s (Q q) := fun q hq => by rw [eY]; exact if_neg (by omega)
  have hasQ : ∀ q, q < n → Has (cI (Q q : Int)) (s.1 30 9) ∧ ix (cI (Q q : Int)) = Q q := fun q hq => by
    have w := (hQ1 q hq).1
    have w2 := ix_toNat (s.1 30 9)
    exact ⟨⟨by rw [k_ti (by omega)]; omega, by rw [k_ti (by omega)]; omega⟩, k_ix (by omega)⟩
  have hfar : ∀ i, i ≤ n → far4 (X i) ∧ far4 (Y i) := fun i hi => by
    by_cases z : i = n
    · rw [z, Xn, Yn]
      exact ⟨g5 _ r1, g6 _ r1⟩
    · rw [Xq i (by omega), Yq i (by omega)]
      obtain ⟨w1, w2⟩ := hasQ i (by omega)
      have w3 := pXY_b hS hP w1
      rw [w2] at w3
      exact w3
  obtain ⟨d, ed⟩ : ∃ d : Nat → Nat → Int32, d = fun i j => dst (X i) (Y i) (X j) (Y j) := ⟨_, rfl⟩
  have hd : Dn d n := fun i j hi hj => by
    rw [ed]
    exact (dst_b (hfar i hi).1 (hfar i hi).2 (hfar j hj).1 (hfar j hj).2).2
  have hc : ∀ q, q < n → d n q = d q n := fun q hq => by
    rw [ed]
    exact dst_comm (hfar n (Nat.le_refl _)).1 (hfar n (Nat.le_refl _)).2 (hfar q (by omega)).1 (hfar q (by omega)).2
  have hG : Gq s1 a n Q d := fun q hq => by
    obtain ⟨w1, w2⟩ := hasQ q hq
    refine ⟨?_, fun q' hq' => ?_⟩
    · rw [e_fromB S1 P1 (by rw [c146 30 (by decide)]; exact w1) hb, w2, (pX_cg c146).1, (pX_cg c146).2, c146 141 (by decide), c146 142 (by decide), ed, ← Xq q hq, ← Yq q hq, ← Xn, ← Yn]
    · obtain ⟨w3, w4⟩ := hasQ q' hq'
      rw [e_between S1 P1 (by rw [c146 30 (by decide)]; exact w1) (by rw [c146 30 (by decide)]; exact w3), w2, w4, (pX_cg c146).1, (pX_cg c146).2, (pX_cg c146).1, (pX_cg c146).2, ed, ← Xq q hq, ← Yq q hq, ← Xq q' hq', ← Yq q' hq']
  have f549 : t1.1 549 38 = s.1 30 9 := by rw [(b6.1 549 38 (by decide +kernel)).1, p1]
  have f608 : t1.1 608 (ix a) = s.1 141 (ix a) := by rw [(b6.1 608 (ix a) rfl).1, g2 _ r1]
  have f609 : t1.1 609 (ix a) = s.1 142 (ix a) := by rw [(b6.1 609 (ix a) rfl).1, g3 _ r1]
  have f571 : t1.1 571 = t.1 571 := funext fun k => (b6.1 571 k rfl).1
  have f572 : t1.1 572 = t.1 572 := funext fun k => (b6.1 572 k rfl).1
  have e2 : fM_doArrange_h33 1 t1 a (cI (n : Int)) (s.1 30 9) = if cI (n : Int) = 0 then some (wI (wI t1 665 n (X n)) 666 n (Y n), cI 0) else if cI (n : Int) ≤ cI 8 then bd2 (fM_arrangeExactly (wI (wI t1 665 n (X n)) 666 n (Y n)) (cI (n : Int))) fun s8 v9 => some (s8, v9) else bd2 (fM_arrangeByNearest (wI (wI t1 665 n (X n)) 666 n (Y n)) (cI (n : Int))) fun s10 v11 => some (s10, v11) := by
    rw [fM_doArrange_h33, if_neg (by rw [f549, lt_i]; omega), if_pos hb, if_pos (k_in (by omega) (by decide)), ltM_eq, if_pos hb, if_pos (k_in (by omega) (by decide)), ltM_eq, k_ix (by omega), f608, wI_ne (show 609 ≠ 665 by decide), f609, Xn, Yn]
  have w2 : fr FarM t (wI (wI t1 665 n (X n)) 666 n (Y n)) := ((b6.mono (by decide +kernel)).wI rfl).wI rfl
  by_cases h0 : n = 0
  · subst h0
    have nl : cI ((0 : Nat) : Int) = 0 := rfl
    obtain ⟨s2, l1, l2, l3, l4, l5⟩ := leastWay (s := s1) (by omega) hb hd hc (by rw [c146 143 (by decide)]; exact hn) hG hR1
    refine ⟨s2, _, cI 0, ?_, ?_, ?_, (a7.mono (by decide +kernel)).tr (l5.mono (by decide +kernel)), w2⟩
    · rw [hn, a1, if_pos (by decide), l1, bd1_some]
      unfold fRounds_arrangeStops_b122 fRounds_wayOf
      simp only [ix_0, ix_1, ix_2, ix_3, ix_4, ix_5, ix_6, ix_7, ix_8, ix_9, ix_10, ix_11, ix_12, ix_13, ix_14, ix_15, ix_16, ix_17, ix_18, ix_19, ix_20, ix_21, Nat.reduceAdd, wI_c, wI_ne, wL_1, lupd_ne, up1_eq, up1_ne]
      rw [if_pos hb, ltI_eq, l4 143 (by decide) (by omega), c146 143 (by decide), hn, if_pos nl, bd1_some]
    · rw [b1, e2, if_pos nl]
    · refine h.arr (P := Q) (o := fun q => q) m3 ha hn n20 p3 (fun k hk => absurd hk (Nat.not_lt_zero _)) (fun p hp e => ?_) (fun q hq => hq) (fun k hk => ⟨k, hk, rfl⟩) (by rw [l4 138 (by decide) (by omega), c146 138 (by decide)]) (by rw [l4 30 (by decide) (by omega), c146 30 (by decide)]) (by rw [l4 143 (by decide) (by omega), c146 143 (by decide)]) (by rw [l4 158 (by decide) (by omega), a6 158 (by omega)]) (fun q hq => absurd hq (Nat.not_lt_zero _)) (fun r h1 h2 => by rw [l4 _ (by omega) (by omega), a6 _ (by omega)]) (by rw [wI_ne (by decide), wI_ne (by decide), f571]) (fun q hq => absurd hq (Nat.not_lt_zero _)) (fun i _ => by rw [wI_ne (by decide), wI_ne (by decide), f572])
      obtain ⟨q, g, -⟩ := (hMem p).mpr ⟨hp, by rw [q2 _ hp]; exact e⟩
      exact absurd g (Nat.not_lt_zero _)
  · have nz : ¬ cI (n : Int) = 0 := fun w => by rw [eq_i, k_ti (by omega), i32_0] at w; omega
    have hF : Fg (wI (wI t1 665 n (X n)) 666 n (Y n)) n d := fun i j hi hj => by
      have wx : ∀ i, i ≤ n → (wI (wI t1 665 n (X n)) 666 n (Y n)).1 665 i = X i ∧ (wI (wI t1 665 n (X n)) 666 n (Y n)).1 666 i = Y i := fun i hi => by
        rw [wI_ne (show 665 ≠ 666 by decide), wI_c, wI_c, wI_ne (show 666 ≠ 665 by decide)]
        by_cases z : i = n
        · rw [z, up1_eq, up1_eq]; exact ⟨rfl, rfl⟩
        · obtain ⟨w1, w2, w3⟩ := b3 i (by omega)
          rw [up1_ne z, up1_ne z, w2, w3, Xq i (by omega), Yq i (by omega), hQ i (by omega)]
          exact ⟨rfl, rfl⟩
      rw [e_far (k_in (by omega) (by decide)) (k_in (by omega) (by decide)), k_ix (by omega), k_ix (by omega), (wx i hi).1, (wx i hi).2, (wx j hj).1, (wx j hj).2, ed]
    obtain ⟨o, s2, t2, v, v1, v2, v3, v4, v5, v6, v7, v8, v9⟩ := arr_way (s := s1) (t := wI (wI t1 665 n (X n)) 666 n (Y n)) (P := Q) n20 (by omega) hb hd hc hJ (by rw [c146 143 (by decide)]; exact hn) hG hR1 hF (fun q hq => by
      rw [wI_ne (by decide), wI_ne (by decide), (b3 q (by omega)).1, hQ q (by omega)]
      have := (hQ1 q hq).1
      rw [hQ q (by omega)] at this
      exact ⟨rfl, by omega⟩)
    refine ⟨s2, t2, v, ?_, ?_, ?_, (a7.mono (by decide +kernel)).tr v8, w2.tr v9⟩
    · rw [hn, a1]; exact v1
    · rw [b1, e2, if_neg nz]; exact v2
    · refine h.arr (P := Q) (o := o) m3 ha hn n20 p3 (fun k hk => ?_) (fun p hp e => ?_) v4 (surj_n v4 (fun q q' h1 h2 e => ?_)) (by rw [v7 138 (by decide) (by omega), c146 138 (by decide)]) (by rw [v7 30 (by decide) (by omega), c146 30 (by decide)]) (by rw [v7 143 (by decide) (by omega), c146 143 (by decide)]) (by rw [v7 158 (by decide) (by omega), a6 158 (by omega)]) v3 (fun r h1 h2 => by rw [v7 _ (by omega) (by omega), a6 _ (by omega)]) ?_ v5 (fun i hi => by rw [v6 i hi, wI_ne (by decide), wI_ne (by decide), f572])
      · obtain ⟨w1, w2⟩ := hQ1 k hk
        exact ⟨w1, by rw [← q2 _ w1]; exact w2⟩
      · have w := (pm p).mpr ⟨hp, by rw [q2 _ hp]; exact e⟩
        obtain ⟨k, k1, k2⟩ := List.mem_iff_getElem.mp w
        exact ⟨k, by omega, by rw [hQ k k1, k2]⟩
      · have w := v5 q (by omega)
        rw [e, v5 q' h2, eq_i, k_ti (by omega), k_ti (by omega)] at w
        omega
      · have w3 : t2.1 571 = (wI (wI t1 665 n (X n)) 666 n (Y n)).1 571 := funext fun k => (v9.1 571 k rfl).1
        rw [w3, wI_ne (by decide), wI_ne (by decide), f571]
section
variable {s t : ev_M} {F : Bool} {A : Nat → Nat → Int32}
theorem a_arrange {a : Int32} (hA : AdmC s F A) (hM : FulM t F) (h0 : t.1 549 15 = 0) (h : RSp s t) (hr : RRo s t) (hP : RPo s t) (hS : RSt s t) : Ok (fRounds_arrangeStops s a) fun x => Ok (fM_doArrange t a) fun y => AP RSp RSp F A s x y := by
  obtain ⟨⟨m1, m2, m3⟩, -⟩ := id hr
  have hn : RSp s (wI t 549 15 (cI 1)) := h.keep rf_fr no_fr rfl rfl
  have iM : fM_isRound t a = some (bI (Has a (s.1 138 3))) := by rw [e_isRound (by rw [m1]; exact m2), m1]
  by_cases h1 : Has a (s.1 138 3)
  rotate_left
  · refine sim_no (c := cI (-101)) ?_ ?_ hn
    · unfold fRounds_arrangeStops
      generalize fRounds_arrangeStops_h43 1048576 = H
      rw [e_roundsHas m2, bd1_some, ite_bI, if_neg h1]
    · unfold fM_doArrange
      generalize fM_doArrange_h33 1048576 = H
      rw [iM, bd1_some, ite_bI, if_neg h1, no_eq, bd2_some]
  have hb : inb a 12 = true := h1.inb m3
  have kC : fRounds_arrangeStops s a = bd2 (fLog_admits s) fun s8 v9 => if v9 = 0 then some (s8, cI (-104)) else fRounds_arrangeStops_h43 1048576 s8 a (s8.1 143 (ix a)) (ix a) (cI 1) := by
    unfold fRounds_arrangeStops
    generalize fRounds_arrangeStops_h43 1048576 = H
    rw [e_roundsHas m2, bd1_some, ite_bI, if_pos h1]
    simp only [ix_0, ix_1, ix_2, ix_3, ix_4, ix_5, ix_6, ix_7, ix_8, ix_9, ix_10, ix_11, ix_12, ix_13, ix_14, ix_15, ix_16, ix_17, ix_18, ix_19, ix_20, ix_21, Nat.reduceAdd, wI_c, wI_ne, wL_1, lupd_ne, up1_eq, up1_ne, if_pos hb, ltI_eq]
  have kM : fM_doArrange t a = bd1 (fM_full t) fun v15 => if v15 = 0 then fM_doArrange_h33 1048576 t a (cI 0) (cI 0) else some (wI t 549 15 (cI 1), cI (-104)) := by
    unfold fM_doArrange
    generalize fM_doArrange_h33 1048576 = H
    rw [iM, bd1_some, ite_bI, if_pos h1, no_eq, bd2_some]
  by_cases hF : F = true
  · subst hF
    exact sim_no (c := cI (-104)) (by rw [kC, hA.no, bd2_some, if_pos rfl]) (by rw [kM, hM.no, bd1_some, if_neg (show ¬ (1 : Int32) = 0 by decide)]) hn
  have hF2 : F = false := by cases F <;> simp_all
  subst hF2
  rw [hA.yes, bd2_some, if_neg (show ¬ (1 : Int32) = 0 by decide)] at kC
  rw [hM.yes, bd1_some, if_pos rfl] at kM
  have u138 : (lupd A s).1 138 = s.1 138 := lupd_ne (Or.inr (by decide))
  obtain ⟨s', t', v, v1, v2, v3, v4, v5⟩ := arr_core (a := a) (s := lupd A s) (t := t) (hS.keep lupd_fr rf_fr (by decide +kernel) (by decide +kernel)) (hP.keep lupd_fr rf_fr (by decide +kernel) (by decide +kernel)) (hr.keep lupd_fr rf_fr (by decide +kernel) (by decide +kernel)) (h.keep lupd_fr rf_fr (by decide +kernel) (by decide +kernel)) (by rw [u138]; exact h1)
  rw [kC, kM, v1, v2, ok_some, ok_some]
  refine ⟨rfl, Or.inr ⟨?_, rfl, lgS.fr v4 (by decide +kernel) (by decide +kernel), v3⟩⟩
  rw [(v5.1 549 15 (by decide +kernel)).1]; exact h0
end
