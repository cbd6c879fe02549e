/-! ===== LEVEL 3: the act tariff ===== -/
/-- a cell that a frame leaves alone -/
theorem cF {F : List (Nat × (Nat × Nat))} {s t : ev_M} {c : Nat} (h : fr F s t) (d : nof F [(c, 0)] = true) : t.1 c = s.1 c := (nof_c h d (c := c) (by simp)).1
def FsvM : List (Nat × (Nat × Nat)) := [(678, 678, 0), (679, 679, 0), (680, 680, 0)]
/-- the rows 678 to 680 of one memory hold the tariff of another, up to k -/
def Svd (k : Nat) (t t' : ev_M) : Prop := ∀ q, q < k → t'.1 678 q = t.1 637 q ∧ t'.1 679 q = t.1 638 q ∧ t'.1 680 q = t.1 639 q
theorem sv_lp {N : Nat} (hN : N ≤ 40) : ∀ (r m k : Nat) (t : ev_M), k + r = N → r < m → Svd k t t → ∃ t', fM_doTariff_h7 m t (cI (N : Int)) (cI (k : Int)) = fM_doTariff_h66 1048576 (wI (wI t' 549 125 (cI 0)) 549 139 (cI 0)) (cI (N : Int)) (cI (-1)) ∧ Svd N t t' ∧ fr FsvM t t'
  | 0, m, k, t, hk, hm, hS => by
    obtain ⟨m, rfl⟩ : ∃ k, m = k + 1 := ⟨m - 1, by omega⟩
    refine ⟨t, ?_, by rw [← show k = N by omega]; exact hS, fr.rf⟩
    rw [fM_doTariff_h7, if_neg (by rw [q_lt (by omega) (by omega)]; omega)]
    rfl
  | r + 1, m, k, t, hk, hm, hS => by
    obtain ⟨m, rfl⟩ : ∃ k, m = k + 1 := ⟨m - 1, by omega⟩
    have kb : inb (cI (k : Int)) 40 = true := q_in (by omega) (by decide)
    have kx : ix (cI (k : Int)) = k := q_ix (by omega)
    have f1 : fr FsvM t (wI (wI (wI t 678 k (t.1 637 k)) 679 k (t.1 638 k)) 680 k (t.1 639 k)) := ((fr.rf.wI rfl).wI rfl).wI rfl
    obtain ⟨t', a1, a2, a3⟩ := sv_lp hN r m (k + 1) (wI (wI (wI t 678 k (t.1 637 k)) 679 k (t.1 638 k)) 680 k (t.1 639 k)) (by omega) (by omega) (fun q hq => by
      simp (disch := decide) only [ix_0, ix_1, ix_2, ix_3, ix_4, ix_5, ix_6, ix_7, ix_8, ix_9, ix_10, ix_11, ix_12, ix_13, ix_14, ix_15, ix_16, ix_17, ix_18, ix_19, ix_20, ix_21, Nat.reduceAdd, wI_c, wI_ne, wL_1, lupd_ne, up1_eq, up1_ne]
      by_cases z : q = k
      · rw [z, up1_eq, up1_eq, up1_eq]; exact ⟨rfl, rfl, rfl⟩
      · rw [up1_ne z, up1_ne z, up1_ne z]; exact hS q (by omega))
    refine ⟨t', ?_, fun q hq => ?_, f1.tr a3⟩
    · rw [← a1, fM_doTariff_h7, if_pos ((q_lt (by omega) (by omega)).mpr (by omega))]
      simp (disch := decide) only [if_pos kb, kx, ltM_eq, ix_0, ix_1, ix_2, ix_3, ix_4, ix_5, ix_6, ix_7, ix_8, ix_9, ix_10, ix_11, ix_12, ix_13, ix_14, ix_15, ix_16, ix_17, ix_18, ix_19, ix_20, ix_21, Nat.reduceAdd, wI_c, wI_ne, wL_1, lupd_ne, up1_eq, up1_ne]
      rw [q_s (by omega)]
    · have := a2 q hq
      simp (disch := decide) only [ix_0, ix_1, ix_2, ix_3, ix_4, ix_5, ix_6, ix_7, ix_8, ix_9, ix_10, ix_11, ix_12, ix_13, ix_14, ix_15, ix_16, ix_17, ix_18, ix_19, ix_20, ix_21, Nat.reduceAdd, wI_c, wI_ne, wL_1, lupd_ne, up1_eq, up1_ne] at this
      exact this
theorem rs_lp {N : Nat} {x2 x3 : Int32} (hN : N ≤ 40) : ∀ (r m k : Nat) (t t0 : ev_M), k + r = N → r < m → Svd N t0 t → (∀ q, q < k → t.1 637 q = t0.1 637 q ∧ t.1 638 q = t0.1 638 q ∧ t.1 639 q = t0.1 639 q) → ∃ t', fM_doTariff_h158 m t (cI (N : Int)) x2 x3 (cI (k : Int)) = (if x3 = 0 then some (wI (wI t' 549 125 (cI (N : Int))) 549 15 (cI 1), cI (-1000) - x2) else some (wI (wI t' 549 125 (cI (N : Int))) 549 15 (cI 1), cI (-104))) ∧ (∀ q, q < N → t'.1 637 q = t0.1 637 q ∧ t'.1 638 q = t0.1 638 q ∧ t'.1 639 q = t0.1 639 q) ∧ fr [(637, 637, 0), (638, 638, 0), (639, 639, 0)] t t'
  | 0, m, k, t, t0, hk, hm, hS, hq => by
    obtain ⟨m, rfl⟩ : ∃ k, m = k + 1 := ⟨m - 1, by omega⟩
    refine ⟨t, ?_, by rw [← show k = N by omega]; exact hq, fr.rf⟩
    rw [fM_doTariff_h158, if_neg (by rw [q_lt (by omega) (by omega)]; omega), ltM_eq]
    unfold fM_doTariff_b232
    rw [no_eq, no_eq, bd2_some, bd2_some]
  | r + 1, m, k, t, t0, hk, hm, hS, hq => by
    obtain ⟨m, rfl⟩ : ∃ k, m = k + 1 := ⟨m - 1, by omega⟩
    have kb : inb (cI (k : Int)) 40 = true := q_in (by omega) (by decide)
    have kx : ix (cI (k : Int)) = k := q_ix (by omega)
    have f1 : fr [(637, 637, 0), (638, 638, 0), (639, 639, 0)] t (wI (wI (wI t 637 k (t.1 678 k)) 638 k (t.1 679 k)) 639 k (t.1 680 k)) := ((fr.rf.wI rfl).wI rfl).wI rfl
    obtain ⟨t', a1, a2, a3⟩ := rs_lp (x2 := x2) (x3 := x3) hN r m (k + 1) (wI (wI (wI t 637 k (t.1 678 k)) 638 k (t.1 679 k)) 639 k (t.1 680 k)) t0 (by omega) (by omega) (fun q h => by
      simp (disch := decide) only [ix_0, ix_1, ix_2, ix_3, ix_4, ix_5, ix_6, ix_7, ix_8, ix_9, ix_10, ix_11, ix_12, ix_13, ix_14, ix_15, ix_16, ix_17, ix_18, ix_19, ix_20, ix_21, Nat.reduceAdd, wI_c, wI_ne, wL_1, lupd_ne, up1_eq, up1_ne]
      exact hS q h) (fun q h => by
      simp (disch := decide) only [ix_0, ix_1, ix_2, ix_3, ix_4, ix_5, ix_6, ix_7, ix_8, ix_9, ix_10, ix_11, ix_12, ix_13, ix_14, ix_15, ix_16, ix_17, ix_18, ix_19, ix_20, ix_21, Nat.reduceAdd, wI_c, wI_ne, wL_1, lupd_ne, up1_eq, up1_ne]
      by_cases z : q = k
      · rw [z, up1_eq, up1_eq, up1_eq]; exact hS k (by omega)
      · rw [up1_ne z, up1_ne z, up1_ne z]; exact hq q (by omega))
    refine ⟨t', ?_, a2, f1.tr a3⟩
    rw [← a1, fM_doTariff_h158, if_pos ((q_lt (by omega) (by omega)).mpr (by omega))]
    simp (disch := decide) only [if_pos kb, kx, ltM_eq, ix_0, ix_1, ix_2, ix_3, ix_4, ix_5, ix_6, ix_7, ix_8, ix_9, ix_10, ix_11, ix_12, ix_13, ix_14, ix_15, ix_16, ix_17, ix_18, ix_19, ix_20, ix_21, Nat.reduceAdd, wI_c, wI_ne, wL_1, lupd_ne, up1_eq, up1_ne]
    rw [q_s (by omega)]
theorem tl1 {x1 : Int32} : ∀ (r m m' k p : Nat) (s t : ev_M), ix (s.1 1 1) < p + r → r < m → r < m' → Ps1 p s t → NwT s t → k ≤ p → (k = 0 ↔ ix (s.1 78 13) = 0) → ∃ (s' t' : ev_M) (f : Int32), fMoney_readTariff_1_h14 m s (cI (-1)) (cI (k : Int)) = fMoney_readTariff_1_b84 s' f ∧ fM_doTariff_h66 m' t x1 (cI (-1)) = fM_doTariff_b128 t' x1 f ∧ (f = cI (-1) ∨ (0 ≤ f.toInt ∧ f.toInt ≤ 4096)) ∧ NwT s' t' ∧ fr (FrdC1 ++ FnwC) s s' ∧ fr (FrdM ++ FnwM) t t'
  | 0, m, m', k, p, s, t, hr, hm, hm', hP, hN, hk, h0 => by
    have := hP.2.2.2
    omega
  | r + 1, m, m', k, p, s, t, hr, hm, hm', hP, hN, hk, h0 => by
    obtain ⟨m, rfl⟩ : ∃ k, m = k + 1 := ⟨m - 1, by omega⟩
    obtain ⟨m', rfl⟩ : ∃ k, m' = k + 1 := ⟨m' - 1, by omega⟩
    obtain ⟨m', rfl⟩ : ∃ k, m' = k + 1 := ⟨m' - 1, by omega⟩
    obtain ⟨m, rfl⟩ : ∃ k, m = k + 1 := ⟨m - 1, by omega⟩
    have pl := hP.le
    obtain ⟨⟨t1, t2, t3, t4⟩, p1, p2, p3⟩ := id hP
    obtain ⟨⟨n1, n2, n3⟩, -⟩ := id hN
    have ll := ix_toNat (s.1 1 1)
    have cc := ix_toNat (s.1 78 13)
    have ek0 : cI (k : Int) = 0 ↔ k = 0 := by rw [eq_i, q_ti (by omega), i32_0]; omega
    have em : (s.1 1 2 < s.1 1 1) ↔ p < ix (s.1 1 1) := by rw [p1, lt_i, q_ti (by omega)]; omega
    have em2 : (t.1 549 139 < t.1 549 13) ↔ p < ix (s.1 1 1) := by rw [p2, t1, lt_i, q_ti (by omega)]; omega
    have e125 : t.1 549 125 = 0 ↔ k = 0 := by rw [n1, eq_i, i32_0]; omega
    by_cases z : k = 0 ∨ p < ix (s.1 1 1)
    · obtain ⟨s1, t1', f, a1, a2, a3, a4, a5, a6⟩ := it1 hP hN
      have kC : fMoney_readTariff_1_h14 (m + 1 + 1) s (cI (-1)) (cI (k : Int)) = fMoney_readTariff_1_h14 (m + 1) s1 f (cI ((k + 1 : Nat) : Int)) := by
        rw [fMoney_readTariff_1_h14, if_pos (by rw [lt_i, q_ti (by omega), show (cI 4096).toInt = 4096 from rfl]; omega), if_pos rfl]
        by_cases y : k = 0
        · rw [if_pos (ek0.mpr y), a1, q_s (by omega)]
        · rw [if_neg (fun u => y (ek0.mp u))]
          unfold fTape_hasMore_1
          rw [if_pos (em.mpr (z.resolve_left y)), bd1_some, if_neg (show ¬ (cI 1 : Int32) = 0 by decide), a1, q_s (by omega)]
      have kM : fM_doTariff_h66 (m' + 1 + 1) t x1 (cI (-1)) = fM_doTariff_h66 (m' + 1) t1' x1 f := by
        rw [fM_doTariff_h66, if_pos rfl]
        by_cases y : p < ix (s.1 1 1)
        · rw [if_pos (em2.mpr y), a2]
        · rw [if_neg (fun u => y (em2.mp u)), if_pos (e125.mpr (z.resolve_right y)), a2]
      rcases a3 with ⟨b1, b2, p', b3, b4⟩ | ⟨b1, b2⟩
      · have el : s1.1 1 1 = s.1 1 1 := (a5.1 1 1 (by decide +kernel)).1
        obtain ⟨s', t', f', c1, c2, c3, c4, c5, c6⟩ := tl1 (x1 := x1) r (m + 1) (m' + 1) (k + 1) p' s1 t1' (by rw [el]; omega) (by omega) (by omega) b4 a4 (by omega) ⟨fun u => by omega, fun u => by omega⟩
        rw [b1] at kC kM
        exact ⟨s', t', f', kC.trans c1, kM.trans c2, c3, c4, a5.tr c5, a6.tr c6⟩
      · have nf : ¬ f = cI (-1) := fun u => by rw [u] at b1; exact absurd b1 (by decide)
        refine ⟨s1, t1', f, kC.trans ?_, kM.trans ?_, Or.inr ⟨b1, b2⟩, a4, a5, a6⟩
        · rw [fMoney_readTariff_1_h14, if_neg nf, ite_self]
        · rw [fM_doTariff_h66, if_neg nf]
    · have z1 : ¬ k = 0 := fun u => z (Or.inl u)
      have z2 : ¬ p < ix (s.1 1 1) := fun u => z (Or.inr u)
      refine ⟨s, t, cI (-1), ?_, ?_, Or.inl rfl, hN, fr.rf, fr.rf⟩
      · rw [fMoney_readTariff_1_h14, if_pos rfl, if_neg (fun u => z1 (ek0.mp u))]
        unfold fTape_hasMore_1
        rw [if_neg (fun u => z2 (em.mp u)), bd1_some, if_pos (show (cI 0 : Int32) = 0 from rfl), ite_self]
      · rw [fM_doTariff_h66, if_pos rfl, if_neg (fun u => z2 (em2.mp u)), if_neg (fun u => z1 (e125.mp u))]
theorem cp1 {s : ev_M} (h : Rg 0 (s.1 78 11) 40) : ∃ s', fMoney_readTariff_1_h118 1048576 s (cI 0) = some (s', s.1 78 11) ∧ (∀ q, q < ix (s.1 78 11) → s'.1 93 q = s.1 97 q ∧ s'.1 94 q = s.1 98 q ∧ s'.1 95 q = s.1 99 q) ∧ fr [(93, 93, 0), (94, 94, 0), (95, 95, 0)] s s' := by
  have cc := ix_toNat (s.1 78 11)
  obtain ⟨h0, h1⟩ := h
  have ac : ∀ (x : ev_M) (a b : Nat), x.1 78 11 = s.1 78 11 → fACP x 40 40 a b (cI 0) (cI 0) (x.1 78 11) = some (cpM x a b 0 0 (ix (s.1 78 11))) := fun x a b e => by
    unfold fACP
    rw [e, if_pos ⟨⟨by decide, by decide, by rw [le_i, i32_0]; exact h0⟩, by rw [ix_0]; omega, by rw [ix_0]; omega⟩, ix_0]
  have ne : ∀ (x : ev_M) (a b c k : Nat), c ≠ b → (cpM x a b 0 0 (ix (s.1 78 11))).1 c k = x.1 c k := fun x a b c k hc => by
    show (if c = b ∧ 0 ≤ k ∧ k < 0 + ix (s.1 78 11) then x.1 a (0 + (k - 0)) else x.1 c k) = _
    rw [if_neg (fun u => hc u.1)]
  have at' : ∀ (x : ev_M) (a b k : Nat), k < ix (s.1 78 11) → (cpM x a b 0 0 (ix (s.1 78 11))).1 b k = x.1 a k := fun x a b k hk => by
    show (if b = b ∧ 0 ≤ k ∧ k < 0 + ix (s.1 78 11) then x.1 a (0 + (k - 0)) else x.1 b k) = _
    rw [if_pos ⟨rfl, by omega, by omega⟩, Nat.zero_add, Nat.sub_zero]
  have e1 := ac s 97 93 rfl
  have e2 := ac (cpM s 97 93 0 0 (ix (s.1 78 11))) 98 94 (ne _ _ _ _ _ (by decide))
  have e3 := ac (cpM (cpM s 97 93 0 0 (ix (s.1 78 11))) 98 94 0 0 (ix (s.1 78 11))) 99 95 (by rw [ne _ _ _ _ _ (by decide), ne _ _ _ _ _ (by decide)])
  refine ⟨cpM (cpM (cpM s 97 93 0 0 (ix (s.1 78 11))) 98 94 0 0 (ix (s.1 78 11))) 99 95 0 0 (ix (s.1 78 11)), ?_, fun q hq => ⟨?_, ?_, ?_⟩, ?_⟩
  · show fMoney_readTariff_1_h118 (1048572 + 4) s (cI 0) = _
    generalize 1048572 = H
    rw [fMoney_readTariff_1_h118, if_pos (by decide), if_pos (by decide), if_pos (by decide), show 97 + ix (cI 0) = 97 from rfl, show 93 + ix (cI 0) = 93 from rfl, e1, bd1_some]
    rw [fMoney_readTariff_1_h118, if_pos (by decide), if_pos (by decide), if_pos (by decide), show 97 + ix (cI 0 + cI 1) = 98 from rfl, show 93 + ix (cI 0 + cI 1) = 94 from rfl, e2, bd1_some]
    rw [fMoney_readTariff_1_h118, if_pos (by decide), if_pos (by decide), if_pos (by decide), show 97 + ix (cI 0 + cI 1 + cI 1) = 99 from rfl, show 93 + ix (cI 0 + cI 1 + cI 1) = 95 from rfl, e3, bd1_some]
    rw [fMoney_readTariff_1_h118, if_neg (by decide), ne _ _ _ _ _ (by decide), ne _ _ _ _ _ (by decide), ne _ _ _ _ _ (by decide)]
  · rw [ne _ _ _ _ _ (by decide), ne _ _ _ _ _ (by decide), at' _ _ _ _ hq]
  · rw [ne _ _ _ _ _ (by decide), at' _ _ _ _ hq, ne _ _ _ _ _ (by decide)]
  · rw [at' _ _ _ _ hq, ne _ _ _ _ _ (by decide), ne _ _ _ _ _ (by decide)]
  · exact ((fr_acp (F := [(93, 93, 0), (94, 94, 0), (95, 95, 0)]) (fun k => rfl) e1).tr (fr_acp (F := [(93, 93, 0), (94, 94, 0), (95, 95, 0)]) (fun k => rfl) e2)).tr (fr_acp (F := [(93, 93, 0), (94, 94, 0), (95, 95, 0)]) (fun k => rfl) e3)
def FtfC1 : List (Nat × (Nat × Nat)) := FrdC1 ++ FnwC
def FtgC1 : List (Nat × (Nat × Nat)) := (78, 78, 12) :: (93, 93, 0) :: (94, 94, 0) :: (95, 95, 0) :: FtfC1
theorem a_tariff1 {s t : ev_M} {F : Bool} {A : Nat → Nat → Int32} (hA : AdmC s F A) (hM : FulM t F) (h0 : t.1 549 15 = 0) (h : RTa s t) (hx : RTx1 s t) : Ok (fMoney_readTariff_1 s) fun x => Ok (fM_doTariff t) fun y => AP RTa RTa F A s x y := by
  obtain ⟨⟨n1, n2, n3⟩, g1, g2, g3, b1, b2⟩ := id h
  have cc := ix_toNat (s.1 78 11)
  have ec : cI ((ix (s.1 78 11) : Nat) : Int) = s.1 78 11 := cI_ix n2
  -- where both begin
  obtain ⟨t1, a1, a2, a3⟩ := sv_lp (N := ix (s.1 78 11)) (by omega) (ix (s.1 78 11)) 1048576 0 t (by omega) (by omega) (fun q hq => absurd hq (Nat.not_lt_zero _))
  obtain ⟨s0, es0⟩ : ∃ x, x = wI (wI s 78 13 (cI 0)) 1 2 (cI 0) := ⟨_, rfl⟩
  obtain ⟨t0, et0⟩ : ∃ x, x = wI (wI t1 549 125 (cI 0)) 549 139 (cI 0) := ⟨_, rfl⟩
  rw [← et0] at a1
  have fs0 : fr FtfC1 s s0 := by rw [es0]; exact (fr.rf.wI rfl).wI rfl
  have fs0' : fr ((78, 78, 14) :: FrdC1) s s0 := by rw [es0]; exact (fr.rf.wI rfl).wI rfl
  have ft0 : fr (FsvM ++ (FrdM ++ FnwM)) t t0 := by rw [et0]; exact ((a3.mono (by decide +kernel)).wI rfl).wI rfl
  have P0 : Ps1 0 s0 t0 := by
    obtain ⟨x1, x2, x3, x4⟩ := hx
    have e1 : s0.1 1 1 = s.1 1 1 := (fs0.1 1 1 (by decide +kernel)).1
    refine ⟨⟨?_, by rw [e1]; exact x2, by rw [e1]; exact x3, fun k hk => ?_⟩, ?_, ?_, Nat.zero_le _⟩
    · rw [e1, (ft0.1 549 13 (by decide +kernel)).1]; exact x1
    · rw [e1] at hk
      rw [cF (c := 554) ft0 (by decide +kernel), cF (c := 2) fs0 (by decide +kernel)]; exact x4 k hk
    · rw [es0, wI_c, up1_eq]; rfl
    · rw [et0, wI_c, up1_eq]; rfl
  have c13 : s0.1 78 13 = cI 0 := by rw [es0, wI_ne (by decide), wI_c, up1_eq]
  have N0 : NwT s0 t0 := by
    unfold NwT
    rw [c13, et0, wI_c, up1_ne (by decide), wI_c, up1_eq]
    exact ⟨⟨rfl, by decide, by decide⟩, fun i hi => absurd hi (Nat.not_lt_zero _), fun i hi => absurd hi (Nat.not_lt_zero _), fun i hi => absurd hi (Nat.not_lt_zero _), fun i hi => absurd hi (Nat.not_lt_zero _), fun i hi => absurd hi (Nat.not_lt_zero _)⟩
  have L4 : ix (s0.1 1 1) ≤ 4096 := by
    have := P0.1.2.2.1
    rw [ix_toNat]; omega
  obtain ⟨s1, t2, f, d1, d2, d3, d4, d5, d6⟩ := tl1 (x1 := cI ((ix (s.1 78 11) : Nat) : Int)) (ix (s0.1 1 1) + 1) 1048576 1048576 0 0 s0 t0 (by omega) (by omega) (by omega) P0 N0 (Nat.le_refl _) ⟨fun _ => by rw [c13]; rfl, fun _ => rfl⟩
  have fs1 : fr FtfC1 s s1 := fs0.tr d5
  have ft1 : fr (FsvM ++ (FrdM ++ FnwM)) t t2 := ft0.tr (d6.mono (by decide +kernel))
  have kC : fMoney_readTariff_1 s = fMoney_readTariff_1_b84 s1 f := by
    unfold fMoney_readTariff_1
    rw [ltM_eq, ltM_eq, ← es0]
    exact d1
  have kM : fM_doTariff t = fM_doTariff_b128 t2 (cI ((ix (s.1 78 11) : Nat) : Int)) f := by
    unfold fM_doTariff
    have e : t.1 549 125 = cI ((ix (s.1 78 11) : Nat) : Int) := n1.trans ec.symm
    rw [ltI_eq, e]
    exact a1.trans d2
  have sS1 : lgS s s1 := lgS.fr fs1 (by decide +kernel) (by decide +kernel)
  have sT1 : lgT t t2 := ⟨(ft1.1 549 4 (by decide +kernel)).1, (ft1.1 549 9 (by decide +kernel)).1, (ft1.1 549 13 (by decide +kernel)).1, (ft1.1 549 14 (by decide +kernel)).1, (ft1.1 549 16 (by decide +kernel)).1⟩
  have sv : Svd (ix (s.1 78 11)) t t2 := fun q hq => by
    have fx : fr ((549, 549, 126) :: (549, 549, 140) :: (FrdM ++ FnwM)) t1 t2 := by
      refine fr.tr ?_ (d6.mono (by decide +kernel))
      rw [et0]; exact (fr.rf.wI rfl).wI rfl
    rw [cF (c := 678) fx (by decide +kernel), cF (c := 679) fx (by decide +kernel), cF (c := 680) fx (by decide +kernel)]
    exact a2 q hq
  -- refused: the reference lays the old tariff back
  have back : ∀ (x3 : Int32), ∃ t', fM_doTariff_b155 t2 (cI ((ix (s.1 78 11) : Nat) : Int)) f x3 = (if x3 = 0 then some (t', cI (-1000) - f) else some (t', cI (-104))) ∧ t'.1 549 15 = 1 ∧ RTa s1 t' := by
    intro x3
    obtain ⟨t', e1, e2, e3⟩ := rs_lp (N := ix (s.1 78 11)) (x2 := f) (x3 := x3) (by omega) (ix (s.1 78 11)) 1048576 0 t2 t (by omega) (by omega) sv (fun q hq => absurd hq (Nat.not_lt_zero _))
    refine ⟨wI (wI t' 549 125 (cI ((ix (s.1 78 11) : Nat) : Int))) 549 15 (cI 1), e1, by rw [wI_c, up1_eq]; rfl, ?_⟩
    unfold RTa
    simp (disch := decide) only [ix_0, ix_1, ix_2, ix_3, ix_4, ix_5, ix_6, ix_7, ix_8, ix_9, ix_10, ix_11, ix_12, ix_13, ix_14, ix_15, ix_16, ix_17, ix_18, ix_19, ix_20, ix_21, Nat.reduceAdd, wI_c, wI_ne, wL_1, lupd_ne, up1_eq, up1_ne, ec]
    rw [(fs1.1 78 11 (by decide +kernel)).1, cF (c := 93) fs1 (by decide +kernel), cF (c := 94) fs1 (by decide +kernel), cF (c := 95) fs1 (by decide +kernel)]
    refine ⟨⟨rfl, n2, n3⟩, fun i hi => ?_, fun i hi => ?_, fun i hi => ?_, b1, b2⟩
    · rw [(e2 i hi).1]; exact g1 i hi
    · rw [(e2 i hi).2.1]; exact g2 i hi
    · rw [(e2 i hi).2.2]; exact g3 i hi
  rw [kC, kM]
  rcases d3 with d3 | ⟨d3, d3'⟩
  · subst d3
    unfold fMoney_readTariff_1_b84 fM_doTariff_b128
    rw [if_pos rfl, if_pos rfl]
    by_cases hF : F = true
    · subst hF
      obtain ⟨t', e1, e2, e3⟩ := back (cI 1)
      have aY : fLog_admits s1 = some (s1, 0) := hA s1 sS1
      have bY : fM_full t2 = some 1 := hM t2 sT1
      rw [aY, bd2_some, bY, bd1_some, if_pos rfl, if_neg (show ¬ (1 : Int32) = 0 by decide)]
      unfold fM_doTariff_b145
      rw [if_pos rfl, if_neg (show ¬ (cI 1 : Int32) = 0 by decide), e1, if_neg (show ¬ (cI 1 : Int32) = 0 by decide), ok_some, ok_some]
      exact ⟨rfl, Or.inl ⟨e2, sS1, e3⟩⟩
    · have hF2 : F = false := by cases F <;> simp_all
      subst hF2
      have aY : fLog_admits s1 = some (lupd A s1, 1) := hA s1 sS1
      have bY : fM_full t2 = some 0 := hM t2 sT1
      rw [aY, bd2_some, bY, bd1_some, if_neg (show ¬ (1 : Int32) = 0 by decide), if_pos rfl, ltM_eq]
      unfold fM_doTariff_b144 fM_doTariff_b145
      rw [if_pos rfl, if_pos (show (cI 0 : Int32) = 0 from rfl)]
      obtain ⟨⟨m1, m2, m3⟩, u1, u2, u3, u4, u5⟩ := d4
      have e78 : (lupd A s1).1 78 13 = s1.1 78 13 := by rw [lupd_ne (Or.inr (by decide))]
      rw [e78]
      obtain ⟨s', v1, v2, v3⟩ := cp1 (s := wI (lupd A s1) 78 11 (s1.1 78 13)) (by rw [wI_c, up1_eq]; exact ⟨m2, m3⟩)
      have e11 : (wI (lupd A s1) 78 11 (s1.1 78 13)).1 78 11 = s1.1 78 13 := by rw [wI_c, up1_eq]
      rw [e11] at v1 v2
      have w9 : ∀ c, 96 ≤ c → c ≤ 99 → (wI (lupd A s1) 78 11 (s1.1 78 13)).1 c = s1.1 c := fun c h1 h2 => by rw [wI_ne (by omega), lupd_ne (Or.inr (by omega))]
      rw [w9 97 (by decide) (by decide), w9 98 (by decide) (by decide), w9 99 (by decide) (by decide)] at v2
      rw [v1, ok_some, ok_some]
      have x11 : s'.1 78 11 = s1.1 78 13 := by rw [(v3.1 78 11 (by decide +kernel)).1, e11]
      refine ⟨?_, Or.inr ⟨?_, rfl, ?_, ?_⟩⟩
      · exact m1.symm
      · rw [(ft1.1 549 15 (by decide +kernel)).1]; exact h0
      · have q1 : fr FtfC1 (lupd A s) (lupd A s1) := by
          refine ⟨fun c k hc => ⟨?_, ?_⟩, ?_⟩
          · show (if 9 ≤ c ∧ c ≤ 14 then A c k else s1.1 c k) = (if 9 ≤ c ∧ c ≤ 14 then A c k else s.1 c k)
            by_cases y : 9 ≤ c ∧ c ≤ 14
            · rw [if_pos y, if_pos y]
            · rw [if_neg y, if_neg y]; exact (fs1.1 c k hc).1
          · exact (fs1.1 c k hc).2
          · exact fs1.2
        have q2 : fr FtgC1 (lupd A s) s' := ((q1.mono (by decide +kernel)).wI rfl).tr (v3.mono (by decide +kernel))
        exact lgS.fr q2 (by decide +kernel) (by decide +kernel)
      · unfold RTa
        rw [x11]
        refine ⟨⟨m1, m2, m3⟩, fun i hi => ?_, fun i hi => ?_, fun i hi => ?_, fun i hi => ?_, fun i hi => ?_⟩
        · rw [(v2 i hi).1]; exact u1 i hi
        · rw [(v2 i hi).2.1]; exact u2 i hi
        · rw [(v2 i hi).2.2]; exact u3 i hi
        · rw [(v2 i hi).2.1]; exact u4 i hi
        · rw [(v2 i hi).2.2]; exact u5 i hi
  · have nf : ¬ f = cI (-1) := fun u => by rw [u] at d3; exact absurd d3 (by decide)
    obtain ⟨t', e1, e2, e3⟩ := back (cI 0)
    unfold fMoney_readTariff_1_b84 fM_doTariff_b128 fM_doTariff_b144 fM_doTariff_b145
    rw [if_neg nf, if_neg nf, if_neg nf, e1, if_pos (show (cI 0 : Int32) = 0 from rfl), ok_some, ok_some]
    exact ⟨rfl, Or.inl ⟨e2, sS1, e3⟩⟩
theorem tl4 {x1 : Int32} : ∀ (r m m' k p : Nat) (s t : ev_M), ix (s.1 4 1) < p + r → r < m → r < m' → Ps4 p s t → NwT s t → k ≤ p → (k = 0 ↔ ix (s.1 78 13) = 0) → ∃ (s' t' : ev_M) (f : Int32), fMoney_readTariff_4_h14 m s (cI (-1)) (cI (k : Int)) = fMoney_readTariff_4_b84 s' f ∧ fM_doTariff_h66 m' t x1 (cI (-1)) = fM_doTariff_b128 t' x1 f ∧ (f = cI (-1) ∨ (0 ≤ f.toInt ∧ f.toInt ≤ 4096)) ∧ NwT s' t' ∧ fr (FrdC4 ++ FnwC) s s' ∧ fr (FrdM ++ FnwM) t t'
  | 0, m, m', k, p, s, t, hr, hm, hm', hP, hN, hk, h0 => by
    have := hP.2.2.2
    omega
  | r + 1, m, m', k, p, s, t, hr, hm, hm', hP, hN, hk, h0 => by
    obtain ⟨m, rfl⟩ : ∃ k, m = k + 1 := ⟨m - 1, by omega⟩
    obtain ⟨m', rfl⟩ : ∃ k, m' = k + 1 := ⟨m' - 1, by omega⟩
    obtain ⟨m', rfl⟩ : ∃ k, m' = k + 1 := ⟨m' - 1, by omega⟩
    obtain ⟨m, rfl⟩ : ∃ k, m = k + 1 := ⟨m - 1, by omega⟩
    have pl := hP.le
    obtain ⟨⟨t1, t2, t3, t4⟩, p1, p2, p3⟩ := id hP
    obtain ⟨⟨n1, n2, n3⟩, -⟩ := id hN
    have ll := ix_toNat (s.1 4 1)
    have cc := ix_toNat (s.1 78 13)
    have ek0 : cI (k : Int) = 0 ↔ k = 0 := by rw [eq_i, q_ti (by omega), i32_0]; omega
    have em : (s.1 4 2 < s.1 4 1) ↔ p < ix (s.1 4 1) := by rw [p1, lt_i, q_ti (by omega)]; omega
    have em2 : (t.1 549 139 < t.1 549 13) ↔ p < ix (s.1 4 1) := by rw [p2, t1, lt_i, q_ti (by omega)]; omega
    have e125 : t.1 549 125 = 0 ↔ k = 0 := by rw [n1, eq_i, i32_0]; omega
    by_cases z : k = 0 ∨ p < ix (s.1 4 1)
    · obtain ⟨s1, t1', f, a1, a2, a3, a4, a5, a6⟩ := it4 hP hN
      have kC : fMoney_readTariff_4_h14 (m + 1 + 1) s (cI (-1)) (cI (k : Int)) = fMoney_readTariff_4_h14 (m + 1) s1 f (cI ((k + 1 : Nat) : Int)) := by
        rw [fMoney_readTariff_4_h14, if_pos (by rw [lt_i, q_ti (by omega), show (cI 4096).toInt = 4096 from rfl]; omega), if_pos rfl]
        by_cases y : k = 0
        · rw [if_pos (ek0.mpr y), a1, q_s (by omega)]
        · rw [if_neg (fun u => y (ek0.mp u))]
          unfold fTape_hasMore_4
          rw [if_pos (em.mpr (z.resolve_left y)), bd1_some, if_neg (show ¬ (cI 1 : Int32) = 0 by decide), a1, q_s (by omega)]
      have kM : fM_doTariff_h66 (m' + 1 + 1) t x1 (cI (-1)) = fM_doTariff_h66 (m' + 1) t1' x1 f := by
        rw [fM_doTariff_h66, if_pos rfl]
        by_cases y : p < ix (s.1 4 1)
        · rw [if_pos (em2.mpr y), a2]
        · rw [if_neg (fun u => y (em2.mp u)), if_pos (e125.mpr (z.resolve_right y)), a2]
      rcases a3 with ⟨b1, b2, p', b3, b4⟩ | ⟨b1, b2⟩
      · have el : s1.1 4 1 = s.1 4 1 := (a5.1 4 1 (by decide +kernel)).1
        obtain ⟨s', t', f', c1, c2, c3, c4, c5, c6⟩ := tl4 (x1 := x1) r (m + 1) (m' + 1) (k + 1) p' s1 t1' (by rw [el]; omega) (by omega) (by omega) b4 a4 (by omega) ⟨fun u => by omega, fun u => by omega⟩
        rw [b1] at kC kM
        exact ⟨s', t', f', kC.trans c1, kM.trans c2, c3, c4, a5.tr c5, a6.tr c6⟩
      · have nf : ¬ f = cI (-1) := fun u => by rw [u] at b1; exact absurd b1 (by decide)
        refine ⟨s1, t1', f, kC.trans ?_, kM.trans ?_, Or.inr ⟨b1, b2⟩, a4, a5, a6⟩
        · rw [fMoney_readTariff_4_h14, if_neg nf, ite_self]
        · rw [fM_doTariff_h66, if_neg nf]
    · have z1 : ¬ k = 0 := fun u => z (Or.inl u)
      have z2 : ¬ p < ix (s.1 4 1) := fun u => z (Or.inr u)
      refine ⟨s, t, cI (-1), ?_, ?_, Or.inl rfl, hN, fr.rf, fr.rf⟩
      · rw [fMoney_readTariff_4_h14, if_pos rfl, if_neg (fun u => z1 (ek0.mp u))]
        unfold fTape_hasMore_4
        rw [if_neg (fun u => z2 (em.mp u)), bd1_some, if_pos (show (cI 0 : Int32) = 0 from rfl), ite_self]
      · rw [fM_doTariff_h66, if_pos rfl, if_neg (fun u => z2 (em2.mp u)), if_neg (fun u => z1 (e125.mp u))]
theorem cp4 {s : ev_M} (h : Rg 0 (s.1 78 11) 40) : ∃ s', fMoney_readTariff_4_h118 1048576 s (cI 0) = some (s', s.1 78 11) ∧ (∀ q, q < ix (s.1 78 11) → s'.1 93 q = s.1 97 q ∧ s'.1 94 q = s.1 98 q ∧ s'.1 95 q = s.1 99 q) ∧ fr [(93, 93, 0), (94, 94, 0), (95, 95, 0)] s s' := by
  have cc := ix_toNat (s.1 78 11)
  obtain ⟨h0, h1⟩ := h
  have ac : ∀ (x : ev_M) (a b : Nat), x.1 78 11 = s.1 78 11 → fACP x 40 40 a b (cI 0) (cI 0) (x.1 78 11) = some (cpM x a b 0 0 (ix (s.1 78 11))) := fun x a b e => by
    unfold fACP
    rw [e, if_pos ⟨⟨by decide, by decide, by rw [le_i, i32_0]; exact h0⟩, by rw [ix_0]; omega, by rw [ix_0]; omega⟩, ix_0]
  have ne : ∀ (x : ev_M) (a b c k : Nat), c ≠ b → (cpM x a b 0 0 (ix (s.1 78 11))).1 c k = x.1 c k := fun x a b c k hc => by
    show (if c = b ∧ 0 ≤ k ∧ k < 0 + ix (s.1 78 11) then x.1 a (0 + (k - 0)) else x.1 c k) = _
    rw [if_neg (fun u => hc u.1)]
  have at' : ∀ (x : ev_M) (a b k : Nat), k < ix (s.1 78 11) → (cpM x a b 0 0 (ix (s.1 78 11))).1 b k = x.1 a k := fun x a b k hk => by
    show (if b = b ∧ 0 ≤ k ∧ k < 0 + ix (s.1 78 11) then x.1 a (0 + (k - 0)) else x.1 b k) = _
    rw [if_pos ⟨rfl, by omega, by omega⟩, Nat.zero_add, Nat.sub_zero]
  have e1 := ac s 97 93 rfl
  have e2 := ac (cpM s 97 93 0 0 (ix (s.1 78 11))) 98 94 (ne _ _ _ _ _ (by decide))
  have e3 := ac (cpM (cpM s 97 93 0 0 (ix (s.1 78 11))) 98 94 0 0 (ix (s.1 78 11))) 99 95 (by rw [ne _ _ _ _ _ (by decide), ne _ _ _ _ _ (by decide)])
  refine ⟨cpM (cpM (cpM s 97 93 0 0 (ix (s.1 78 11))) 98 94 0 0 (ix (s.1 78 11))) 99 95 0 0 (ix (s.1 78 11)), ?_, fun q hq => ⟨?_, ?_, ?_⟩, ?_⟩
  · show fMoney_readTariff_4_h118 (1048572 + 4) s (cI 0) = _
    generalize 1048572 = H
    rw [fMoney_readTariff_4_h118, if_pos (by decide), if_pos (by decide), if_pos (by decide), show 97 + ix (cI 0) = 97 from rfl, show 93 + ix (cI 0) = 93 from rfl, e1, bd1_some]
    rw [fMoney_readTariff_4_h118, if_pos (by decide), if_pos (by decide), if_pos (by decide), show 97 + ix (cI 0 + cI 1) = 98 from rfl, show 93 + ix (cI 0 + cI 1) = 94 from rfl, e2, bd1_some]
    rw [fMoney_readTariff_4_h118, if_pos (by decide), if_pos (by decide), if_pos (by decide), show 97 + ix (cI 0 + cI 1 + cI 1) = 99 from rfl, show 93 + ix (cI 0 + cI 1 + cI 1) = 95 from rfl, e3, bd1_some]
    rw [fMoney_readTariff_4_h118, if_neg (by decide), ne _ _ _ _ _ (by decide), ne _ _ _ _ _ (by decide), ne _ _ _ _ _ (by decide)]
  · rw [ne _ _ _ _ _ (by decide), ne _ _ _ _ _ (by decide), at' _ _ _ _ hq]
  · rw [ne _ _ _ _ _ (by decide), at' _ _ _ _ hq, ne _ _ _ _ _ (by decide)]
  · rw [at' _ _ _ _ hq, ne _ _ _ _ _ (by decide), ne _ _ _ _ _ (by decide)]
  · exact ((fr_acp (F := [(93, 93, 0), (94, 94, 0), (95, 95, 0)]) (fun k => rfl) e1).tr (fr_acp (F := [(93, 93, 0), (94, 94, 0), (95, 95, 0)]) (fun k => rfl) e2)).tr (fr_acp (F := [(93, 93, 0), (94, 94, 0), (95, 95, 0)]) (fun k => rfl) e3)
def FtfC4 : List (Nat × (Nat × Nat)) := FrdC4 ++ FnwC
def FtgC4 : List (Nat × (Nat × Nat)) := (78, 78, 12) :: (93, 93, 0) :: (94, 94, 0) :: (95, 95, 0) :: FtfC4
theorem a_tariff4 {s t : ev_M} {F : Bool} {A : Nat → Nat → Int32} (hA : AdmC s F A) (hM : FulM t F) (h0 : t.1 549 15 = 0) (h : RTa s t) (hx : RTx4 s t) : Ok (fMoney_readTariff_4 s) fun x => Ok (fM_doTariff t) fun y => AP RTa RTa F A s x y := by
  obtain ⟨⟨n1, n2, n3⟩, g1, g2, g3, b1, b2⟩ := id h
  have cc := ix_toNat (s.1 78 11)
  have ec : cI ((ix (s.1 78 11) : Nat) : Int) = s.1 78 11 := cI_ix n2
  -- where both begin
  obtain ⟨t1, a1, a2, a3⟩ := sv_lp (N := ix (s.1 78 11)) (by omega) (ix (s.1 78 11)) 1048576 0 t (by omega) (by omega) (fun q hq => absurd hq (Nat.not_lt_zero _))
  obtain ⟨s0, es0⟩ : ∃ x, x = wI (wI s 78 13 (cI 0)) 4 2 (cI 0) := ⟨_, rfl⟩
  obtain ⟨t0, et0⟩ : ∃ x, x = wI (wI t1 549 125 (cI 0)) 549 139 (cI 0) := ⟨_, rfl⟩
  rw [← et0] at a1
  have fs0 : fr FtfC4 s s0 := by rw [es0]; exact (fr.rf.wI rfl).wI rfl
  have fs0' : fr ((78, 78, 14) :: FrdC4) s s0 := by rw [es0]; exact (fr.rf.wI rfl).wI rfl
  have ft0 : fr (FsvM ++ (FrdM ++ FnwM)) t t0 := by rw [et0]; exact ((a3.mono (by decide +kernel)).wI rfl).wI rfl
  have P0 : Ps4 0 s0 t0 := by
    obtain ⟨x1, x2, x3, x4⟩ := hx
    have e1 : s0.1 4 1 = s.1 4 1 := (fs0.1 4 1 (by decide +kernel)).1
    refine ⟨⟨?_, by rw [e1]; exact x2, by rw [e1]; exact x3, fun k hk => ?_⟩, ?_, ?_, Nat.zero_le _⟩
    · rw [e1, (ft0.1 549 13 (by decide +kernel)).1]; exact x1
    · rw [e1] at hk
      rw [cF (c := 554) ft0 (by decide +kernel), cF (c := 5) fs0 (by decide +kernel)]; exact x4 k hk
    · rw [es0, wI_c, up1_eq]; rfl
    · rw [et0, wI_c, up1_eq]; rfl
  have c13 : s0.1 78 13 = cI 0 := by rw [es0, wI_ne (by decide), wI_c, up1_eq]
  have N0 : NwT s0 t0 := by
    unfold NwT
    rw [c13, et0, wI_c, up1_ne (by decide), wI_c, up1_eq]
    exact ⟨⟨rfl, by decide, by decide⟩, fun i hi => absurd hi (Nat.not_lt_zero _), fun i hi => absurd hi (Nat.not_lt_zero _), fun i hi => absurd hi (Nat.not_lt_zero _), fun i hi => absurd hi (Nat.not_lt_zero _), fun i hi => absurd hi (Nat.not_lt_zero _)⟩
  have L4 : ix (s0.1 4 1) ≤ 4096 := by
    have := P0.1.2.2.1
    rw [ix_toNat]; omega
  obtain ⟨s1, t2, f, d1, d2, d3, d4, d5, d6⟩ := tl4 (x1 := cI ((ix (s.1 78 11) : Nat) : Int)) (ix (s0.1 4 1) + 1) 1048576 1048576 0 0 s0 t0 (by omega) (by omega) (by omega) P0 N0 (Nat.le_refl _) ⟨fun _ => by rw [c13]; rfl, fun _ => rfl⟩
  have fs1 : fr FtfC4 s s1 := fs0.tr d5
  have ft1 : fr (FsvM ++ (FrdM ++ FnwM)) t t2 := ft0.tr (d6.mono (by decide +kernel))
  have kC : fMoney_readTariff_4 s = fMoney_readTariff_4_b84 s1 f := by
    unfold fMoney_readTariff_4
    rw [ltM_eq, ltM_eq, ← es0]
    exact d1
  have kM : fM_doTariff t = fM_doTariff_b128 t2 (cI ((ix (s.1 78 11) : Nat) : Int)) f := by
    unfold fM_doTariff
    have e : t.1 549 125 = cI ((ix (s.1 78 11) : Nat) : Int) := n1.trans ec.symm
    rw [ltI_eq, e]
    exact a1.trans d2
  have sS1 : lgS s s1 := lgS.fr fs1 (by decide +kernel) (by decide +kernel)
  have sT1 : lgT t t2 := ⟨(ft1.1 549 4 (by decide +kernel)).1, (ft1.1 549 9 (by decide +kernel)).1, (ft1.1 549 13 (by decide +kernel)).1, (ft1.1 549 14 (by decide +kernel)).1, (ft1.1 549 16 (by decide +kernel)).1⟩
  have sv : Svd (ix (s.1 78 11)) t t2 := fun q hq => by
    have fx : fr ((549, 549, 126) :: (549, 549, 140) :: (FrdM ++ FnwM)) t1 t2 := by
      refine fr.tr ?_ (d6.mono (by decide +kernel))
      rw [et0]; exact (fr.rf.wI rfl).wI rfl
    rw [cF (c := 678) fx (by decide +kernel), cF (c := 679) fx (by decide +kernel), cF (c := 680) fx (by decide +kernel)]
    exact a2 q hq
  -- refused: the reference lays the old tariff back
  have back : ∀ (x3 : Int32), ∃ t', fM_doTariff_b155 t2 (cI ((ix (s.1 78 11) : Nat) : Int)) f x3 = (if x3 = 0 then some (t', cI (-1000) - f) else some (t', cI (-104))) ∧ t'.1 549 15 = 1 ∧ RTa s1 t' := by
    intro x3
    obtain ⟨t', e1, e2, e3⟩ := rs_lp (N := ix (s.1 78 11)) (x2 := f) (x3 := x3) (by omega) (ix (s.1 78 11)) 1048576 0 t2 t (by omega) (by omega) sv (fun q hq => absurd hq (Nat.not_lt_zero _))
    refine ⟨wI (wI t' 549 125 (cI ((ix (s.1 78 11) : Nat) : Int))) 549 15 (cI 1), e1, by rw [wI_c, up1_eq]; rfl, ?_⟩
    unfold RTa
    simp (disch := decide) only [ix_0, ix_1, ix_2, ix_3, ix_4, ix_5, ix_6, ix_7, ix_8, ix_9, ix_10, ix_11, ix_12, ix_13, ix_14, ix_15, ix_16, ix_17, ix_18, ix_19, ix_20, ix_21, Nat.reduceAdd, wI_c, wI_ne, wL_1, lupd_ne, up1_eq, up1_ne, ec]
    rw [(fs1.1 78 11 (by decide +kernel)).1, cF (c := 93) fs1 (by decide +kernel), cF (c := 94) fs1 (by decide +kernel), cF (c := 95) fs1 (by decide +kernel)]
    refine ⟨⟨rfl, n2, n3⟩, fun i hi => ?_, fun i hi => ?_, fun i hi => ?_, b1, b2⟩
    · rw [(e2 i hi).1]; exact g1 i hi
    · rw [(e2 i hi).2.1]; exact g2 i hi
    · rw [(e2 i hi).2.2]; exact g3 i hi
  rw [kC, kM]
  rcases d3 with d3 | ⟨d3, d3'⟩
  · subst d3
    unfold fMoney_readTariff_4_b84 fM_doTariff_b128
    rw [if_pos rfl, if_pos rfl]
    by_cases hF : F = true
    · subst hF
      obtain ⟨t', e1, e2, e3⟩ := back (cI 1)
      have aY : fLog_admits s1 = some (s1, 0) := hA s1 sS1
      have bY : fM_full t2 = some 1 := hM t2 sT1
      rw [aY, bd2_some, bY, bd1_some, if_pos rfl, if_neg (show ¬ (1 : Int32) = 0 by decide)]
      unfold fM_doTariff_b145
      rw [if_pos rfl, if_neg (show ¬ (cI 1 : Int32) = 0 by decide), e1, if_neg (show ¬ (cI 1 : Int32) = 0 by decide), ok_some, ok_some]
      exact ⟨rfl, Or.inl ⟨e2, sS1, e3⟩⟩
    · have hF2 : F = false := by cases F <;> simp_all
      subst hF2
      have aY : fLog_admits s1 = some (lupd A s1, 1) := hA s1 sS1
      have bY : fM_full t2 = some 0 := hM t2 sT1
      rw [aY, bd2_some, bY, bd1_some, if_neg (show ¬ (1 : Int32) = 0 by decide), if_pos rfl, ltM_eq]
      unfold fM_doTariff_b144 fM_doTariff_b145
      rw [if_pos rfl, if_pos (show (cI 0 : Int32) = 0 from rfl)]
      obtain ⟨⟨m1, m2, m3⟩, u1, u2, u3, u4, u5⟩ := d4
      have e78 : (lupd A s1).1 78 13 = s1.1 78 13 := by rw [lupd_ne (Or.inr (by decide))]
      rw [e78]
      obtain ⟨s', v1, v2, v3⟩ := cp4 (s := wI (lupd A s1) 78 11 (s1.1 78 13)) (by rw [wI_c, up1_eq]; exact ⟨m2, m3⟩)
      have e11 : (wI (lupd A s1) 78 11 (s1.1 78 13)).1 78 11 = s1.1 78 13 := by rw [wI_c, up1_eq]
      rw [e11] at v1 v2
      have w9 : ∀ c, 96 ≤ c → c ≤ 99 → (wI (lupd A s1) 78 11 (s1.1 78 13)).1 c = s1.1 c := fun c h1 h2 => by rw [wI_ne (by omega), lupd_ne (Or.inr (by omega))]
      rw [w9 97 (by decide) (by decide), w9 98 (by decide) (by decide), w9 99 (by decide) (by decide)] at v2
      rw [v1, ok_some, ok_some]
      have x11 : s'.1 78 11 = s1.1 78 13 := by rw [(v3.1 78 11 (by decide +kernel)).1, e11]
      refine ⟨?_, Or.inr ⟨?_, rfl, ?_, ?_⟩⟩
      · exact m1.symm
      · rw [(ft1.1 549 15 (by decide +kernel)).1]; exact h0
      · have q1 : fr FtfC4 (lupd A s) (lupd A s1) := by
          refine ⟨fun c k hc => ⟨?_, ?_⟩, ?_⟩
          · show (if 9 ≤ c ∧ c ≤ 14 then A c k else s1.1 c k) = (if 9 ≤ c ∧ c ≤ 14 then A c k else s.1 c k)
            by_cases y : 9 ≤ c ∧ c ≤ 14
            · rw [if_pos y, if_pos y]
            · rw [if_neg y, if_neg y]; exact (fs1.1 c k hc).1
          · exact (fs1.1 c k hc).2
          · exact fs1.2
        have q2 : fr FtgC4 (lupd A s) s' := ((q1.mono (by decide +kernel)).wI rfl).tr (v3.mono (by decide +kernel))
        exact lgS.fr q2 (by decide +kernel) (by decide +kernel)
      · unfold RTa
        rw [x11]
        refine ⟨⟨m1, m2, m3⟩, fun i hi => ?_, fun i hi => ?_, fun i hi => ?_, fun i hi => ?_, fun i hi => ?_⟩
        · rw [(v2 i hi).1]; exact u1 i hi
        · rw [(v2 i hi).2.1]; exact u2 i hi
        · rw [(v2 i hi).2.2]; exact u3 i hi
        · rw [(v2 i hi).2.1]; exact u4 i hi
        · rw [(v2 i hi).2.2]; exact u5 i hi
  · have nf : ¬ f = cI (-1) := fun u => by rw [u] at d3; exact absurd d3 (by decide)
    obtain ⟨t', e1, e2, e3⟩ := back (cI 0)
    unfold fMoney_readTariff_4_b84 fM_doTariff_b128 fM_doTariff_b144 fM_doTariff_b145
    rw [if_neg nf, if_neg nf, if_neg nf, e1, if_pos (show (cI 0 : Int32) = 0 from rfl), ok_some, ok_some]
    exact ⟨rfl, Or.inl ⟨e2, sS1, e3⟩⟩
