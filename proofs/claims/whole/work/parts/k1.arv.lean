/-! ===== LEVEL 3: bags arrive ===== -/
def FavC : List (Nat × (Nat × Nat)) := [(459, 459, 0), (460, 460, 0), (463, 463, 0), (464, 464, 0)]
def FavM : List (Nat × (Nat × Nat)) := [(618, 618, 0), (619, 619, 0), (621, 621, 0), (622, 622, 0)]
def avC (s : ev_M) (b : Nat) (c p l m : Int32) : ev_M := wI (wI (wI (wI s 459 b c) 460 b p) 463 b l) 464 b m
theorem avC_fr {s : ev_M} {b : Nat} {c p l m : Int32} : fr FavC s (avC s b c p l m) := (((fr.rf.wI rfl).wI rfl).wI rfl).wI rfl
theorem cnt_un {f : Nat → Int32} {b : Nat} {v x : Int32} (h : ¬ v = x) : ∀ n, cntE (up1 f b v) x n ≤ cntE f x n
  | 0 => Nat.le_refl _
  | n + 1 => by
    have ih := cnt_un (f := f) (b := b) h n
    simp only [cntE]
    by_cases z : n = b
    · rw [z, up1_eq, if_neg h]; rw [z] at ih; omega
    · rw [up1_ne z]; omega
theorem cnt_u1 {f : Nat → Int32} {b : Nat} {v x : Int32} : ∀ n, cntE (up1 f b v) x n ≤ cntE f x n + (if b < n then 1 else 0)
  | 0 => by rw [if_neg (Nat.not_lt_zero _)]; exact Nat.le_refl _
  | n + 1 => by
    have ih := cnt_u1 (f := f) (b := b) (v := v) (x := x) n
    simp only [cntE]
    by_cases z : n = b
    · rw [z, if_neg (Nat.lt_irrefl _)] at ih
      rw [z, up1_eq, if_pos (Nat.lt_succ_self _)]
      split <;> split <;> omega
    · rw [up1_ne z]
      by_cases y : b < n
      · rw [if_pos y] at ih; rw [if_pos (show b < n + 1 by omega)]; omega
      · rw [if_neg y] at ih; rw [if_neg (show ¬ b < n + 1 by omega)]; omega
theorem RBg.arr {s t : ev_M} {b : Nat} {to : Int32} (h : RBg s t) (h4 : 0 ≤ (s.1 449 4).toInt) (hto : 0 ≤ to.toInt ∧ to.toInt ≤ (s.1 30 2).toInt - 1) : RBg (avC s b (cI 1) to (cI (-1)) (cI (-1))) (wI (wI (wI (wI t 618 b (cI 1)) 619 b to) 621 b (cI (-1))) 622 b (cI (-1))) := by
  obtain ⟨n1, g1, g2, g3, g4, g5, b1, b2, b3, b4⟩ := h
  unfold RBg avC
  simp (disch := decide) only [ix_0, ix_1, ix_2, ix_3, ix_4, ix_5, ix_6, ix_7, ix_8, ix_9, ix_10, ix_11, ix_12, ix_13, ix_14, ix_15, ix_16, ix_17, ix_18, ix_19, ix_20, ix_21, Nat.reduceAdd, wI_c, wI_ne, wL_1, lupd_ne, up1_eq, up1_ne]
  refine ⟨n1, g1.up, g2, g3.up, g4.up, fun q hq => ?_, b1.set (by decide), b2.set ⟨by omega, hto.2⟩, b3, b4.set ⟨by decide, by show (-1 : Int) ≤ _; omega⟩⟩
  by_cases z : q = b
  · rw [z]
    simp only [up1_eq]
    exact ⟨fun _ => ⟨trivial, trivial, trivial, hto.1⟩, fun w => absurd w (by decide)⟩
  · simp only [up1_ne z]
    exact g5 q hq
theorem ar_lp {k : Nat} : ∀ (r m m' b : Nat) (s t : ev_M), b + r = ix (s.1 449 6) → r < m → r < m' → RLw k s t → RBg s t → RAw s t → t.1 549 22 = s.1 15 1 → (∀ q, q < b → s.1 459 q = cI 2 → ¬ s.1 464 q = s.1 15 1) → ∃ s' t', fLines_arrive_h2 m s (cI (b : Int)) = some s' ∧ (∀ k51 x2, fM_doTick_h85 k51 m' t x2 (cI (b : Int)) = fM_doTick_h162 k51 1048576 t' x2 (cI 0)) ∧ RBg s' t' ∧ RAv s' t' ∧ fr FavC s s' ∧ fr FavM t t'
  | 0, m, m', b, s, t, hb, hm, hm', hL, hB, hA, hT, hq => by
    obtain ⟨m, rfl⟩ : ∃ k, m = k + 1 := ⟨m - 1, by omega⟩
    obtain ⟨m', rfl⟩ : ∃ k, m' = k + 1 := ⟨m' - 1, by omega⟩
    obtain ⟨⟨n1, n2, n3⟩, -⟩ := id hB
    have bb := ix_toNat (s.1 449 6)
    have nl : ¬ cI (b : Int) < s.1 449 6 := by rw [lt_i, k_ti (by omega)]; omega
    refine ⟨s, t, ?_, fun k51 x2 => ?_, hB, ⟨fun q h1 h2 => ?_, hA.2⟩, fr.rf, fr.rf⟩
    · rw [fLines_arrive_h2, if_neg nl]
    · rw [fM_doTick_h85, n1, if_neg nl]
    · obtain ⟨w1, w2⟩ := hA.1 q h1 h2
      have w3 := hq q (by omega) h2
      rw [eq_i] at w3
      exact ⟨by omega, w2⟩
  | r + 1, m, m', b, s, t, hb, hm, hm', hL, hB, hA, hT, hq => by
    obtain ⟨m, rfl⟩ : ∃ k, m = k + 1 := ⟨m - 1, by omega⟩
    obtain ⟨m', rfl⟩ : ∃ k, m' = k + 1 := ⟨m' - 1, by omega⟩
    obtain ⟨⟨n1, n2, n3⟩, g1, g2, g3, g4, g5, b1, b2, b3, b4⟩ := id hB
    obtain ⟨⟨l1, l2, l3⟩, f1, f2, f3, f4, f5, f6, f7, e1, e2, -⟩ := id hL
    have bb := ix_toNat (s.1 449 6)
    have lt : cI (b : Int) < s.1 449 6 := by rw [lt_i, k_ti (by omega)]; omega
    have ib : inb (cI (b : Int)) 80 = true := k_in (by omega) (by decide)
    have xb : ix (cI (b : Int)) = b := k_ix (by omega)
    have hb' : b < ix (s.1 449 6) := by omega
    by_cases z : s.1 459 b = cI 2 ∧ s.1 464 b = s.1 15 1
    · obtain ⟨z1, z2⟩ := z
      obtain ⟨y1, y2⟩ := (g5 b hb').2 z1
      have y3 : inb (s.1 463 b) 20 = true := y2.inb l3
      have y4 := y2.ix
      obtain ⟨to1, to2⟩ := e2 _ y4
      obtain ⟨to, eto⟩ : ∃ x, x = s.1 452 (ix (s.1 463 b)) := ⟨_, rfl⟩
      rw [← eto] at to1 to2
      have eM : t.1 612 (ix (s.1 463 b)) = to := by rw [f2 _ y4, eto]
      have w1 : fr FavC s (avC s b (cI 1) to (cI (-1)) (cI (-1))) := avC_fr
      have w2 : fr FavM t (wI (wI (wI (wI t 618 b (cI 1)) 619 b to) 621 b (cI (-1))) 622 b (cI (-1))) := (((fr.rf.wI rfl).wI rfl).wI rfl).wI rfl
      have e449 : (avC s b (cI 1) to (cI (-1)) (cI (-1))).1 449 6 = s.1 449 6 := (w1.1 449 6 rfl).1
      have e15 : (avC s b (cI 1) to (cI (-1)) (cI (-1))).1 15 1 = s.1 15 1 := (w1.1 15 1 rfl).1
      have e4494 : (avC s b (cI 1) to (cI (-1)) (cI (-1))).1 449 4 = s.1 449 4 := (w1.1 449 4 rfl).1
      have e455 : (avC s b (cI 1) to (cI (-1)) (cI (-1))).1 455 = s.1 455 := funext fun i => (w1.1 455 i rfl).1
      have c463 : (avC s b (cI 1) to (cI (-1)) (cI (-1))).1 463 = up1 (s.1 463) b (cI (-1)) := by unfold avC; simp (disch := decide) only [ix_0, ix_1, ix_2, ix_3, ix_4, ix_5, ix_6, ix_7, ix_8, ix_9, ix_10, ix_11, ix_12, ix_13, ix_14, ix_15, ix_16, ix_17, ix_18, ix_19, ix_20, ix_21, Nat.reduceAdd, wI_c, wI_ne, wL_1, lupd_ne, up1_eq, up1_ne]
      have ll := ix_toNat (s.1 449 4)
      have c459 : (avC s b (cI 1) to (cI (-1)) (cI (-1))).1 459 = up1 (s.1 459) b (cI 1) := by unfold avC; simp (disch := decide) only [ix_0, ix_1, ix_2, ix_3, ix_4, ix_5, ix_6, ix_7, ix_8, ix_9, ix_10, ix_11, ix_12, ix_13, ix_14, ix_15, ix_16, ix_17, ix_18, ix_19, ix_20, ix_21, Nat.reduceAdd, wI_c, wI_ne, wL_1, lupd_ne, up1_eq, up1_ne]
      have c464 : (avC s b (cI 1) to (cI (-1)) (cI (-1))).1 464 = up1 (s.1 464) b (cI (-1)) := by unfold avC; simp (disch := decide) only [ix_0, ix_1, ix_2, ix_3, ix_4, ix_5, ix_6, ix_7, ix_8, ix_9, ix_10, ix_11, ix_12, ix_13, ix_14, ix_15, ix_16, ix_17, ix_18, ix_19, ix_20, ix_21, Nat.reduceAdd, wI_c, wI_ne, wL_1, lupd_ne, up1_eq, up1_ne]
      obtain ⟨s', t', v1, v2, v3, v4, v5, v6⟩ := ar_lp r m m' (b + 1) (avC s b (cI 1) to (cI (-1)) (cI (-1))) _ (by rw [e449]; omega) (by omega) (by omega) (hL.keep w1 w2 (by decide +kernel) (by decide +kernel)) (hB.arr l2 ⟨to1, to2⟩) (by
        unfold RAw
        rw [e449, e15, c459, c464, c463, e4494, e455]
        refine ⟨fun q h1 h2 => ?_, fun q h1 => ?_⟩
        · by_cases v : q = b
          · rw [v, up1_eq] at h2; exact absurd h2 (by decide)
          · rw [up1_ne v] at h2 ⊢; exact hA.1 q h1 h2
        · have w := cnt_un (f := s.1 463) (b := b) (show ¬ cI (-1) = cI (q : Int) from neg1_ne (by omega)) (ix (s.1 449 6))
          have := hA.2 q h1
          omega) (by rw [(w2.1 549 22 rfl).1, e15]; exact hT) (fun q h1 h2 => by
        rw [c459] at h2
        rw [c464, e15]
        by_cases v : q = b
        · rw [v, up1_eq] at h2; exact absurd h2 (by decide)
        · rw [up1_ne v] at h2 ⊢; exact hq q (by omega) h2)
      refine ⟨s', t', ?_, fun k51 x2 => ?_, v3, v4, w1.tr v5, w2.tr v6⟩
      · rw [← v1, ← k_s (by omega)]
        rw [fLines_arrive_h2, if_pos lt]
        simp (disch := decide) only [if_pos ib, xb, ltM_eq, ix_0, ix_1, ix_2, ix_3, ix_4, ix_5, ix_6, ix_7, ix_8, ix_9, ix_10, ix_11, ix_12, ix_13, ix_14, ix_15, ix_16, ix_17, ix_18, ix_19, ix_20, ix_21, Nat.reduceAdd, wI_c, wI_ne, wL_1, lupd_ne, up1_eq, up1_ne, z1, z2, if_true, y3, ← eto, fLines_arrive_b93]
        rfl
      · rw [← v2, ← k_s (by omega)]
        rw [fM_doTick_h85, n1, if_pos lt]
        simp (disch := decide) only [if_pos ib, xb, ltM_eq, ix_0, ix_1, ix_2, ix_3, ix_4, ix_5, ix_6, ix_7, ix_8, ix_9, ix_10, ix_11, ix_12, ix_13, ix_14, ix_15, ix_16, ix_17, ix_18, ix_19, ix_20, ix_21, Nat.reduceAdd, wI_c, wI_ne, wL_1, lupd_ne, up1_eq, up1_ne, g1 b hb', g4 b hb', g3 b hb', hT, z1, z2, if_true, y3, eM, fM_doTick_b154]
    · have zn : ∀ {α : Type} {p q : α}, (if s.1 459 b = cI 2 then (if s.1 464 b = s.1 15 1 then p else q) else q) = q := fun {α p q} => by
        by_cases u : s.1 459 b = cI 2
        · rw [if_pos u, if_neg (fun w => z ⟨u, w⟩)]
        · rw [if_neg u]
      obtain ⟨s', t', v1, v2, v3, v4, v5, v6⟩ := ar_lp r m m' (b + 1) s t (by omega) (by omega) (by omega) hL hB hA hT (fun q h1 h2 h3 => by
        by_cases v : q = b
        · rw [v] at h2 h3; exact z ⟨h2, h3⟩
        · exact hq q (by omega) h2 h3)
      refine ⟨s', t', ?_, fun k51 x2 => ?_, v3, v4, v5, v6⟩
      · rw [← v1, ← k_s (by omega)]
        rw [fLines_arrive_h2, if_pos lt]
        simp (disch := decide) only [if_pos ib, xb, ix_0, ix_1, ix_2, ix_3, ix_4, ix_5, ix_6, ix_7, ix_8, ix_9, ix_10, ix_11, ix_12, ix_13, ix_14, ix_15, ix_16, ix_17, ix_18, ix_19, ix_20, ix_21, Nat.reduceAdd, wI_c, wI_ne, wL_1, lupd_ne, up1_eq, up1_ne, zn, fLines_arrive_b93]
      · rw [← v2, ← k_s (by omega)]
        rw [fM_doTick_h85, n1, if_pos lt]
        simp (disch := decide) only [if_pos ib, xb, ix_0, ix_1, ix_2, ix_3, ix_4, ix_5, ix_6, ix_7, ix_8, ix_9, ix_10, ix_11, ix_12, ix_13, ix_14, ix_15, ix_16, ix_17, ix_18, ix_19, ix_20, ix_21, Nat.reduceAdd, wI_c, wI_ne, wL_1, lupd_ne, up1_eq, up1_ne, g1 b hb', g4 b hb', hT, zn, fM_doTick_b154]
