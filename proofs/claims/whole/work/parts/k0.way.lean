/-! ===== LEVEL 3: the way by lines ===== -/
theorem rl_lp {k N st x : Nat} {T : Int32} {V : Int} {x2 : Int32} {k55 : ev_M → Int32 → Option ev_M} (hx : x < N) (hst : st < N) (hT0 : 0 ≤ T.toInt) (hV : T.toInt + 600 * (k : Int) + 4440 ≤ V) (hV2 : V ≤ 1600000000) : ∀ (r m m' l : Nat) (s t : ev_M), l + r = ix (s.1 449 4) → r < m → r < m' → RLw k s t → N = ix (s.1 30 2) → (s.1 30 2).toInt ≤ 12 → s.1 15 1 = T → Sw N s t → Wi N st T V s → ¬ s.1 546 x = cI (-1) → (s.1 546 x).toInt + 4439 ≤ V → ∃ s' t', fLines_search_h87 k55 m s x2 (cI (x : Int)) (cI (l : Int)) = k55 s' (x2 + cI 1) ∧ (∀ k49, fM_findWays_h63 k49 m' t (cI (st : Int)) (cI (x : Int)) (cI (l : Int)) = fM_findWays_h201 k49 1048576 t' (cI (st : Int)) (cI (-1)) (cI 0)) ∧ Sw N s' t' ∧ Wi N st T V s' ∧ s'.1 548 = s.1 548 ∧ fr FswC s s' ∧ fr FswM t t'
  | 0, m, m', l, s, t, hl, hm, hm', hL, hN, h30, hT, hS, hW, hr, hx2 => by
    obtain ⟨m, rfl⟩ : ∃ k, m = k + 1 := ⟨m - 1, by omega⟩
    obtain ⟨m', rfl⟩ : ∃ k, m' = k + 1 := ⟨m' - 1, by omega⟩
    obtain ⟨⟨n1, n2, n3⟩, -⟩ := id hL
    have ll := ix_toNat (s.1 449 4)
    have nl : ¬ cI (l : Int) < s.1 449 4 := by rw [lt_i, k_ti (by omega)]; omega
    refine ⟨s, t, ?_, fun k49 => ?_, hS, hW, rfl, fr.rf, fr.rf⟩
    · rw [fLines_search_h87, if_neg nl]
    · rw [fM_findWays_h63, n1, if_neg nl]
  | r + 1, m, m', l, s, t, hl, hm, hm', hL, hN, h30, hT, hS, hW, hr, hx2 => by
    obtain ⟨m, rfl⟩ : ∃ k, m = k + 1 := ⟨m - 1, by omega⟩
    obtain ⟨m', rfl⟩ : ∃ k, m' = k + 1 := ⟨m' - 1, by omega⟩
    obtain ⟨⟨n1, n2, n3⟩, g1, -⟩ := id hL
    have ll := ix_toNat (s.1 449 4)
    have lt : cI (l : Int) < s.1 449 4 := by rw [lt_i, k_ti (by omega)]; omega
    have lb : inb (cI (l : Int)) 20 = true := k_in (by omega) (by decide)
    have lx : ix (cI (l : Int)) = l := k_ix (by omega)
    by_cases q : s.1 451 l = cI (x : Int)
    · obtain ⟨s1, t1, a1, a2, a3, a4, a5, a6, a7, a8⟩ := rx_ok (T := T) (V := V) (st := st) hL hN h30 hT hT0 (show l < ix (s.1 449 4) by omega) q hx hst hS hW hr hx2 hV hV2
      have e449 : s1.1 449 4 = s.1 449 4 := (a7.1 449 4 rfl).1
      have e30 : s1.1 30 2 = s.1 30 2 := (a7.1 30 2 rfl).1
      have e15 : s1.1 15 1 = s.1 15 1 := (a7.1 15 1 rfl).1
      obtain ⟨s', t', b1, b2, b3, b4, b5, b6, b7⟩ := rl_lp (x2 := x2) (k55 := k55) hx hst hT0 hV hV2 r m m' (l + 1) s1 t1 (by rw [e449]; omega) (by omega) (by omega) (hL.keep a7 a8 (by decide +kernel) (by decide +kernel)) (by rw [e30]; exact hN) (by rw [e30]; exact h30) (by rw [e15]; exact hT) a3 a4 (by rw [a5]; exact hr) (by rw [a5]; exact hx2)
      refine ⟨s', t', ?_, fun k49 => (a2 k49 m').trans (b2 k49), b3, b4, b5.trans a6, a7.tr b6, a8.tr b7⟩
      rw [fLines_search_h87, if_pos lt, if_pos lb, ix_0, lx, Nat.add_zero, if_pos q, a1, bd1_some]
      unfold fLines_search_b115
      rw [k_s (by omega)]
      exact b1
    · obtain ⟨s', t', b1, b2, b3, b4, b5, b6, b7⟩ := rl_lp (x2 := x2) (k55 := k55) hx hst hT0 hV hV2 r m m' (l + 1) s t (by omega) (by omega) (by omega) hL hN h30 hT hS hW hr hx2
      refine ⟨s', t', ?_, fun k49 => ?_, b3, b4, b5, b6, b7⟩
      · rw [fLines_search_h87, if_pos lt, if_pos lb, ix_0, lx, Nat.add_zero, if_neg q]
        unfold fLines_search_b115
        rw [k_s (by omega)]
        exact b1
      · rw [fM_findWays_h63, n1, if_pos lt, if_pos lb, lx, g1 l (by omega), if_neg q]
        unfold fM_findWays_b191
        rw [k_s (by omega)]
        exact b2 k49
def mmS (f h : Nat → Int32) (p : Nat) : Bool := decide (¬ f p = cI (-1) ∧ h p = 0)
theorem mmS_cg {f f' h h' : Nat → Int32} {p : Nat} (e1 : f p = f' p) (e2 : h p = h' p) : mmS f h p = mmS f' h' p := by
  unfold mmS
  rw [e1, e2]
theorem fam_all {g g' : Nat → Int32} {m m' : Nat → Bool} : ∀ {c : Nat}, (∀ j, j < c → g j = g' j) → (∀ j, j < c → m j = m' j) → fam g m c = fam g' m' c
  | 0, _, _ => rfl
  | c + 1, h, h2 => by
    have ih := fam_all (c := c) (g := g) (g' := g') (m := m) (m' := m') (fun j hj => h j (by omega)) (fun j hj => h2 j (by omega))
    unfold fam
    rw [ih, h2 c (by omega)]
    by_cases z : m' c = true
    · rw [if_pos z, if_pos z]
      cases e : fam g' m' c with
      | none => rfl
      | some b =>
        obtain ⟨q1, q2, -⟩ := fam_at e
        simp only
        rw [h c (by omega), h b (by omega)]
    · rw [if_neg z, if_neg z]
/-- which is next, when one more is looked at -/
theorem fam_st {g : Nat → Int32} {m : Nat → Bool} {k : Nat} : fam g m (k + 1) = if m k = true then (if fam g m k = none ∨ ∃ b, fam g m k = some b ∧ g k < g b then some k else fam g m k) else fam g m k := by
  show (if m k = true then _ else _) = _
  by_cases z : m k = true
  · rw [if_pos z, if_pos z]
    cases e : fam g m k with
    | none => rw [if_pos (Or.inl rfl)]
    | some b =>
      simp only
      by_cases w : g k < g b
      · rw [if_pos w, if_pos (Or.inr ⟨b, rfl, w⟩)]
      · rw [if_neg w, if_neg (fun u => ?_)]
        rcases u with u | ⟨b', u1, u2⟩
        · cases u
        · cases u1; exact w u2
  · rw [if_neg z, if_neg z]
theorem sr_C {s : ev_M} {N : Nat} (hN : N = ix (s.1 30 2)) (h0 : 0 ≤ (s.1 30 2).toInt) (h30 : (s.1 30 2).toInt ≤ 12) : ∀ (r m k : Nat), k + r = N → r < m → fLines_soonestReached_h4 s m (fbI (fam (s.1 546) (mmS (s.1 546) (s.1 548)) k)) (cI (k : Int)) = some (fbI (fam (s.1 546) (mmS (s.1 546) (s.1 548)) N))
  | 0, m, k, hk, hm => by
    obtain ⟨m, rfl⟩ : ∃ k, m = k + 1 := ⟨m - 1, by omega⟩
    have nn := ix_toNat (s.1 30 2)
    have e : k = N := by omega
    rw [e, fLines_soonestReached_h4, if_neg (by rw [lt_i, k_ti (by omega)]; omega)]
  | r + 1, m, k, hk, hm => by
    obtain ⟨m, rfl⟩ : ∃ k, m = k + 1 := ⟨m - 1, by omega⟩
    have nn := ix_toNat (s.1 30 2)
    have lt : cI (k : Int) < s.1 30 2 := by rw [lt_i, k_ti (by omega)]; omega
    have kb : inb (cI (k : Int)) 12 = true := k_in (by omega) (by decide)
    have kx : ix (cI (k : Int)) = k := k_ix (by omega)
    rw [← sr_C hN h0 h30 r m (k + 1) (by omega) (by omega), fam_st]
    rw [fLines_soonestReached_h4]
    simp only [if_pos lt, if_pos kb, kx, fLines_soonestReached_b57, fLines_soonestReached_b59]
    rw [k_s (by omega)]
    by_cases z : s.1 546 k = cI (-1)
    · rw [if_pos z, if_neg (show ¬ mmS (s.1 546) (s.1 548) k = true from fun u => (of_decide_eq_true u).1 z)]
    · rw [if_neg z]
      by_cases w : s.1 548 k = 0
      · rw [if_pos w, if_pos (show mmS (s.1 546) (s.1 548) k = true from decide_eq_true ⟨z, w⟩)]
        cases e : fam (s.1 546) (mmS (s.1 546) (s.1 548)) k with
        | none => rw [if_pos (show fbI none = cI (-1) from rfl), if_pos (Or.inl rfl)]; rfl
        | some b =>
          obtain ⟨q1, -⟩ := fam_at e
          rw [if_neg (fbI_ne (by omega)), show fbI (some b) = cI (b : Int) from rfl, if_pos (k_in (by omega) (by decide)), k_ix (by omega)]
          by_cases v : s.1 546 k < s.1 546 b
          · rw [if_pos v, if_pos (Or.inr ⟨b, rfl, v⟩)]; rfl
          · rw [if_neg v, if_neg (fun u => ?_)]
            · rfl
            · rcases u with u | ⟨b', u1, u2⟩
              · cases u
              · cases u1; exact v u2
      · rw [if_neg w, if_neg (show ¬ mmS (s.1 546) (s.1 548) k = true from fun u => w (of_decide_eq_true u).2)]
theorem sr_M {t : ev_M} {N : Nat} {x1 : Int32} {k49 : ev_M → Int32 → Int32 → Option ev_M} (hN : N = ix (t.1 549 24)) (h0 : 0 ≤ (t.1 549 24).toInt) (h30 : (t.1 549 24).toInt ≤ 12) : ∀ (r m k : Nat), k + r = N → r < m → fM_findWays_h201 k49 m t x1 (fbI (fam (t.1 675) (mmS (t.1 675) (t.1 677)) k)) (cI (k : Int)) = k49 t x1 (fbI (fam (t.1 675) (mmS (t.1 675) (t.1 677)) N))
  | 0, m, k, hk, hm => by
    obtain ⟨m, rfl⟩ : ∃ k, m = k + 1 := ⟨m - 1, by omega⟩
    have nn := ix_toNat (t.1 549 24)
    have e : k = N := by omega
    rw [e, fM_findWays_h201, if_neg (by rw [lt_i, k_ti (by omega)]; omega)]
  | r + 1, m, k, hk, hm => by
    obtain ⟨m, rfl⟩ : ∃ k, m = k + 1 := ⟨m - 1, by omega⟩
    have nn := ix_toNat (t.1 549 24)
    have lt : cI (k : Int) < t.1 549 24 := by rw [lt_i, k_ti (by omega)]; omega
    have kb : inb (cI (k : Int)) 12 = true := k_in (by omega) (by decide)
    have kx : ix (cI (k : Int)) = k := k_ix (by omega)
    have ih := sr_M (x1 := x1) (k49 := k49) hN h0 h30 r m (k + 1) (by omega) (by omega)
    rw [← ih, fam_st]
    rw [fM_findWays_h201]
    simp only [if_pos lt, if_pos kb, kx, fM_findWays_b232, fM_findWays_b233, fM_findWays_b260, fM_findWays_b264, fM_findWays_b265]
    rw [k_s (by omega), if_pos (show cI 0 = 0 from rfl), if_neg (show ¬ cI 1 = 0 by decide)]
    by_cases z : t.1 675 k = cI (-1)
    · rw [if_pos z, if_neg (show ¬ mmS (t.1 675) (t.1 677) k = true from fun u => (of_decide_eq_true u).1 z)]
    · rw [if_neg z]
      by_cases w : t.1 677 k = 0
      · rw [if_pos w, if_pos (show mmS (t.1 675) (t.1 677) k = true from decide_eq_true ⟨z, w⟩)]
        cases e : fam (t.1 675) (mmS (t.1 675) (t.1 677)) k with
        | none => rw [if_pos (show fbI none = cI (-1) from rfl), if_pos (Or.inl rfl)]; rfl
        | some b =>
          obtain ⟨q1, -⟩ := fam_at e
          rw [if_neg (fbI_ne (by omega)), show fbI (some b) = cI (b : Int) from rfl, if_pos (k_in (by omega) (by decide)), k_ix (by omega)]
          by_cases v : t.1 675 k < t.1 675 b
          · rw [if_pos v, if_pos (Or.inr ⟨b, rfl, v⟩)]; rfl
          · rw [if_neg v, if_neg (fun u => ?_)]
            · rfl
            · rcases u with u | ⟨b', u1, u2⟩
              · cases u
              · cases u1; exact v u2
      · rw [if_neg w, if_neg (show ¬ mmS (t.1 675) (t.1 677) k = true from fun u => w (of_decide_eq_true u).2)]
theorem cntE_full {f : Nat → Int32} {x : Int32} : ∀ n, cntE f x n = n → ∀ j, j < n → f j = x
  | 0, _, j, hj => absurd hj (Nat.not_lt_zero _)
  | n + 1, h, j, hj => by
    have l := cntE_le (f := f) (x := x) n
    simp only [cntE] at h
    by_cases z : f n = x
    · rw [if_pos z] at h
      by_cases w : j = n
      · rw [w]; exact z
      · exact cntE_full n (by omega) j (by omega)
    · rw [if_neg z] at h
      omega
theorem ws_lp {k N st : Nat} {T : Int32} (hst : st < N) (hT0 : 0 ≤ T.toInt) (hT1 : T.toInt ≤ 1000000000) (hk : 600 * k ≤ 500000000) : ∀ (r m m' j : Nat) (s t : ev_M), j + r = N → r < m → r < m' → RLw k s t → RPl s t → N = ix (s.1 30 2) → s.1 15 1 = T → Sw N s t → Wi N st T (T.toInt + 600 * (k : Int) + 4440 * (j : Int)) s → cntE (s.1 548) (cI 1) N = j → ∃ s' t', fLines_search_h55 m s (cI (j : Int)) = some s' ∧ fM_findWays_h49 m' t (cI (st : Int)) (fbI (fam (s.1 546) (mmS (s.1 546) (s.1 548)) N)) = some t' ∧ Sw N s' t' ∧ Wi N st T (T.toInt + 600 * (k : Int) + 4440 * (N : Int)) s' ∧ fr FswC s s' ∧ fr FswM t t'
  | 0, m, m', j, s, t, hj, hm, hm', hL, hP, hN, hT, hS, hW, hc => by
    obtain ⟨m, rfl⟩ : ∃ k, m = k + 1 := ⟨m - 1, by omega⟩
    obtain ⟨m', rfl⟩ : ∃ k, m' = k + 1 := ⟨m' - 1, by omega⟩
    obtain ⟨⟨p1, p2, p3⟩, -⟩ := id hP
    have nn := ix_toNat (s.1 30 2)
    have e : j = N := by omega
    have ef : fam (s.1 546) (mmS (s.1 546) (s.1 548)) N = none := by
      cases e2 : fam (s.1 546) (mmS (s.1 546) (s.1 548)) N with
      | none => rfl
      | some b =>
        obtain ⟨q1, q2, -⟩ := fam_at e2
        have u := cntE_full (f := s.1 548) (x := cI 1) N (by omega) b q1
        rw [(of_decide_eq_true q2).2] at u
        exact absurd u (by decide)
    refine ⟨s, t, ?_, ?_, hS, ?_, fr.rf, fr.rf⟩
    · rw [fLines_search_h55, if_neg (by rw [lt_i, k_ti (by omega)]; omega)]
    · rw [ef, fM_findWays_h49, if_pos (show fbI none = cI (-1) from rfl)]
    · subst e; exact hW
  | r + 1, m, m', j, s, t, hj, hm, hm', hL, hP, hN, hT, hS, hW, hc => by
    obtain ⟨m, rfl⟩ : ∃ k, m = k + 1 := ⟨m - 1, by omega⟩
    obtain ⟨m', rfl⟩ : ∃ k, m' = k + 1 := ⟨m' - 1, by omega⟩
    obtain ⟨⟨p1, p2, p3⟩, -⟩ := id hP
    have nn := ix_toNat (s.1 30 2)
    have lt : cI (j : Int) < s.1 30 2 := by rw [lt_i, k_ti (by omega)]; omega
    have so : fLines_soonestReached s = some (fbI (fam (s.1 546) (mmS (s.1 546) (s.1 548)) N)) := sr_C hN p2 p3 N 1048576 0 (by omega) (by omega)
    cases e : fam (s.1 546) (mmS (s.1 546) (s.1 548)) N with
    | none =>
      rw [e] at so
      refine ⟨s, t, ?_, ?_, hS, ⟨fun p hp => ?_, hW.2⟩, fr.rf, fr.rf⟩
      · rw [fLines_search_h55, if_pos lt, so, bd1_some, if_pos (show fbI none = cI (-1) from rfl)]
      · rw [fM_findWays_h49, if_pos (show fbI none = cI (-1) from rfl)]
      · rcases hW.1 p hp with w | ⟨w1, w2⟩
        · exact Or.inl w
        · exact Or.inr ⟨w1, by omega⟩
    | some x =>
      obtain ⟨q1, q2, -⟩ := fam_at e
      obtain ⟨q3, q4⟩ := of_decide_eq_true q2
      rw [e] at so
      have xb : inb (cI (x : Int)) 12 = true := k_in (by omega) (by decide)
      have xx : ix (cI (x : Int)) = x := k_ix (by omega)
      have e11 : cI 1 &&& 1 = cI 1 := by decide
      have f1 : fr FswC s (wI s 548 x (cI 1)) := fr.rf.wI rfl
      have f2 : fr FswM t (wI t 677 x (cI 1)) := fr.rf.wI rfl
      obtain ⟨v1, v2⟩ : T.toInt ≤ (s.1 546 x).toInt ∧ (s.1 546 x).toInt ≤ T.toInt + 600 * (k : Int) + 4440 * (j : Int) := by
        rcases hW.1 x q1 with w | w
        · exact absurd w q3
        · exact w
      obtain ⟨s1, t1, a1, a2, a3, a4, a5, a6, a7⟩ := rl_lp (k := k) (V := T.toInt + 600 * (k : Int) + 4440 * ((j + 1 : Nat) : Int)) (x2 := cI (j : Int)) (k55 := fLines_search_h55 m) q1 hst hT0 (by omega) (by omega) (ix (s.1 449 4)) 1048576 1048576 0 (wI s 548 x (cI 1)) (wI t 677 x (cI 1)) (by rw [wI_ne (by decide)]; omega) (by have := hL.1.2.2; rw [ix_toNat]; omega) (by have := hL.1.2.2; rw [ix_toNat]; omega) (hL.keep f1 f2 (by decide +kernel) (by decide +kernel)) (by rw [wI_ne (by decide)]; exact hN) (by rw [wI_ne (by decide)]; exact p3) (by rw [wI_ne (by decide)]; exact hT) ⟨by rw [wI_ne (by decide), wI_ne (by decide)]; exact hS.1, by rw [wI_ne (by decide), wI_ne (by decide)]; exact hS.2.1, by rw [wI_c, wI_c]; exact hS.2.2.up⟩ (by
        unfold Wi
        simp (disch := decide) only [ix_0, ix_1, ix_2, ix_3, ix_4, ix_5, ix_6, ix_7, ix_8, ix_9, ix_10, ix_11, ix_12, ix_13, ix_14, ix_15, ix_16, ix_17, ix_18, ix_19, ix_20, ix_21, Nat.reduceAdd, wI_c, wI_ne, wL_1, lupd_ne, up1_eq, up1_ne]
        refine ⟨fun p hp => ?_, hW.2⟩
        rcases hW.1 p hp with w | ⟨w1, w2⟩
        · exact Or.inl w
        · exact Or.inr ⟨w1, by omega⟩) (by rw [wI_ne (by decide)]; exact q3) (by rw [wI_ne (by decide)]; omega)
      have f3 := f1.tr a6
      have f4 := f2.tr a7
      have hc1 : cntE (s1.1 548) (cI 1) N = j + 1 := by
        rw [a5, wI_c, cntE_set (by rw [q4]; decide) N q1, if_pos rfl, hc]
      have e30 : s1.1 30 2 = s.1 30 2 := (f3.1 30 2 rfl).1
      have e24 : t1.1 549 24 = s.1 30 2 := by rw [(f4.1 549 24 (by decide +kernel)).1, p1]
      obtain ⟨s', t', b1, b2, b3, b4, b5, b6⟩ := ws_lp hst hT0 hT1 hk r m m' (j + 1) s1 t1 (by omega) (by omega) (by omega) (hL.keep f3 f4 (by decide +kernel) (by decide +kernel)) (hP.keep f3 f4 (by decide +kernel) (by decide +kernel)) (by rw [e30]; exact hN) (by rw [(f3.1 15 1 rfl).1]; exact hT) a3 a4 hc1
      refine ⟨s', t', ?_, ?_, b3, b4, f3.tr b5, f4.tr b6⟩
      · rw [fLines_search_h55, if_pos lt, so, bd1_some, if_neg (fbI_ne (by omega)), show fbI (some x) = cI (x : Int) from rfl, if_pos xb, ltM_eq, xx, e11, show cI 0 = cI ((0 : Nat) : Int) from rfl, a1, k_s (by omega)]
        exact b1
      · have sm := sr_M (t := t1) (N := N) (x1 := cI (st : Int)) (k49 := fM_findWays_h49 m') (by rw [e24]; exact hN) (by rw [e24]; exact p2) (by rw [e24]; exact p3) N 1048576 0 (by omega) (by omega)
        rw [fM_findWays_h49, if_neg (fbI_ne (by omega)), show fbI (some x) = cI (x : Int) from rfl, if_pos xb, ltM_eq, xx, e11, show cI 0 = cI ((0 : Nat) : Int) from rfl, a2]
        refine sm.trans ?_
        rw [fam_all (fun p hp => a3.1 p hp) (fun p hp => mmS_cg (a3.1 p hp) (a3.2.2 p hp))]
        exact b2
theorem si_C {a : Int32} {N : Nat} : ∀ (r m k : Nat) (s : ev_M), k + r = N → r < m → N = ix (s.1 30 2) → 0 ≤ (s.1 30 2).toInt → (s.1 30 2).toInt ≤ 12 → (∀ p, p < k → s.1 546 p = cI (-1) ∧ s.1 547 p = cI (-1) ∧ s.1 548 p = cI 0) → ∃ s', fLines_search_h2 m s a (cI (k : Int)) = (if inb a 12 = true then fLines_search_h55 1048576 (wI s' 546 (ix a) (s'.1 15 1)) (cI 0) else none) ∧ (∀ p, p < N → s'.1 546 p = cI (-1) ∧ s'.1 547 p = cI (-1) ∧ s'.1 548 p = cI 0) ∧ fr FswC s s'
  | 0, m, k, s, hk, hm, hN, h0, h30, hp => by
    obtain ⟨m, rfl⟩ : ∃ k, m = k + 1 := ⟨m - 1, by omega⟩
    have nn := ix_toNat (s.1 30 2)
    refine ⟨s, ?_, fun p h => hp p (by omega), fr.rf⟩
    rw [fLines_search_h2, if_neg (by rw [lt_i, k_ti (by omega)]; omega)]
    rfl
  | r + 1, m, k, s, hk, hm, hN, h0, h30, hp => by
    obtain ⟨m, rfl⟩ : ∃ k, m = k + 1 := ⟨m - 1, by omega⟩
    have nn := ix_toNat (s.1 30 2)
    have lt : cI (k : Int) < s.1 30 2 := by rw [lt_i, k_ti (by omega)]; omega
    have kb : inb (cI (k : Int)) 12 = true := k_in (by omega) (by decide)
    have kx : ix (cI (k : Int)) = k := k_ix (by omega)
    have f1 : fr FswC s (wI (wI (wI s 546 k (cI (-1))) 547 k (cI (-1))) 548 k (cI 0)) := ((fr.rf.wI rfl).wI rfl).wI rfl
    have e30 := (f1.1 30 2 rfl).1
    obtain ⟨s', b1, b2, b3⟩ := si_C (a := a) (N := N) r m (k + 1) _ (by omega) (by omega) (by rw [e30]; exact hN) (by rw [e30]; exact h0) (by rw [e30]; exact h30) (fun p h => by
      simp (disch := decide) only [ix_0, ix_1, ix_2, ix_3, ix_4, ix_5, ix_6, ix_7, ix_8, ix_9, ix_10, ix_11, ix_12, ix_13, ix_14, ix_15, ix_16, ix_17, ix_18, ix_19, ix_20, ix_21, Nat.reduceAdd, wI_c, wI_ne, wL_1, lupd_ne, up1_eq, up1_ne]
      by_cases z : p = k
      · subst z
        simp only [up1_eq]
        exact ⟨trivial, trivial, trivial⟩
      · simp only [up1_ne z]
        exact hp p (by omega))
    refine ⟨s', ?_, b2, f1.tr b3⟩
    rw [fLines_search_h2, if_pos lt]
    simp only [if_pos kb, ltM_eq, kx]
    rw [k_s (by omega), show cI 0 &&& 1 = cI 0 by decide]
    exact b1
theorem si_M {a : Int32} {N : Nat} : ∀ (r m k : Nat) (t : ev_M), k + r = N → r < m → N = ix (t.1 549 24) → 0 ≤ (t.1 549 24).toInt → (t.1 549 24).toInt ≤ 12 → (∀ p, p < k → t.1 675 p = cI (-1) ∧ t.1 676 p = cI (-1) ∧ t.1 677 p = cI 0) → ∃ t', fM_findWays_h2 m t a (cI (k : Int)) = (if inb a 12 = true then fM_findWays_h49 1048576 (wI t' 675 (ix a) (t'.1 549 22)) a a else none) ∧ (∀ p, p < N → t'.1 675 p = cI (-1) ∧ t'.1 676 p = cI (-1) ∧ t'.1 677 p = cI 0) ∧ fr FswM t t'
  | 0, m, k, t, hk, hm, hN, h0, h30, hp => by
    obtain ⟨m, rfl⟩ : ∃ k, m = k + 1 := ⟨m - 1, by omega⟩
    have nn := ix_toNat (t.1 549 24)
    refine ⟨t, ?_, fun p h => hp p (by omega), fr.rf⟩
    rw [fM_findWays_h2, if_neg (by rw [lt_i, k_ti (by omega)]; omega)]
    rfl
  | r + 1, m, k, t, hk, hm, hN, h0, h30, hp => by
    obtain ⟨m, rfl⟩ : ∃ k, m = k + 1 := ⟨m - 1, by omega⟩
    have nn := ix_toNat (t.1 549 24)
    have lt : cI (k : Int) < t.1 549 24 := by rw [lt_i, k_ti (by omega)]; omega
    have kb : inb (cI (k : Int)) 12 = true := k_in (by omega) (by decide)
    have kx : ix (cI (k : Int)) = k := k_ix (by omega)
    have f1 : fr FswM t (wI (wI (wI t 675 k (cI (-1))) 676 k (cI (-1))) 677 k (cI 0)) := ((fr.rf.wI rfl).wI rfl).wI rfl
    have e30 := (f1.1 549 24 (by decide +kernel)).1
    obtain ⟨t', b1, b2, b3⟩ := si_M (a := a) (N := N) r m (k + 1) _ (by omega) (by omega) (by rw [e30]; exact hN) (by rw [e30]; exact h0) (by rw [e30]; exact h30) (fun p h => by
      simp (disch := decide) only [ix_0, ix_1, ix_2, ix_3, ix_4, ix_5, ix_6, ix_7, ix_8, ix_9, ix_10, ix_11, ix_12, ix_13, ix_14, ix_15, ix_16, ix_17, ix_18, ix_19, ix_20, ix_21, Nat.reduceAdd, wI_c, wI_ne, wL_1, lupd_ne, up1_eq, up1_ne]
      by_cases z : p = k
      · subst z
        simp only [up1_eq]
        exact ⟨trivial, trivial, trivial⟩
      · simp only [up1_ne z]
        exact hp p (by omega))
    refine ⟨t', ?_, b2, f1.tr b3⟩
    rw [fM_findWays_h2, if_pos lt]
    simp only [if_pos kb, ltM_eq, kx]
    rw [k_s (by omega), show cI 0 &&& 1 = cI 0 by decide]
    exact b1
/-- the ways from a place: class and reference -/
theorem ways_ok {k : Nat} {s t : ev_M} {a : Int32} (hL : RLw k s t) (ht : RTim s t) (hP : RPl s t) (hk : 600 * k ≤ 500000000) (ha : Has a (s.1 30 2)) : ∃ s' t', fLines_search s a = some s' ∧ fM_findWays t a = some t' ∧ Sw (ix (s.1 30 2)) s' t' ∧ (∀ p, p < ix (s.1 30 2) → -1 ≤ (s'.1 546 p).toInt) ∧ fr FswC s s' ∧ fr FswM t t' := by
  obtain ⟨⟨p1, p2, p3⟩, -⟩ := id hP
  obtain ⟨⟨c1, c2, c3⟩, -⟩ := id ht
  have nn := ix_toNat (s.1 30 2)
  have w := ha.ix
  have ab : inb a 12 = true := ha.inb p3
  have ea : cI ((ix a : Nat) : Int) = a := cI_ix ha.1
  obtain ⟨s1, a1, a2, a3⟩ := si_C (a := a) (N := ix (s.1 30 2)) (ix (s.1 30 2)) 1048576 0 s (by omega) (by omega) rfl p2 p3 (fun p h => absurd h (Nat.not_lt_zero _))
  obtain ⟨t1, b1, b2, b3⟩ := si_M (a := a) (N := ix (s.1 30 2)) (ix (s.1 30 2)) 1048576 0 t (by omega) (by omega) (by rw [p1]) (by rw [p1]; exact p2) (by rw [p1]; exact p3) (fun p h => absurd h (Nat.not_lt_zero _))
  have e15 : s1.1 15 1 = s.1 15 1 := (a3.1 15 1 rfl).1
  have e22 : t1.1 549 22 = s.1 15 1 := by rw [(b3.1 549 22 (by decide +kernel)).1, c1]
  have f1 : fr FswC s (wI s1 546 (ix a) (s1.1 15 1)) := a3.wI rfl
  have f2 : fr FswM t (wI t1 675 (ix a) (t1.1 549 22)) := b3.wI rfl
  rw [e15] at a1 f1
  rw [e22] at b1 f2
  have e30 : (wI s1 546 (ix a) (s.1 15 1)).1 30 2 = s.1 30 2 := (f1.1 30 2 rfl).1
  have ne : ¬ s.1 15 1 = cI (-1) := fun u => by rw [u] at c2; exact absurd c2 (by decide)
  have S1 : Sw (ix (s.1 30 2)) (wI s1 546 (ix a) (s.1 15 1)) (wI t1 675 (ix a) (s.1 15 1)) := by
    refine ⟨?_, ?_, ?_⟩
    · rw [wI_c, wI_c]
      exact Ag.up (fun p hp => by rw [(a2 p hp).1, (b2 p hp).1])
    · rw [wI_ne (by decide), wI_ne (by decide)]
      exact fun p hp => by rw [(a2 p hp).2.1, (b2 p hp).2.1]
    · rw [wI_ne (by decide), wI_ne (by decide)]
      exact fun p hp => by rw [(a2 p hp).2.2, (b2 p hp).2.2]
  have W1 : Wi (ix (s.1 30 2)) (ix a) (s.1 15 1) ((s.1 15 1).toInt + 600 * (k : Int) + 4440 * ((0 : Nat) : Int)) (wI s1 546 (ix a) (s.1 15 1)) := by
    unfold Wi
    simp (disch := decide) only [ix_0, ix_1, ix_2, ix_3, ix_4, ix_5, ix_6, ix_7, ix_8, ix_9, ix_10, ix_11, ix_12, ix_13, ix_14, ix_15, ix_16, ix_17, ix_18, ix_19, ix_20, ix_21, Nat.reduceAdd, wI_c, wI_ne, wL_1, lupd_ne, up1_eq, up1_ne]
    refine ⟨fun p hp => ?_, trivial, (a2 _ w).2.1, fun p hp h1 h2 => ?_⟩
    · by_cases z : p = ix a
      · rw [z, up1_eq]; exact Or.inr ⟨Int.le_refl _, by omega⟩
      · rw [up1_ne z]; exact Or.inl (a2 p hp).1
    · rw [up1_ne h1] at h2
      exact absurd (a2 p hp).1 h2
  have C1 : cntE ((wI s1 546 (ix a) (s.1 15 1)).1 548) (cI 1) (ix (s.1 30 2)) = 0 := by
    rw [wI_ne (by decide)]
    exact cntE_0 _ (fun j hj u => by rw [(a2 j hj).2.2] at u; exact absurd u (by decide))
  have ef : fam ((wI s1 546 (ix a) (s.1 15 1)).1 546) (mmS ((wI s1 546 (ix a) (s.1 15 1)).1 546) ((wI s1 546 (ix a) (s.1 15 1)).1 548)) (ix (s.1 30 2)) = some (ix a) := by
    obtain ⟨b, hb⟩ := fam_some (g := (wI s1 546 (ix a) (s.1 15 1)).1 546) (m := mmS ((wI s1 546 (ix a) (s.1 15 1)).1 546) ((wI s1 546 (ix a) (s.1 15 1)).1 548)) (c := ix (s.1 30 2)) (j := ix a) w (by
      refine decide_eq_true ⟨?_, ?_⟩
      · rw [wI_c, up1_eq]; exact ne
      · rw [wI_ne (by decide), (a2 _ w).2.2]; rfl)
    obtain ⟨q1, q2, -⟩ := fam_at hb
    rw [hb]
    have q3 := (of_decide_eq_true q2).1
    rw [wI_c] at q3
    by_cases z : b = ix a
    · rw [z]
    · rw [up1_ne z] at q3
      exact absurd (a2 b q1).1 q3
  obtain ⟨s', t', d1, d2, d3, d4, d5, d6⟩ := ws_lp (k := k) (T := s.1 15 1) w c2 c3 hk (ix (s.1 30 2)) 1048576 1048576 0 (wI s1 546 (ix a) (s.1 15 1)) (wI t1 675 (ix a) (s.1 15 1)) (by omega) (by omega) (by omega) (hL.keep f1 f2 (by decide +kernel) (by decide +kernel)) (hP.keep f1 f2 (by decide +kernel) (by decide +kernel)) (by rw [e30]) ((f1.1 15 1 rfl).1) S1 W1 C1
  rw [ef, show fbI (some (ix a)) = cI ((ix a : Nat) : Int) from rfl, ea] at d2
  refine ⟨s', t', ?_, ?_, d3, fun p hp => ?_, f1.tr d5, f2.tr d6⟩
  · show fLines_search_h2 1048576 s a (cI ((0 : Nat) : Int)) = _
    rw [a1, if_pos ab]
    exact d1
  · show fM_findWays_h2 1048576 t a (cI ((0 : Nat) : Int)) = _
    rw [b1, if_pos ab]
    exact d2
  · rcases d4.1 p hp with u | u
    · rw [u]; decide
    · omega
