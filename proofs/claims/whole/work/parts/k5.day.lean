/-! ===== LEVEL 3: a day begins ===== -/
def FbdC : List (Nat × (Nat × Nat)) := (130, 137, 0) :: F_Items_goBack
def FmnC : List (Nat × (Nat × Nat)) := F_Money_settle
def FmnM : List (Nat × (Nat × Nat)) := (632, 632, 0) :: F_M_pay
def FdyC : List (Nat × (Nat × Nat)) := (128, 128, 0) :: (FbdC ++ FmnC)
def FdyM : List (Nat × (Nat × Nat)) := (625, 625, 0) :: (F_M_goesBack ++ FmnM)
/-- one item that is held no longer -/
theorem bk_ok {n : Nat} {s t : ev_M} {i : Int32} (h : RV n s t) (hcu : RCu s t) (ht : RTim s t) (hg : RBg s t) (hl : RLk s t) (hn : n < 2147483646) (h1 : Has i (s.1 100 5)) (h6 : s.1 102 (ix i) = cI 6) : ∃ s1 s' t' c c', fLock_drop s i = some s1 ∧ fItems_goBack s1 i = some (s', c) ∧ fM_goesBack t i = some (t', c') ∧ RV (n + 1) s' t' ∧ fr FbdC s s' ∧ fr F_M_goesBack t t' := by
  obtain ⟨⟨n1, n2, n3⟩, -⟩ := id h.1.1
  have w := h1.ix
  obtain ⟨s1, c1, c2, c3⟩ := drop_l (i := i) h.2.2.2.2 hl n1 n2 n3 h1 (h.1.2.1.2.2.2.2.2.1 _ w).symm
  have l593 : (lvS t (ix i)).1 593 = up1 (t.1 593) (ix i) (cI (-1)) := by unfold lvS; simp (disch := decide) only [ix_0, ix_1, ix_2, ix_3, ix_4, ix_5, ix_6, ix_7, ix_8, ix_9, ix_10, ix_11, ix_12, ix_13, ix_14, ix_15, ix_16, ix_17, ix_18, ix_19, ix_20, ix_21, Nat.reduceAdd, wI_c, wI_ne, wL_1, lupd_ne, up1_eq, up1_ne]
  have l594 : (lvS t (ix i)).1 594 = t.1 594 := by unfold lvS; simp (disch := decide) only [ix_0, ix_1, ix_2, ix_3, ix_4, ix_5, ix_6, ix_7, ix_8, ix_9, ix_10, ix_11, ix_12, ix_13, ix_14, ix_15, ix_16, ix_17, ix_18, ix_19, ix_20, ix_21, Nat.reduceAdd, wI_c, wI_ne, wL_1, lupd_ne, up1_eq, up1_ne]
  have l595 : (lvS t (ix i)).1 595 = up1 (t.1 595) (ix i) (cI (-1)) := by unfold lvS; simp (disch := decide) only [ix_0, ix_1, ix_2, ix_3, ix_4, ix_5, ix_6, ix_7, ix_8, ix_9, ix_10, ix_11, ix_12, ix_13, ix_14, ix_15, ix_16, ix_17, ix_18, ix_19, ix_20, ix_21, Nat.reduceAdd, wI_c, wI_ne, wL_1, lupd_ne, up1_eq, up1_ne]
  have l596 : (lvS t (ix i)).1 596 = t.1 596 := by unfold lvS; simp (disch := decide) only [ix_0, ix_1, ix_2, ix_3, ix_4, ix_5, ix_6, ix_7, ix_8, ix_9, ix_10, ix_11, ix_12, ix_13, ix_14, ix_15, ix_16, ix_17, ix_18, ix_19, ix_20, ix_21, Nat.reduceAdd, wI_c, wI_ne, wL_1, lupd_ne, up1_eq, up1_ne]
  have l597 : (lvS t (ix i)).1 597 = up1 (t.1 597) (ix i) (cI (-1)) := by unfold lvS; simp (disch := decide) only [ix_0, ix_1, ix_2, ix_3, ix_4, ix_5, ix_6, ix_7, ix_8, ix_9, ix_10, ix_11, ix_12, ix_13, ix_14, ix_15, ix_16, ix_17, ix_18, ix_19, ix_20, ix_21, Nat.reduceAdd, wI_c, wI_ne, wL_1, lupd_ne, up1_eq, up1_ne]
  have l598 : (lvS t (ix i)).1 598 = up1 (t.1 598) (ix i) (cI (-1)) := by unfold lvS; simp (disch := decide) only [ix_0, ix_1, ix_2, ix_3, ix_4, ix_5, ix_6, ix_7, ix_8, ix_9, ix_10, ix_11, ix_12, ix_13, ix_14, ix_15, ix_16, ix_17, ix_18, ix_19, ix_20, ix_21, Nat.reduceAdd, wI_c, wI_ne, wL_1, lupd_ne, up1_eq, up1_ne]
  obtain ⟨x1, x2, x3, x4⟩ := h.1.2.2.2 _ w
  have o1 := x1 (by rw [h6]; decide)
  have o2 := x2 (by rw [h6]; decide)
  have o4 := x4.1 (Or.inr (Or.inr (Or.inl h6)))
  rw [up1_id o1] at l593
  rw [up1_id o2] at l595
  have hB : RB s1 (lvS t (ix i)) := by
    refine ⟨?_, ?_, c3 _ l597 l598⟩
    · have q := h.2.2.1.keep c2 rf_fr (by decide +kernel) (by decide +kernel)
      unfold RRw at q ⊢
      rw [l595, l596]
      exact q
    · have q := h.2.2.2.1.keep c2 rf_fr (by decide +kernel) (by decide +kernel)
      unfold RBc at q ⊢
      rw [l593, l594]
      exact q
  have y100 : s1.1 100 5 = s.1 100 5 := (c2.1 100 5 rfl).1
  have y449 : s1.1 449 6 = s.1 449 6 := (c2.1 449 6 rfl).1
  have y125 : s1.1 125 3 = s.1 125 3 := (c2.1 125 3 rfl).1
  have y109 : s1.1 109 = s.1 109 := funext fun k => (c2.1 109 k rfl).1
  obtain ⟨s', t', c, w1, w2, w3, w4, w5⟩ := go_back (s := s1) (t := t) (i := i) (h.1.keep c2 rf_fr (by decide +kernel) (by decide +kernel)) (h.2.1.keep c2 rf_fr (by decide +kernel) (by decide +kernel)) hB (hcu.keep c2 rf_fr (by decide +kernel) (by decide +kernel)) (ht.keep c2 rf_fr (by decide +kernel) (by decide +kernel)) hn (by rw [y100]; exact h1) (by rw [y449]; exact hg.1.2.1) (by rw [y125]; exact hl.1.2.1) (by rw [y109]; exact o4)
  exact ⟨s1, s', t', c, c, c1, w1, w2, w3, (c2.mono (by decide +kernel)).tr (w4.mono (by decide +kernel)), w5⟩
theorem bd_lp {d : Int32} : ∀ (r m m' i n : Nat) (s t : ev_M), i + r = ix (s.1 100 5) → r < m → r < m' → RV n s t → RCu s t → RTim s t → RBg s t → RLk s t → n + r < 2147483646 → d = s.1 15 1 / cI 1440 → ∃ s' t', fPH_beginDay_h10 m s d (cI (i : Int)) = (bd1 (fMoney_giveBack s' d) fun s5 => bd1 (fLock_unbar s5) fun s6 => some s6) ∧ fM_dayBegins_h2 m' t (cI (i : Int)) = fM_dayBegins_h48 1048576 t' (cI 0) ∧ RV (n + r) s' t' ∧ fr FbdC s s' ∧ fr F_M_goesBack t t'
  | 0, m, m', i, n, s, t, hi, hm, hm', h, hcu, ht, hg, hl, hn, hd => by
    obtain ⟨m, rfl⟩ : ∃ k, m = k + 1 := ⟨m - 1, by omega⟩
    obtain ⟨m', rfl⟩ : ∃ k, m' = k + 1 := ⟨m' - 1, by omega⟩
    obtain ⟨⟨n1, n2, n3⟩, -⟩ := id h.1.1
    have bb := ix_toNat (s.1 100 5)
    have nl : ¬ cI (i : Int) < s.1 100 5 := by rw [lt_i, k_ti (by omega)]; omega
    refine ⟨s, t, ?_, ?_, h, fr.rf, fr.rf⟩
    · rw [fPH_beginDay_h10, if_neg nl]
    · rw [fM_dayBegins_h2, n1, if_neg nl]
  | r + 1, m, m', i, n, s, t, hi, hm, hm', h, hcu, ht, hg, hl, hn, hd => by
    obtain ⟨m, rfl⟩ : ∃ k, m = k + 1 := ⟨m - 1, by omega⟩
    obtain ⟨m', rfl⟩ : ∃ k, m' = k + 1 := ⟨m' - 1, by omega⟩
    obtain ⟨⟨n1, n2, n3⟩, g1, -⟩ := id h.1.1
    obtain ⟨⟨c1, -⟩, -⟩ := id ht
    have bb := ix_toNat (s.1 100 5)
    have lt : cI (i : Int) < s.1 100 5 := by rw [lt_i, k_ti (by omega)]; omega
    have ib : inb (cI (i : Int)) 300 = true := k_in (by omega) (by decide)
    have xi : ix (cI (i : Int)) = i := k_ix (by omega)
    have hi' : i < ix (s.1 100 5) := by omega
    have hh : Has (cI (i : Int)) (s.1 100 5) := ⟨by rw [k_ti (by omega)]; omega, by rw [k_ti (by omega)]; omega⟩
    have e602 : t.1 602 i = s.1 116 i := h.1.2.1.2.2.2.2.1 i hi'
    have n440 : ¬ cI 1440 = 0 := by decide
    by_cases z : s.1 102 i = cI 6 ∧ s.1 116 i ≤ d
    · obtain ⟨s1, s2, t2, x, x', a1, a2, a3, a4, a5, a6⟩ := bk_ok (i := cI (i : Int)) h hcu ht hg hl (by omega) hh (by rw [xi]; exact z.1)
      obtain ⟨s', t', b1, b2, b3, b4, b5⟩ := bd_lp (d := d) r m m' (i + 1) (n + 1) s2 t2 (by rw [(a5.1 100 5 (by decide +kernel)).1]; omega) (by omega) (by omega) a4 (hcu.keep a5 a6 (by decide +kernel) (by decide +kernel)) (ht.keep a5 a6 (by decide +kernel) (by decide +kernel)) (hg.keep a5 a6 (by decide +kernel) (by decide +kernel)) (hl.keep a5 a6 (by decide +kernel) (by decide +kernel)) (by omega) (by rw [(a5.1 15 1 (by decide +kernel)).1]; exact hd)
      refine ⟨s', t', ?_, ?_, by rw [show n + (r + 1) = n + 1 + r by omega]; exact b3, a5.tr b4, a6.tr b5⟩
      · rw [← b1, ← k_s (by omega), fPH_beginDay_h10, if_pos lt]
        simp (disch := decide) only [fItems_isHeldTill, fItems_is, if_pos ib, xi, ix_0, ix_1, ix_2, ix_3, ix_4, ix_5, ix_6, ix_7, ix_8, ix_9, ix_10, ix_11, ix_12, ix_13, ix_14, ix_15, ix_16, ix_17, ix_18, ix_19, ix_20, ix_21, Nat.reduceAdd, wI_c, wI_ne, wL_1, lupd_ne, up1_eq, up1_ne, Nat.add_zero, z.1, if_true, bd1_some, if_pos z.2, if_neg (show ¬ cI 1 = 0 by decide), a1, a2, bd2_some, fPH_beginDay_b50]
      · rw [← b2, ← k_s (by omega), fM_dayBegins_h2, n1, if_pos lt]
        simp (disch := decide) only [if_pos ib, xi, g1 i hi', z.1, if_true, fM_today, if_neg n440, c1, ← hd, bd1_some, e602, if_pos z.2, a3, bd2_some, fM_dayBegins_b40]
    · obtain ⟨s', t', b1, b2, b3, b4, b5⟩ := bd_lp (d := d) r m m' (i + 1) (n + 1) s t (by omega) (by omega) (by omega) (h.mono (by omega)) hcu ht hg hl (by omega) hd
      refine ⟨s', t', ?_, ?_, by rw [show n + (r + 1) = n + 1 + r by omega]; exact b3, b4, b5⟩
      · rw [← b1, ← k_s (by omega), fPH_beginDay_h10, if_pos lt]
        by_cases z1 : s.1 102 i = cI 6
        · simp (disch := decide) only [fItems_isHeldTill, fItems_is, if_pos ib, xi, ix_0, ix_1, ix_2, ix_3, ix_4, ix_5, ix_6, ix_7, ix_8, ix_9, ix_10, ix_11, ix_12, ix_13, ix_14, ix_15, ix_16, ix_17, ix_18, ix_19, ix_20, ix_21, Nat.reduceAdd, wI_c, wI_ne, wL_1, lupd_ne, up1_eq, up1_ne, Nat.add_zero, z1, if_true, bd1_some, if_neg (fun u => z ⟨z1, u⟩), if_neg (show ¬ cI 1 = 0 by decide), if_pos (show cI 0 = 0 from rfl), fPH_beginDay_b50]
        · simp (disch := decide) only [fItems_isHeldTill, fItems_is, if_pos ib, xi, ix_0, ix_1, ix_2, ix_3, ix_4, ix_5, ix_6, ix_7, ix_8, ix_9, ix_10, ix_11, ix_12, ix_13, ix_14, ix_15, ix_16, ix_17, ix_18, ix_19, ix_20, ix_21, Nat.reduceAdd, wI_c, wI_ne, wL_1, lupd_ne, up1_eq, up1_ne, Nat.add_zero, if_neg z1, bd1_some, if_pos (show cI 0 = 0 from rfl), fPH_beginDay_b50]
      · rw [← b2, ← k_s (by omega), fM_dayBegins_h2, n1, if_pos lt]
        by_cases z1 : s.1 102 i = cI 6
        · simp (disch := decide) only [if_pos ib, xi, g1 i hi', z1, if_true, fM_today, if_neg n440, c1, ← hd, bd1_some, e602, if_neg (fun u => z ⟨z1, u⟩), fM_dayBegins_b40]
        · simp (disch := decide) only [if_pos ib, xi, g1 i hi', if_neg z1, fM_dayBegins_b40]
/-- money orders that nobody fetched go back -/
theorem gb_lp {d : Int32} : ∀ (r m m' k : Nat) (s t : ev_M), k + r = ix (s.1 78 8) → r < m → r < m' → RMo s t → RCu s t → d = t.1 549 22 / cI 1440 → ∃ s' t', fMoney_giveBack_h2 m s d (cI (k : Int)) = some s' ∧ fM_dayBegins_h48 m' t (cI (k : Int)) = fM_dayBegins_h111 1048576 t' (cI 0) ∧ RMo s' t' ∧ fr FmnC s s' ∧ fr FmnM t t'
  | 0, m, m', k, s, t, hk, hm, hm', h, hcu, hd => by
    obtain ⟨m, rfl⟩ : ∃ k, m = k + 1 := ⟨m - 1, by omega⟩
    obtain ⟨m', rfl⟩ : ∃ k, m' = k + 1 := ⟨m' - 1, by omega⟩
    obtain ⟨hg, ho, hr⟩ := id h
    obtain ⟨⟨k1, k2, k3⟩, -⟩ := id ho
    have bb := ix_toNat (s.1 78 8)
    have nl : ¬ cI (k : Int) < s.1 78 8 := by rw [lt_i, k_ti (by omega)]; omega
    refine ⟨s, t, ?_, ?_, h, fr.rf, fr.rf⟩
    · rw [fMoney_giveBack_h2, if_neg nl]
    · rw [fM_dayBegins_h48, k1, if_neg nl]
  | r + 1, m, m', k, s, t, hk, hm, hm', h, hcu, hd => by
    obtain ⟨m, rfl⟩ : ∃ k, m = k + 1 := ⟨m - 1, by omega⟩
    obtain ⟨m', rfl⟩ : ∃ k, m' = k + 1 := ⟨m' - 1, by omega⟩
    obtain ⟨hg, ho, hr⟩ := id h
    obtain ⟨⟨u1, u2, u3⟩, -⟩ := id hcu
    obtain ⟨⟨k1, k2, k3⟩, g1, g2, g3, g4, g5, o1, b1, b2, b3, b4⟩ := id ho
    have bb := ix_toNat (s.1 78 8)
    have lt : cI (k : Int) < s.1 78 8 := by rw [lt_i, k_ti (by omega)]; omega
    have ib : inb (cI (k : Int)) 60 = true := k_in (by omega) (by decide)
    have xi : ix (cI (k : Int)) = k := k_ix (by omega)
    have hk' : k < ix (s.1 78 8) := by omega
    have hh : Has (cI (k : Int)) (s.1 78 8) := ⟨by rw [k_ti (by omega)]; omega, by rw [k_ti (by omega)]; omega⟩
    have n440 : ¬ cI 1440 = 0 := by decide
    by_cases z : s.1 87 k = 0 ∧ s.1 91 k ≤ d
    · obtain ⟨z1, z2⟩ := z
      obtain ⟨p1, p2⟩ := ho.one hh (by rw [xi]; exact z1)
      obtain ⟨q1, q2⟩ := b2 k hk'
      obtain ⟨q3, q4⟩ := b4 k hk'
      have hr2 : (s.1 78 6).toInt + (s.1 78 9).toInt ≤ 2000 := hr
      have ft0 : fr [(632, 632, 0)] t (wI t 632 k (cI 2)) := fr.rf.wI rfl
      have hg2 : RLg s (wI t 632 k (cI 2)) := hg.keep rf_fr ft0 (by decide +kernel) (by decide +kernel)
      obtain ⟨s1, t1, es, et, hg3, e6, e7, e8⟩ := hg2.pay (f := cI 3) (g := s.1 88 k) (c := s.1 90 k) (i := cI (-1)) (by omega) (by decide) (by omega) (by decide) (by omega) q3 (by omega) (fun q => absurd q (by decide)) (by rw [show (cI 3).toInt = 3 from rfl]; omega) (by omega) (fun q => by
        rw [← q, show (cI 3).toInt = 3 from rfl] at q1
        omega) u2
      have fs := fr_fMoney_transfer es
      have ft := fr_fM_pay et
      have w8 : s1.1 78 8 = s.1 78 8 := (fs.1 78 8 rfl).1
      have w9 : s1.1 78 9 = s.1 78 9 := (fs.1 78 9 rfl).1
      have x87 : s1.1 87 = s.1 87 := funext fun k => (fs.1 87 k rfl).1
      have ho1 : ROm s1 t := ho.keep fs rf_fr (by decide +kernel) (by decide +kernel)
      have ho2 := ho1.setp (k := cI (k : Int)) (x := cI 2) (by rw [w8]; exact hh) (by rw [x87, xi]; exact z1) (Or.inr rfl)
      rw [w9, xi] at ho2
      have fs2 : fr [(87, 87, 0), (78, 78, 10)] s1 (wI (wI s1 87 k (cI 2)) 78 9 (s.1 78 9 - cI 1)) := (fr.rf.wI rfl).wI rfl
      have fS : fr FmnC s (wI (wI s1 87 k (cI 2)) 78 9 (s.1 78 9 - cI 1)) := (fs.mono (by decide +kernel)).tr (fs2.mono (by decide +kernel))
      have fT : fr FmnM t t1 := (ft0.mono (by decide +kernel)).tr (ft.mono (by decide +kernel))
      have h' : RMo (wI (wI s1 87 k (cI 2)) 78 9 (s.1 78 9 - cI 1)) t1 := by
        refine ⟨hg3.keep fs2 rf_fr (by decide +kernel) (by decide +kernel), ho2.keep rf_fr ft (by decide +kernel) (by decide +kernel), ?_⟩
        unfold RRm
        simp (disch := decide) only [ix_0, ix_1, ix_2, ix_3, ix_4, ix_5, ix_6, ix_7, ix_8, ix_9, ix_10, ix_11, ix_12, ix_13, ix_14, ix_15, ix_16, ix_17, ix_18, ix_19, ix_20, ix_21, Nat.reduceAdd, wI_c, wI_ne, wL_1, lupd_ne, up1_eq, up1_ne, e6]
        rw [inc_i (by omega), sub_toInt (by rw [show (cI 1).toInt = 1 from rfl]; omega) (by rw [show (cI 1).toInt = 1 from rfl]; omega), show (cI 1).toInt = 1 from rfl]
        omega
      obtain ⟨s', t', v1, v2, v3, v4, v5⟩ := gb_lp (d := d) r m m' (k + 1) _ t1 (by rw [(fS.1 78 8 rfl).1]; omega) (by omega) (by omega) h' (hcu.keep fS fT (by decide +kernel) (by decide +kernel)) (by rw [(fT.1 549 22 rfl).1]; exact hd)
      refine ⟨s', t', ?_, ?_, v3, fS.tr v4, fT.tr v5⟩
      · rw [← v1, ← k_s (by omega), fMoney_giveBack_h2, if_pos lt]
        simp (disch := decide) only [if_pos ib, xi, ix_0, ix_1, ix_2, ix_3, ix_4, ix_5, ix_6, ix_7, ix_8, ix_9, ix_10, ix_11, ix_12, ix_13, ix_14, ix_15, ix_16, ix_17, ix_18, ix_19, ix_20, ix_21, Nat.reduceAdd, wI_c, wI_ne, wL_1, lupd_ne, up1_eq, up1_ne, Nat.add_zero, z1, if_true, if_pos z2, fMoney_settle, es, bd1_some, ltM_eq, w9, fMoney_giveBack_b47]
      · rw [← v2, ← k_s (by omega), fM_dayBegins_h48, k1, if_pos lt]
        simp (disch := decide) only [if_pos ib, xi, g1 k hk', z1, if_true, fM_today, if_neg n440, ← hd, bd1_some, g5 k hk', if_pos z2, ltM_eq, ix_0, ix_1, ix_2, ix_3, ix_4, ix_5, ix_6, ix_7, ix_8, ix_9, ix_10, ix_11, ix_12, ix_13, ix_14, ix_15, ix_16, ix_17, ix_18, ix_19, ix_20, ix_21, Nat.reduceAdd, wI_c, wI_ne, wL_1, lupd_ne, up1_eq, up1_ne, g2 k hk', g4 k hk', et, fM_dayBegins_b103]
    · obtain ⟨s', t', v1, v2, v3, v4, v5⟩ := gb_lp (d := d) r m m' (k + 1) s t (by omega) (by omega) (by omega) h hcu hd
      refine ⟨s', t', ?_, ?_, v3, v4, v5⟩
      · rw [← v1, ← k_s (by omega), fMoney_giveBack_h2, if_pos lt]
        by_cases z1 : s.1 87 k = 0
        · simp (disch := decide) only [if_pos ib, xi, ix_0, ix_1, ix_2, ix_3, ix_4, ix_5, ix_6, ix_7, ix_8, ix_9, ix_10, ix_11, ix_12, ix_13, ix_14, ix_15, ix_16, ix_17, ix_18, ix_19, ix_20, ix_21, Nat.reduceAdd, wI_c, wI_ne, wL_1, lupd_ne, up1_eq, up1_ne, Nat.add_zero, z1, if_true, if_neg (fun u => z ⟨z1, u⟩), fMoney_giveBack_b47]
        · simp (disch := decide) only [if_pos ib, xi, ix_0, ix_1, ix_2, ix_3, ix_4, ix_5, ix_6, ix_7, ix_8, ix_9, ix_10, ix_11, ix_12, ix_13, ix_14, ix_15, ix_16, ix_17, ix_18, ix_19, ix_20, ix_21, Nat.reduceAdd, wI_c, wI_ne, wL_1, lupd_ne, up1_eq, up1_ne, Nat.add_zero, if_neg z1, fMoney_giveBack_b47]
      · rw [← v2, ← k_s (by omega), fM_dayBegins_h48, k1, if_pos lt]
        by_cases z1 : s.1 87 k = 0
        · simp (disch := decide) only [if_pos ib, xi, g1 k hk', z1, if_true, fM_today, if_neg n440, ← hd, bd1_some, g5 k hk', if_neg (fun u => z ⟨z1, u⟩), fM_dayBegins_b103]
        · simp (disch := decide) only [if_pos ib, xi, g1 k hk', if_neg z1, fM_dayBegins_b103]
theorem ub_lp : ∀ (r m m' k : Nat) (s t : ev_M), k + r = ix (s.1 125 3) → r < m → r < m' → RLk s t → ∃ s' t', fLock_unbar_h2 m s (cI (k : Int)) = some s' ∧ fM_dayBegins_h111 m' t (cI (k : Int)) = some t' ∧ RLk s' t' ∧ fr [(128, 128, 0)] s s' ∧ fr [(625, 625, 0)] t t'
  | 0, m, m', k, s, t, hk, hm, hm', h => by
    obtain ⟨m, rfl⟩ : ∃ k, m = k + 1 := ⟨m - 1, by omega⟩
    obtain ⟨m', rfl⟩ : ∃ k, m' = k + 1 := ⟨m' - 1, by omega⟩
    obtain ⟨⟨k1, k2, k3⟩, -⟩ := id h
    have bb := ix_toNat (s.1 125 3)
    have nl : ¬ cI (k : Int) < s.1 125 3 := by rw [lt_i, k_ti (by omega)]; omega
    exact ⟨s, t, by rw [fLock_unbar_h2, if_neg nl], by rw [fM_dayBegins_h111, k1, if_neg nl], h, fr.rf, fr.rf⟩
  | r + 1, m, m', k, s, t, hk, hm, hm', h => by
    obtain ⟨m, rfl⟩ : ∃ k, m = k + 1 := ⟨m - 1, by omega⟩
    obtain ⟨m', rfl⟩ : ∃ k, m' = k + 1 := ⟨m' - 1, by omega⟩
    obtain ⟨⟨k1, k2, k3⟩, g1, g2, g3, b1, b2, b3⟩ := id h
    have bb := ix_toNat (s.1 125 3)
    have lt : cI (k : Int) < s.1 125 3 := by rw [lt_i, k_ti (by omega)]; omega
    have ib : inb (cI (k : Int)) 8 = true := k_in (by omega) (by decide)
    have xi : ix (cI (k : Int)) = k := k_ix (by omega)
    have f1 : fr [(128, 128, 0)] s (wI s 128 k (cI 0)) := fr.rf.wI rfl
    have f2 : fr [(625, 625, 0)] t (wI t 625 k (cI 0)) := fr.rf.wI rfl
    obtain ⟨s', t', v1, v2, v3, v4, v5⟩ := ub_lp r m m' (k + 1) (wI s 128 k (cI 0)) (wI t 625 k (cI 0)) (by rw [(f1.1 125 3 rfl).1]; omega) (by omega) (by omega) (by
      unfold RLk
      simp (disch := decide) only [ix_0, ix_1, ix_2, ix_3, ix_4, ix_5, ix_6, ix_7, ix_8, ix_9, ix_10, ix_11, ix_12, ix_13, ix_14, ix_15, ix_16, ix_17, ix_18, ix_19, ix_20, ix_21, Nat.reduceAdd, wI_c, wI_ne, wL_1, lupd_ne, up1_eq, up1_ne]
      exact ⟨⟨k1, k2, k3⟩, g1, g2, g3.up, b1, b2, b3.set (by decide)⟩)
    refine ⟨s', t', ?_, ?_, v3, f1.tr v4, f2.tr v5⟩
    · rw [← v1, ← k_s (by omega), fLock_unbar_h2, if_pos lt, if_pos ib, ltM_eq, xi]
    · rw [← v2, ← k_s (by omega), fM_dayBegins_h111, k1, if_pos lt, if_pos ib, ltM_eq, xi]
theorem day_ok {n : Nat} {s t : ev_M} (h : RV n s t) (hm : RMo s t) (hcu : RCu s t) (ht : RTim s t) (hg : RBg s t) (hl : RLk s t) (hn : n + 300 < 2147483646) : ∃ s' t', fPH_beginDay s = some s' ∧ fM_dayBegins t = some t' ∧ RV (n + 300) s' t' ∧ RMo s' t' ∧ RLk s' t' ∧ fr FdyC s s' ∧ fr FdyM t t' := by
  obtain ⟨⟨n1, n2, n3⟩, -⟩ := id h.1.1
  obtain ⟨⟨c1, -⟩, -⟩ := id ht
  have bb := ix_toNat (s.1 100 5)
  obtain ⟨s1, t1, a1, a2, a3, a4, a5⟩ := bd_lp (d := s.1 15 1 / cI 1440) (ix (s.1 100 5)) 1048576 1048576 0 n s t (by omega) (by omega) (by omega) h hcu ht hg hl (by omega) rfl
  have hm1 : RMo s1 t1 := ⟨hm.1.keep a4 a5 (by decide +kernel) (by decide +kernel), hm.2.1.keep a4 a5 (by decide +kernel) (by decide +kernel), hm.2.2.keep a4 a5 (by decide +kernel) (by decide +kernel)⟩
  have k3 := hm1.2.1.1.2.2
  obtain ⟨s2, t2, b1, b2, b3, b4, b5⟩ := gb_lp (d := s.1 15 1 / cI 1440) (ix (s1.1 78 8)) 1048576 1048576 0 s1 t1 (by omega) (by rw [ix_toNat]; omega) (by rw [ix_toNat]; omega) hm1 (hcu.keep a4 a5 (by decide +kernel) (by decide +kernel)) (by rw [(a5.1 549 22 rfl).1, c1])
  have f2 : fr (FbdC ++ FmnC) s s2 := (a4.mono (by decide +kernel)).tr (b4.mono (by decide +kernel))
  have g2 : fr (F_M_goesBack ++ FmnM) t t2 := (a5.mono (by decide +kernel)).tr (b5.mono (by decide +kernel))
  have hl2 : RLk s2 t2 := hl.keep f2 g2 (by decide +kernel) (by decide +kernel)
  have l3 := hl2.1.2.2
  obtain ⟨s3, t3, d1, d2, d3, d4, d5⟩ := ub_lp (ix (s2.1 125 3)) 1048576 1048576 0 s2 t2 (by omega) (by rw [ix_toNat]; omega) (by rw [ix_toNat]; omega) hl2
  refine ⟨s3, t3, ?_, ?_, ?_, ?_, d3, (f2.mono (by decide +kernel)).tr (d4.mono (by decide +kernel)), (g2.mono (by decide +kernel)).tr (d5.mono (by decide +kernel))⟩
  · unfold fPH_beginDay fChron_today
    rw [if_neg (show ¬ cI 1440 = 0 by decide), bd1_some]
    refine a1.trans ?_
    unfold fMoney_giveBack fLock_unbar
    have b1' : fMoney_giveBack_h2 1048576 s1 (s.1 15 1 / cI 1440) (cI 0) = some s2 := b1
    have d1' : fLock_unbar_h2 1048576 s2 (cI 0) = some s3 := d1
    rw [b1', bd1_some, d1', bd1_some]
  · exact a2.trans (b2.trans d2)
  · exact ((a3.mono (by omega)).keep b4 b5 (by decide +kernel) (by decide +kernel)).keep d4 d5 (by decide +kernel) (by decide +kernel)
  · exact ⟨b3.1.keep d4 d5 (by decide +kernel) (by decide +kernel), b3.2.1.keep d4 d5 (by decide +kernel) (by decide +kernel), b3.2.2.keep d4 d5 (by decide +kernel) (by decide +kernel)⟩
