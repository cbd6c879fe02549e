/-! ===== LEVEL 3: the tape: feed and end ===== -/
def RTap (C M : Nat → Nat → Int32) : Prop := M 549 2 = C 1 1 ∧ 0 ≤ (C 1 1).toInt ∧ (C 1 1).toInt ≤ 4096 ∧ ∀ k, k < ix (C 1 1) → M 550 k = C 2 k
theorem tap_step {s t : ev_M} (b : Int32) (h : RTap s.1 t.1) (hl : (s.1 1 1).toInt < 4096) : RTap (wI (wI s 1 1 (s.1 1 1 + cI 1)) 2 (ix (s.1 1 1)) b).1 (wI (wI t 550 (ix (t.1 549 2)) b) 549 2 (t.1 549 2 + cI 1)).1 ∧ ((wI (wI s 1 1 (s.1 1 1 + cI 1)) 2 (ix (s.1 1 1)) b).1 1 1).toInt = (s.1 1 1).toInt + 1 := by
  obtain ⟨h1, h2, h3, h4⟩ := h
  have e : (s.1 1 1 + cI 1).toInt = (s.1 1 1).toInt + 1 := inc_i (by omega)
  have ei : ix (s.1 1 1 + cI 1) = ix (s.1 1 1) + 1 := ix_inc h2 (by omega)
  refine ⟨⟨?_, ?_, ?_, fun k hk => ?_⟩, ?_⟩
  · simp [wI_1, h1]
  · simp [wI_1, -Int32.toInt_add]; omega
  · simp [wI_1, -Int32.toInt_add]; omega
  · simp [wI_1, -Int32.toInt_add] at hk ⊢
    rw [h1]
    by_cases hq : k = ix (s.1 1 1)
    · simp [hq]
    · simp [hq]; exact h4 k (by omega)
  · simp [wI_1, -Int32.toInt_add]; omega
theorem app_step {n : Nat} {s : ev_M} {w x : Int32} (hx : 0 ≤ x.toInt) (h0 : 0 ≤ (s.1 1 1).toInt) (h1 : (s.1 1 1).toInt < 4096) : fTape_append_1_h3 (n + 1) s w x = fTape_append_1_h3 n (wI (wI s 1 1 (s.1 1 1 + cI 1)) 2 (ix (s.1 1 1)) (i2b (i2b (w >>> (x &&& 31))))) w (x + cI (-8)) := by
  have e1 : ¬ x < 0 := by rw [lt_i, i32_0]; omega
  have e2 : s.1 1 1 < cI 4096 := by rw [lt_i, show (cI 4096).toInt = 4096 from rfl]; omega
  have e3 : inb (s.1 1 1) 4096 = true := inb_iff.mpr ⟨h0, by omega⟩
  simp only [fTape_append_1_h3, if_neg e1, if_pos e2, ltM_eq, if_pos e3]
theorem app_end {n : Nat} {s : ev_M} {w x : Int32} (hx : x < 0) : fTape_append_1_h3 (n + 1) s w x = some s := by
  simp only [fTape_append_1_h3, if_pos hx]
theorem feed_b {k34 : ev_M → Int32 → Int32 → Int32 → Int32 → Int32 → Int32 → Option (ev_M × Int32)} {t : ev_M} {a b c d e x6 y sh : Int32} (h0 : 0 ≤ (t.1 549 2).toInt) (h1 : (t.1 549 2).toInt < 4096) (hs : ((cI 24) - ((cI 8) * (irem x6 (cI 4)))) &&& 31 = sh &&& 31) : fM_feed_b87 k34 t a b c d e x6 y = k34 (wI (wI t 550 (ix (t.1 549 2)) (i2b (i2b (y >>> (sh &&& 31))))) 549 2 (t.1 549 2 + cI 1)) a b c d e (x6 + cI 1) := by
  have e3 : inb (t.1 549 2) 4096 = true := inb_iff.mpr ⟨h0, by omega⟩
  have e4 : ¬ (cI 4 = 0) := by decide
  unfold fM_feed_b87
  rw [if_neg e4, if_pos e3, hs]
  rfl
/-- four bytes of one number: w is the number at the places j .. j + 3 -/
theorem feed_4 {s t : ev_M} {a b c d e w : Int32} {j0 j1 j2 j3 j4 : Int32} (H0 : ∀ n t, fM_feed_h34 (n + 1) t a b c d e j0 = fM_feed_b87 (fM_feed_h34 n) t a b c d e j0 w) (H1 : ∀ n t, fM_feed_h34 (n + 1) t a b c d e j1 = fM_feed_b87 (fM_feed_h34 n) t a b c d e j1 w) (H2 : ∀ n t, fM_feed_h34 (n + 1) t a b c d e j2 = fM_feed_b87 (fM_feed_h34 n) t a b c d e j2 w) (H3 : ∀ n t, fM_feed_h34 (n + 1) t a b c d e j3 = fM_feed_b87 (fM_feed_h34 n) t a b c d e j3 w)
    (K0 : ((cI 24) - ((cI 8) * (irem j0 (cI 4)))) &&& 31 = cI 24 &&& 31) (K1 : ((cI 24) - ((cI 8) * (irem j1 (cI 4)))) &&& 31 = cI 16 &&& 31) (K2 : ((cI 24) - ((cI 8) * (irem j2 (cI 4)))) &&& 31 = cI 8 &&& 31) (K3 : ((cI 24) - ((cI 8) * (irem j3 (cI 4)))) &&& 31 = cI 0 &&& 31) (J1 : j0 + cI 1 = j1) (J2 : j1 + cI 1 = j2) (J3 : j2 + cI 1 = j3) (J4 : j3 + cI 1 = j4)
    (h : RTap s.1 t.1) (hl : (s.1 1 1).toInt + 4 ≤ 4096) : ∃ s' t', fTape_append_1 s w = some s' ∧ (∀ n, fM_feed_h34 (n + 4) t a b c d e j0 = fM_feed_h34 n t' a b c d e j4) ∧ RTap s'.1 t'.1 ∧ (s'.1 1 1).toInt = (s.1 1 1).toInt + 4 := by
  subst J1 J2 J3 J4
  have h2 := h.2.1
  obtain ⟨r1, l1⟩ := tap_step (i2b (i2b (w >>> (cI 24 &&& 31)))) h (by omega)
  have c1 : ∀ n, fTape_append_1_h3 (n + 1) s w (cI 24) = _ := fun n => app_step (n := n) (s := s) (w := w) (x := cI 24) (by decide) h2 (by omega)
  have m1 := fun n => (H0 n t).trans (feed_b (k34 := fM_feed_h34 n) (t := t) (a := a) (b := b) (c := c) (d := d) (e := e) (y := w) (sh := cI 24) (by rw [h.1]; omega) (by rw [h.1]; omega) K0)
  generalize (wI (wI s 1 1 (s.1 1 1 + cI 1)) 2 (ix (s.1 1 1)) (i2b (i2b (w >>> (cI 24 &&& 31))))) = s1 at r1 l1 c1
  generalize (wI (wI t 550 (ix (t.1 549 2)) (i2b (i2b (w >>> (cI 24 &&& 31))))) 549 2 (t.1 549 2 + cI 1)) = t1 at r1 m1
  obtain ⟨r2, l2⟩ := tap_step (i2b (i2b (w >>> (cI 16 &&& 31)))) r1 (by omega)
  have c2 : ∀ n, fTape_append_1_h3 (n + 1) s1 w (cI 16) = _ := fun n => app_step (n := n) (s := s1) (w := w) (x := cI 16) (by decide) r1.2.1 (by omega)
  have m2 := fun n => (H1 n t1).trans (feed_b (k34 := fM_feed_h34 n) (t := t1) (a := a) (b := b) (c := c) (d := d) (e := e) (y := w) (sh := cI 16) (by rw [r1.1]; omega) (by rw [r1.1]; omega) K1)
  generalize (wI (wI s1 1 1 (s1.1 1 1 + cI 1)) 2 (ix (s1.1 1 1)) (i2b (i2b (w >>> (cI 16 &&& 31))))) = s2 at r2 l2 c2
  generalize (wI (wI t1 550 (ix (t1.1 549 2)) (i2b (i2b (w >>> (cI 16 &&& 31))))) 549 2 (t1.1 549 2 + cI 1)) = t2 at r2 m2
  obtain ⟨r3, l3⟩ := tap_step (i2b (i2b (w >>> (cI 8 &&& 31)))) r2 (by omega)
  have c3 : ∀ n, fTape_append_1_h3 (n + 1) s2 w (cI 8) = _ := fun n => app_step (n := n) (s := s2) (w := w) (x := cI 8) (by decide) r2.2.1 (by omega)
  have m3 := fun n => (H2 n t2).trans (feed_b (k34 := fM_feed_h34 n) (t := t2) (a := a) (b := b) (c := c) (d := d) (e := e) (y := w) (sh := cI 8) (by rw [r2.1]; omega) (by rw [r2.1]; omega) K2)
  generalize (wI (wI s2 1 1 (s2.1 1 1 + cI 1)) 2 (ix (s2.1 1 1)) (i2b (i2b (w >>> (cI 8 &&& 31))))) = s3 at r3 l3 c3
  generalize (wI (wI t2 550 (ix (t2.1 549 2)) (i2b (i2b (w >>> (cI 8 &&& 31))))) 549 2 (t2.1 549 2 + cI 1)) = t3 at r3 m3
  obtain ⟨r4, l4⟩ := tap_step (i2b (i2b (w >>> (cI 0 &&& 31)))) r3 (by omega)
  have c4 : ∀ n, fTape_append_1_h3 (n + 1) s3 w (cI 0) = _ := fun n => app_step (n := n) (s := s3) (w := w) (x := cI 0) (by decide) r3.2.1 (by omega)
  have m4 := fun n => (H3 n t3).trans (feed_b (k34 := fM_feed_h34 n) (t := t3) (a := a) (b := b) (c := c) (d := d) (e := e) (y := w) (sh := cI 0) (by rw [r3.1]; omega) (by rw [r3.1]; omega) K3)
  generalize (wI (wI s3 1 1 (s3.1 1 1 + cI 1)) 2 (ix (s3.1 1 1)) (i2b (i2b (w >>> (cI 0 &&& 31))))) = s4 at r4 l4 c4
  generalize (wI (wI t3 550 (ix (t3.1 549 2)) (i2b (i2b (w >>> (cI 0 &&& 31))))) 549 2 (t3.1 549 2 + cI 1)) = t4 at r4 m4
  refine ⟨s4, t4, ?_, fun n => ?_, r4, by omega⟩
  · show fTape_append_1_h3 1048576 s w (cI 24) = some s4
    rw [c1 1048575, show cI 24 + cI (-8) = cI 16 from rfl, c2 1048574, show cI 16 + cI (-8) = cI 8 from rfl, c3 1048573, show cI 8 + cI (-8) = cI 0 from rfl, c4 1048572, app_end (by decide)]
  · rw [m1 (n + 3), m2 (n + 2), m3 (n + 1), m4 n]
theorem feed_end {n : Nat} {t : ev_M} {a b c d e : Int32} : fM_feed_h34 (n + 1) t a b c d e (cI 20) = some (t, t.1 549 2) := by
  simp only [fM_feed_h34, if_neg (show ¬ cI 20 < cI 20 by decide)]
theorem feed_20 {s t : ev_M} {a b c d e : Int32} (h : RTap s.1 t.1) (hl : (s.1 1 1).toInt + 20 ≤ 4096) : ∃ s' t', (bd1 (fTape_append_1 s a) fun s => bd1 (fTape_append_1 s b) fun s => bd1 (fTape_append_1 s c) fun s => bd1 (fTape_append_1 s d) fun s => fTape_append_1 s e) = some s' ∧ fM_feed_h34 1048576 t a b c d e (cI 0) = some (t', t'.1 549 2) ∧ RTap s'.1 t'.1 := by
  obtain ⟨s1, t1, c1, m1, r1, l1⟩ := feed_4 (s := s) (t := t) (a := a) (b := b) (c := c) (d := d) (e := e) (w := a) (j0 := cI 0) (j1 := cI 1) (j2 := cI 2) (j3 := cI 3) (j4 := cI 4) (fun n t => by simp only [fM_feed_h34, if_pos (show cI 0 < cI 20 by decide), if_pos (show cI 0 < cI 4 by decide)]) (fun n t => by simp only [fM_feed_h34, if_pos (show cI 1 < cI 20 by decide), if_pos (show cI 1 < cI 4 by decide)]) (fun n t => by simp only [fM_feed_h34, if_pos (show cI 2 < cI 20 by decide), if_pos (show cI 2 < cI 4 by decide)]) (fun n t => by simp only [fM_feed_h34, if_pos (show cI 3 < cI 20 by decide), if_pos (show cI 3 < cI 4 by decide)]) (by decide) (by decide) (by decide) (by decide) (by decide) (by decide) (by decide) (by decide) h (by omega)
  obtain ⟨s2, t2, c2, m2, r2, l2⟩ := feed_4 (s := s1) (t := t1) (a := a) (b := b) (c := c) (d := d) (e := e) (w := b) (j0 := cI 4) (j1 := cI 5) (j2 := cI 6) (j3 := cI 7) (j4 := cI 8) (fun n t => by simp only [fM_feed_h34, if_pos (show cI 4 < cI 20 by decide), if_neg (show ¬ cI 4 < cI 4 by decide), if_pos (show cI 4 < cI 8 by decide)]) (fun n t => by simp only [fM_feed_h34, if_pos (show cI 5 < cI 20 by decide), if_neg (show ¬ cI 5 < cI 4 by decide), if_pos (show cI 5 < cI 8 by decide)]) (fun n t => by simp only [fM_feed_h34, if_pos (show cI 6 < cI 20 by decide), if_neg (show ¬ cI 6 < cI 4 by decide), if_pos (show cI 6 < cI 8 by decide)]) (fun n t => by simp only [fM_feed_h34, if_pos (show cI 7 < cI 20 by decide), if_neg (show ¬ cI 7 < cI 4 by decide), if_pos (show cI 7 < cI 8 by decide)]) (by decide) (by decide) (by decide) (by decide) (by decide) (by decide) (by decide) (by decide) r1 (by omega)
  obtain ⟨s3, t3, c3, m3, r3, l3⟩ := feed_4 (s := s2) (t := t2) (a := a) (b := b) (c := c) (d := d) (e := e) (w := c) (j0 := cI 8) (j1 := cI 9) (j2 := cI 10) (j3 := cI 11) (j4 := cI 12) (fun n t => by simp only [fM_feed_h34, if_pos (show cI 8 < cI 20 by decide), if_neg (show ¬ cI 8 < cI 4 by decide), if_neg (show ¬ cI 8 < cI 8 by decide), if_pos (show cI 8 < cI 12 by decide)]) (fun n t => by simp only [fM_feed_h34, if_pos (show cI 9 < cI 20 by decide), if_neg (show ¬ cI 9 < cI 4 by decide), if_neg (show ¬ cI 9 < cI 8 by decide), if_pos (show cI 9 < cI 12 by decide)]) (fun n t => by simp only [fM_feed_h34, if_pos (show cI 10 < cI 20 by decide), if_neg (show ¬ cI 10 < cI 4 by decide), if_neg (show ¬ cI 10 < cI 8 by decide), if_pos (show cI 10 < cI 12 by decide)]) (fun n t => by simp only [fM_feed_h34, if_pos (show cI 11 < cI 20 by decide), if_neg (show ¬ cI 11 < cI 4 by decide), if_neg (show ¬ cI 11 < cI 8 by decide), if_pos (show cI 11 < cI 12 by decide)]) (by decide) (by decide) (by decide) (by decide) (by decide) (by decide) (by decide) (by decide) r2 (by omega)
  obtain ⟨s4, t4, c4, m4, r4, l4⟩ := feed_4 (s := s3) (t := t3) (a := a) (b := b) (c := c) (d := d) (e := e) (w := d) (j0 := cI 12) (j1 := cI 13) (j2 := cI 14) (j3 := cI 15) (j4 := cI 16) (fun n t => by simp only [fM_feed_h34, if_pos (show cI 12 < cI 20 by decide), if_neg (show ¬ cI 12 < cI 4 by decide), if_neg (show ¬ cI 12 < cI 8 by decide), if_neg (show ¬ cI 12 < cI 12 by decide), if_pos (show cI 12 < cI 16 by decide)]) (fun n t => by simp only [fM_feed_h34, if_pos (show cI 13 < cI 20 by decide), if_neg (show ¬ cI 13 < cI 4 by decide), if_neg (show ¬ cI 13 < cI 8 by decide), if_neg (show ¬ cI 13 < cI 12 by decide), if_pos (show cI 13 < cI 16 by decide)]) (fun n t => by simp only [fM_feed_h34, if_pos (show cI 14 < cI 20 by decide), if_neg (show ¬ cI 14 < cI 4 by decide), if_neg (show ¬ cI 14 < cI 8 by decide), if_neg (show ¬ cI 14 < cI 12 by decide), if_pos (show cI 14 < cI 16 by decide)]) (fun n t => by simp only [fM_feed_h34, if_pos (show cI 15 < cI 20 by decide), if_neg (show ¬ cI 15 < cI 4 by decide), if_neg (show ¬ cI 15 < cI 8 by decide), if_neg (show ¬ cI 15 < cI 12 by decide), if_pos (show cI 15 < cI 16 by decide)]) (by decide) (by decide) (by decide) (by decide) (by decide) (by decide) (by decide) (by decide) r3 (by omega)
  obtain ⟨s5, t5, c5, m5, r5, l5⟩ := feed_4 (s := s4) (t := t4) (a := a) (b := b) (c := c) (d := d) (e := e) (w := e) (j0 := cI 16) (j1 := cI 17) (j2 := cI 18) (j3 := cI 19) (j4 := cI 20) (fun n t => by simp only [fM_feed_h34, if_pos (show cI 16 < cI 20 by decide), if_neg (show ¬ cI 16 < cI 4 by decide), if_neg (show ¬ cI 16 < cI 8 by decide), if_neg (show ¬ cI 16 < cI 12 by decide), if_neg (show ¬ cI 16 < cI 16 by decide)]) (fun n t => by simp only [fM_feed_h34, if_pos (show cI 17 < cI 20 by decide), if_neg (show ¬ cI 17 < cI 4 by decide), if_neg (show ¬ cI 17 < cI 8 by decide), if_neg (show ¬ cI 17 < cI 12 by decide), if_neg (show ¬ cI 17 < cI 16 by decide)]) (fun n t => by simp only [fM_feed_h34, if_pos (show cI 18 < cI 20 by decide), if_neg (show ¬ cI 18 < cI 4 by decide), if_neg (show ¬ cI 18 < cI 8 by decide), if_neg (show ¬ cI 18 < cI 12 by decide), if_neg (show ¬ cI 18 < cI 16 by decide)]) (fun n t => by simp only [fM_feed_h34, if_pos (show cI 19 < cI 20 by decide), if_neg (show ¬ cI 19 < cI 4 by decide), if_neg (show ¬ cI 19 < cI 8 by decide), if_neg (show ¬ cI 19 < cI 12 by decide), if_neg (show ¬ cI 19 < cI 16 by decide)]) (by decide) (by decide) (by decide) (by decide) (by decide) (by decide) (by decide) (by decide) r4 (by omega)
  refine ⟨s5, t5, by rw [c1, bd1_some, c2, bd1_some, c3, bd1_some, c4, bd1_some, c5], ?_, r5⟩
  rw [m1 1048572, m2 1048568, m3 1048564, m4 1048560, m5 1048556, feed_end]
