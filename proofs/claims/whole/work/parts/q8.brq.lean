/-! ===== LEVEL 3: the question bar ===== -/
def Dit (a c1 c7 c3 c2 : Nat) : Nat → Nat
  | 0 => a / 16 / 16 % 16
  | 1 => a / 16 % 16
  | 2 => a % 16
  | 3 => c1 % 16
  | 4 => c7 / 16 / 16 % 16
  | 5 => c7 / 16 % 16
  | 6 => c7 % 16
  | 7 => c3 % 16
  | 8 => c2 / 16 / 16 % 16
  | 9 => c2 / 16 % 16
  | 10 => c2 % 16
  | _ => 0
theorem Dit_lt {a c1 c7 c3 c2 : Nat} : ∀ k : Nat, k < 11 → Dit a c1 c7 c3 c2 k < 16 := by
  intro k hk
  obtain rfl | rfl | rfl | rfl | rfl | rfl | rfl | rfl | rfl | rfl | rfl : k = 0 ∨ k = 1 ∨ k = 2 ∨ k = 3 ∨ k = 4 ∨ k = 5 ∨ k = 6 ∨ k = 7 ∨ k = 8 ∨ k = 9 ∨ k = 10 := by omega
  all_goals exact Nat.mod_lt _ (by decide)
theorem w3_ne {s : ev_M} {p v c : Nat} (h : c ≠ 8) : (w3 s p v).1 c = s.1 c := by
  unfold w3
  rw [wI_ne h, wI_ne h, wI_ne h]
theorem w3_fr {s : ev_M} {p v : Nat} : fr [(8, 8, 0)] s (w3 s p v) := ((fr.rf.wI rfl).wI rfl).wI rfl
def nbN (x k : Nat) : Nat := x / 2 ^ (8 - 4 * k) % 16
section
variable {s t : ev_M}
theorem dr_C (h : Cn s t) {a c1 c7 c3 c2 : Nat} (ha : a < 300) (l1 : c1 < 16) (l7 : c7 < 65536) (l3 : c3 < 16) (l2 : c2 < 65536) (e1 : s.1 103 a = cI (c1 : Int)) (e7 : s.1 109 a + cI 1 = cI (c7 : Int)) (e3 : s.1 105 a = cI (c3 : Int)) (e2 : s.1 104 a = cI (c2 : Int)) : ∃ s', fItems_drawBars_7 s (cI (a : Int)) = some s' ∧ (∀ k : Nat, k < 11 → s'.1 8 k = cI ((Dit a c1 c7 c3 c2 k : Nat) : Int)) ∧ (∀ j : Nat, j < 4 → s'.1 8 (11 + j) = cI ((rgS (Dit a c1 c7 c3 c2) 11 j : Nat) : Int)) ∧ fr [(8, 8, 0)] s s' := by
  have ab : inb (cI (a : Int)) 300 = true := q_in ha (by decide)
  have ax : ix (cI (a : Int)) = a := q_ix (by omega)
  obtain ⟨s5, es5⟩ : ∃ x, x = w3 (wI (w3 (wI (w3 s 0 a) 8 3 (cI ((c1 % 16 : Nat) : Int))) 4 c7) 8 7 (cI ((c3 % 16 : Nat) : Int))) 8 c2 := ⟨_, rfl⟩
  have f5 : fr [(8, 8, 0)] s s5 := by rw [es5]; exact (((w3_fr.wI rfl).tr w3_fr).wI rfl).tr w3_fr
  obtain ⟨s', b1, b2, b3, b4⟩ := cl_C (D := Dit a c1 c7 c3 c2) (h.keep f5 rf_fr (by decide +kernel) (by decide +kernel)) Dit_lt (fun k hk => by
    rw [es5]
    obtain rfl | rfl | rfl | rfl | rfl | rfl | rfl | rfl | rfl | rfl | rfl : k = 0 ∨ k = 1 ∨ k = 2 ∨ k = 3 ∨ k = 4 ∨ k = 5 ∨ k = 6 ∨ k = 7 ∨ k = 8 ∨ k = 9 ∨ k = 10 := by omega
    all_goals (simp (disch := decide) only [w3, wI_c, up1_eq, up1_ne, Nat.reduceAdd]; rfl))
  refine ⟨s', ?_, b2, b3, f5.tr b4⟩
  have s1 : fBars_set s (cI 0) (cI 3) (cI (a : Int)) = some (w3 s 0 a) := set3 (p := 0) (by decide) (by omega)
  have g1 : (w3 s 0 a).1 103 a = cI (c1 : Int) := by rw [w3_ne (by decide)]; exact e1
  have s2 : fBars_set (w3 s 0 a) (cI 3) (cI 1) (cI (c1 : Int)) = some (wI (w3 s 0 a) 8 3 (cI ((c1 % 16 : Nat) : Int))) := set1 (p := 3) (by decide) (by omega)
  have g7 : (wI (w3 s 0 a) 8 3 (cI ((c1 % 16 : Nat) : Int))).1 109 a + cI 1 = cI (c7 : Int) := by rw [wI_ne (by decide), w3_ne (by decide)]; exact e7
  have s3 : fBars_set (wI (w3 s 0 a) 8 3 (cI ((c1 % 16 : Nat) : Int))) (cI 4) (cI 3) (cI (c7 : Int)) = some (w3 (wI (w3 s 0 a) 8 3 (cI ((c1 % 16 : Nat) : Int))) 4 c7) := set3 (p := 4) (by decide) l7
  have g3 : (w3 (wI (w3 s 0 a) 8 3 (cI ((c1 % 16 : Nat) : Int))) 4 c7).1 105 a = cI (c3 : Int) := by rw [w3_ne (by decide), wI_ne (by decide), w3_ne (by decide)]; exact e3
  have s4 : fBars_set (w3 (wI (w3 s 0 a) 8 3 (cI ((c1 % 16 : Nat) : Int))) 4 c7) (cI 7) (cI 1) (cI (c3 : Int)) = some (wI (w3 (wI (w3 s 0 a) 8 3 (cI ((c1 % 16 : Nat) : Int))) 4 c7) 8 7 (cI ((c3 % 16 : Nat) : Int))) := set1 (p := 7) (by decide) (by omega)
  have g2 : (wI (w3 (wI (w3 s 0 a) 8 3 (cI ((c1 % 16 : Nat) : Int))) 4 c7) 8 7 (cI ((c3 % 16 : Nat) : Int))).1 104 a = cI (c2 : Int) := by rw [wI_ne (by decide), w3_ne (by decide), wI_ne (by decide), w3_ne (by decide)]; exact e2
  have s5' : fBars_set (wI (w3 (wI (w3 s 0 a) 8 3 (cI ((c1 % 16 : Nat) : Int))) 4 c7) 8 7 (cI ((c3 % 16 : Nat) : Int))) (cI 8) (cI 3) (cI (c2 : Int)) = some s5 := by rw [es5]; exact set3 (p := 8) (by decide) l2
  unfold fItems_drawBars_7
  rw [s1, bd1_some, if_pos ab, ax]
  show (bd1 (fBars_set (w3 s 0 a) (cI 3) (cI 1) ((w3 s 0 a).1 103 a)) fun s2 => _) = _
  rw [g1, s2, bd1_some, if_pos ab]
  show (bd1 (fBars_set (wI (w3 s 0 a) 8 3 (cI ((c1 % 16 : Nat) : Int))) (cI 4) (cI 3) ((wI (w3 s 0 a) 8 3 (cI ((c1 % 16 : Nat) : Int))).1 109 a + cI 1)) fun s3 => _) = _
  rw [g7, s3, bd1_some, if_pos ab]
  show (bd1 (fBars_set (w3 (wI (w3 s 0 a) 8 3 (cI ((c1 % 16 : Nat) : Int))) 4 c7) (cI 7) (cI 1) ((w3 (wI (w3 s 0 a) 8 3 (cI ((c1 % 16 : Nat) : Int))) 4 c7).1 105 a)) fun s4 => _) = _
  rw [g3, s4, bd1_some, if_pos ab]
  show (bd1 (fBars_set (wI (w3 (wI (w3 s 0 a) 8 3 (cI ((c1 % 16 : Nat) : Int))) 4 c7) 8 7 (cI ((c3 % 16 : Nat) : Int))) (cI 8) (cI 3) ((wI (w3 (wI (w3 s 0 a) 8 3 (cI ((c1 % 16 : Nat) : Int))) 4 c7) 8 7 (cI ((c3 % 16 : Nat) : Int))).1 104 a)) fun s5 => _) = _
  rw [g2, s5', bd1_some, b1, bd1_some]
theorem sh8k : ∀ k : Nat, k < 3 → cI 8 - cI 4 * cI (k : Int) = cI ((8 - 4 * k : Nat) : Int) := by decide +kernel
theorem dr_M (h : Cn s t) {a c1 c7 c3 c2 : Nat} (ha : a < 300) (l1 : c1 < 16) (l7 : c7 < 65536) (l3 : c3 < 16) (l2 : c2 < 65536) (e1 : t.1 584 a = cI (c1 : Int)) (e7 : t.1 590 a + cI 1 = cI (c7 : Int)) (e3 : t.1 586 a = cI (c3 : Int)) (e2 : t.1 585 a = cI (c2 : Int)) : ∃ t', fM_bars t (cI (a : Int)) = some t' ∧ (∀ k : Nat, k < 11 → t'.1 660 k = cI ((Dit a c1 c7 c3 c2 k : Nat) : Int)) ∧ (∀ j : Nat, j < 4 → t'.1 660 (11 + j) = cI ((rgS (Dit a c1 c7 c3 c2) 11 j : Nat) : Int)) ∧ fr [(660, 660, 0)] t t' := by
  have ab : inb (cI (a : Int)) 300 = true := q_in ha (by decide)
  have ax : ix (cI (a : Int)) = a := q_ix (by omega)
  have c4 : c2 % 4096 < 65536 := by omega
  have st : ∀ (m k : Nat) (u : ev_M), k < 3 → fM_bars_h23 (m + 1) u (cI (a : Int)) (cI (c7 : Int)) (cI ((c2 % 4096 : Nat) : Int)) (cI (k : Int)) = fM_bars_h23 m (wI (wI (wI u 660 k (cI ((nbN a k : Nat) : Int))) 660 (4 + k) (cI ((nbN c7 k : Nat) : Int))) 660 (8 + k) (cI ((nbN (c2 % 4096) k : Nat) : Int))) (cI (a : Int)) (cI (c7 : Int)) (cI ((c2 % 4096 : Nat) : Int)) (cI ((k + 1 : Nat) : Int)) := fun m k u hk => by
    have sr : ∀ x : Nat, x < 65536 → (cI (x : Int) >>> ((cI 8 - cI 4 * cI (k : Int)) &&& 31)) &&& cI 15 = cI ((nbN x k : Nat) : Int) := fun x hx => by
      have lt : x / 2 ^ (8 - 4 * k) ≤ x := Nat.div_le_self _ _
      rw [sh8k k hk, sr_cI hx (by omega), n_cI (by omega)]; rfl
    have e4 : cI 4 + cI (k : Int) = cI ((4 + k : Nat) : Int) := q_ad (a := 4) (by omega)
    have e8 : cI 8 + cI (k : Int) = cI ((8 + k : Nat) : Int) := q_ad (a := 8) (by omega)
    rw [fM_bars_h23, if_pos (by rw [lt_i, q_ti (by omega), show (cI 3).toInt = 3 from rfl]; omega), if_pos (q_in (by omega) (by decide)), sr a (by omega), ltM_eq, q_ix (by omega), e4, if_pos (q_in (by omega) (by decide)), sr c7 l7, ltM_eq, q_ix (by omega), e8, if_pos (q_in (by omega) (by decide)), sr _ c4, ltM_eq, q_ix (by omega), q_s (by omega)]
  obtain ⟨u3, eu3⟩ : ∃ x, x = wI (wI (wI (wI (wI (wI (wI (wI (wI t 660 0 (cI ((nbN a 0 : Nat) : Int))) 660 (4 + 0) (cI ((nbN c7 0 : Nat) : Int))) 660 (8 + 0) (cI ((nbN (c2 % 4096) 0 : Nat) : Int))) 660 1 (cI ((nbN a 1 : Nat) : Int))) 660 (4 + 1) (cI ((nbN c7 1 : Nat) : Int))) 660 (8 + 1) (cI ((nbN (c2 % 4096) 1 : Nat) : Int))) 660 2 (cI ((nbN a 2 : Nat) : Int))) 660 (4 + 2) (cI ((nbN c7 2 : Nat) : Int))) 660 (8 + 2) (cI ((nbN (c2 % 4096) 2 : Nat) : Int)) := ⟨_, rfl⟩
  have k3 : fM_bars_h23 1048576 t (cI (a : Int)) (cI (c7 : Int)) (cI ((c2 % 4096 : Nat) : Int)) (cI 0) = fM_bars_h23 (1048572 + 1) u3 (cI (a : Int)) (cI (c7 : Int)) (cI ((c2 % 4096 : Nat) : Int)) (cI ((3 : Nat) : Int)) := by
    rw [eu3]
    exact (st 1048575 0 t (by decide)).trans ((st 1048574 1 _ (by decide)).trans (st 1048573 2 _ (by decide)))
  have f3 : fr [(660, 660, 0)] t u3 := by rw [eu3]; exact ((((((((fr.rf.wI rfl).wI rfl).wI rfl).wI rfl).wI rfl).wI rfl).wI rfl).wI rfl).wI rfl
  obtain ⟨u5, eu5⟩ : ∃ x, x = wI (wI u3 660 3 (cI (c1 : Int))) 660 7 (cI (c3 : Int)) := ⟨_, rfl⟩
  have f5 : fr [(660, 660, 0)] t u5 := by rw [eu5]; exact (f3.wI rfl).wI rfl
  have zer : ∀ (r m k : Nat) (u : ev_M), k + r = 4 → r < m → fr [(660, 660, 0)] u5 u → (∀ i : Nat, i < 11 → u.1 660 i = u5.1 660 i) → ∃ u', fM_bars_h126 m u (cI ((11 + k : Nat) : Int)) = fM_bars_h162 1048576 u' (cI 0) (cI 0) (cI 0) (cI 0) (cI 0) ∧ fr [(660, 660, 0)] u5 u' ∧ ∀ i : Nat, i < 11 → u'.1 660 i = u5.1 660 i := by
    intro r
    induction r with
    | zero =>
      intro m k u hk hm hu hi
      obtain ⟨m, rfl⟩ : ∃ k, m = k + 1 := ⟨m - 1, by omega⟩
      obtain rfl : k = 4 := by omega
      refine ⟨u, ?_, hu, hi⟩
      rw [fM_bars_h126, if_neg (by decide)]
    | succ r ih =>
      intro m k u hk hm hu hi
      obtain ⟨m, rfl⟩ : ∃ k, m = k + 1 := ⟨m - 1, by omega⟩
      obtain ⟨u', a1, a2, a3⟩ := ih m (k + 1) (wI u 660 (11 + k) (cI 0)) (by omega) (by omega) (hu.wI rfl) (fun i h => by rw [wI_c, up1_ne (by omega)]; exact hi i h)
      refine ⟨u', ?_, a2, a3⟩
      rw [← a1, fM_bars_h126, if_pos (by rw [lt_i, q_ti (by omega), show (cI 15).toInt = 15 from rfl]; omega), if_pos (q_in (by omega) (by decide)), ltM_eq, q_ix (by omega), q_s (by omega)]
      rfl
  obtain ⟨u6, z1, z2, z3⟩ := zer 4 1048576 0 u5 (by decide) (by decide) fr.rf (fun i _ => rfl)
  have f6 := f5.tr z2
  obtain ⟨t', b1, b2, b3, b4⟩ := cl_M (D := Dit a c1 c7 c3 c2) (h.keep rf_fr f6 (by decide +kernel) (by decide +kernel)) Dit_lt (fun k hk => by
    have n0 : nbN a 0 = a / 16 / 16 % 16 := by unfold nbN; omega
    have n1 : nbN a 1 = a / 16 % 16 := by unfold nbN; omega
    have n2 : nbN a 2 = a % 16 := by unfold nbN; omega
    have p0 : nbN c7 0 = c7 / 16 / 16 % 16 := by unfold nbN; omega
    have p1 : nbN c7 1 = c7 / 16 % 16 := by unfold nbN; omega
    have p2 : nbN c7 2 = c7 % 16 := by unfold nbN; omega
    have r0 : nbN (c2 % 4096) 0 = c2 / 16 / 16 % 16 := by unfold nbN; omega
    have r1 : nbN (c2 % 4096) 1 = c2 / 16 % 16 := by unfold nbN; omega
    have r2 : nbN (c2 % 4096) 2 = c2 % 16 := by unfold nbN; omega
    have m1 : c1 = c1 % 16 := (Nat.mod_eq_of_lt l1).symm
    have m3 : c3 = c3 % 16 := (Nat.mod_eq_of_lt l3).symm
    rw [z3 k hk, eu5, eu3, n0, n1, n2, p0, p1, p2, r0, r1, r2]
    obtain rfl | rfl | rfl | rfl | rfl | rfl | rfl | rfl | rfl | rfl | rfl : k = 0 ∨ k = 1 ∨ k = 2 ∨ k = 3 ∨ k = 4 ∨ k = 5 ∨ k = 6 ∨ k = 7 ∨ k = 8 ∨ k = 9 ∨ k = 10 := by omega
    all_goals simp (disch := decide) only [wI_c, up1_eq, up1_ne, Nat.reduceAdd]
    all_goals first | rfl | (show cI (c1 : Int) = cI ((c1 % 16 : Nat) : Int); rw [← m1]) | (show cI (c3 : Int) = cI ((c3 % 16 : Nat) : Int); rw [← m3]))
  refine ⟨t', ?_, b2, b3, f6.tr b4⟩
  have g584 : u3.1 584 a = cI (c1 : Int) := by rw [(f3.1 584 a rfl).1]; exact e1
  have g586 : (wI u3 660 3 (cI (c1 : Int))).1 586 a = cI (c3 : Int) := by rw [wI_ne (by decide), (f3.1 586 a rfl).1]; exact e3
  unfold fM_bars
  rw [if_pos ab, ltI_eq, if_pos ab, if_neg (show ¬ cI 4096 = 0 by decide), ax, e7, e2, show irem (cI (c2 : Int)) (cI 4096) = cI ((c2 % 4096 : Nat) : Int) from q_rm (b := 4096) (by omega) (by decide) (by decide), ltI_eq, k3, fM_bars_h23, if_neg (by decide), if_pos ab, ltM_eq, if_pos ab, ax, g584]
  show (ltM (wI (wI u3 660 3 (cI (c1 : Int))) 660 7 ((wI u3 660 3 (cI (c1 : Int))).1 586 a)) fun s18 => fM_bars_h126 1048576 s18 (cI 11)) = _
  rw [g586, ltM_eq, ← eu5]
  exact z1.trans b1
theorem q_bar {a b : Int32} (h9 : t.1 549 5 = s.1 9 9) (h : Cn s t) (I : RIt s t) (h9p : (s.1 30 9).toInt ≤ 120) : Ok (fPH_bar s a b) fun x => Ok (fM_bar t a b) fun z => x.2 = z.2 := by
  have h := h.keep rf_fr (zfr (t := t)) (by decide +kernel) (by decide +kernel)
  have I := I.keep rf_fr (zfr (t := t)) (by decide +kernel) (by decide +kernel)
  unfold fPH_bar fM_bar
  rw [ltM_eq, q_z5, h9]
  generalize wI t 549 0 (cI 0) = t at *
  by_cases z : s.1 9 9 = 0
  rotate_left
  · rw [if_neg z, if_neg z, ok_some, ok_some]
  rw [if_pos z, if_pos z]
  obtain ⟨⟨m1, m2, m3⟩, i1, i2, i3, i4, i5, i6, i7, i8, i9, b1, b2, b3, b4, b5, b6, b7, b8, b9⟩ := I
  rw [e_itemsHas m2, e_isItem (by rw [m1]; exact m2), m1, bd1_some, bd1_some, ite_bI, ite_bI]
  by_cases g1 : Has a (s.1 100 5)
  rotate_left
  · rw [if_neg g1, if_neg g1, ok_some, ok_some]
  rw [if_pos g1, if_pos g1, outside_eq, in_eq, bd1_some, bd1_some, ite_bI, ite_bI]
  by_cases g2 : InR b (cI 0) (cI 14)
  rotate_left
  · rw [if_pos g2, if_neg g2, ok_some, ok_some]
  rw [if_neg (fun u => u g2), if_pos g2]
  have nx := ix_toNat a
  have ax := g1.ix
  have a3 : ix a < 300 := by have := g1.2; have := g1.1; omega
  have ea : a = cI ((ix a : Nat) : Int) := (cI_ix g1.1).symm
  have k1 := b2 _ ax
  have k2 := b3 _ ax
  have k3 := b4 _ ax
  have k9 := b8 _ ax
  have n1 := ix_toNat (s.1 103 (ix a))
  have n2 := ix_toNat (s.1 104 (ix a))
  have n3 := ix_toNat (s.1 105 (ix a))
  have a9 : (s.1 109 (ix a) + cI 1).toInt = (s.1 109 (ix a)).toInt + 1 := inc_i (by omega)
  have n9 := ix_toNat (s.1 109 (ix a) + cI 1)
  have c1 : s.1 103 (ix a) = cI ((ix (s.1 103 (ix a)) : Nat) : Int) := (cI_ix (by omega)).symm
  have c2 : s.1 104 (ix a) = cI ((ix (s.1 104 (ix a)) : Nat) : Int) := (cI_ix (by omega)).symm
  have c3 : s.1 105 (ix a) = cI ((ix (s.1 105 (ix a)) : Nat) : Int) := (cI_ix (by omega)).symm
  have c9 : s.1 109 (ix a) + cI 1 = cI ((ix (s.1 109 (ix a) + cI 1) : Nat) : Int) := (cI_ix (by omega)).symm
  obtain ⟨s', u1, u2, u3, -⟩ := dr_C (c1 := ix (s.1 103 (ix a))) (c7 := ix (s.1 109 (ix a) + cI 1)) (c3 := ix (s.1 105 (ix a))) (c2 := ix (s.1 104 (ix a))) h a3 (by omega) (by omega) (by omega) (by omega) c1 c9 c3 c2
  obtain ⟨t', v1, v2, v3, -⟩ := dr_M (c1 := ix (s.1 103 (ix a))) (c7 := ix (s.1 109 (ix a) + cI 1)) (c3 := ix (s.1 105 (ix a))) (c2 := ix (s.1 104 (ix a))) h a3 (by omega) (by omega) (by omega) (by omega) ((i2 _ ax).trans c1) (by rw [i8 _ ax]; exact c9) ((i4 _ ax).trans c3) ((i3 _ ax).trans c2)
  rw [← ea] at u1 v1
  obtain ⟨q1, q2⟩ := g2
  rw [show (cI 0).toInt = 0 from rfl] at q1
  rw [show (cI 14).toInt = 14 from rfl] at q2
  have bx := ix_toNat b
  have bb : inb b 15 = true := inb_iff.mpr ⟨q1, by omega⟩
  rw [u1, v1, bd1_some, bd1_some, if_pos bb, if_pos bb, ok_some, ok_some]
  show s'.1 8 (ix b) = t'.1 660 (ix b)
  by_cases w : ix b < 11
  · rw [u2 _ w, v2 _ w]
  · have e : ix b = 11 + (ix b - 11) := by omega
    rw [e, u3 _ (by omega), v3 _ (by omega)]
end
