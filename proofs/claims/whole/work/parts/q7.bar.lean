/-! ===== LEVEL 3: bars: an item's bars drawn, class and reference ===== -/
theorem set1 {s : ev_M} {p v : Nat} (hp : p < 15) (hv : v < 65536) : fBars_set s (cI (p : Int)) (cI 1) (cI (v : Int)) = some (wI s 8 p (cI ((v % 16 : Nat) : Int))) := by
  have k : ∀ n : Nat, fBars_set_h5 (n + 2) s (cI (p : Int)) (cI (v : Int)) (cI 0) = some (wI s 8 p (cI ((v % 16 : Nat) : Int))) := fun n => by
    have e : cI (p : Int) + cI 0 = cI (p : Int) := q_ad (b := 0) (by omega)
    rw [fBars_set_h5, if_neg (by decide), e, if_pos (by rw [lt_i, q_ti (by omega), show (cI 15).toInt = 15 from rfl]; omega), if_pos (q_in hp (by decide)), n_cI hv, ltM_eq, q_ix (by omega), ltI_eq, fBars_set_h5, if_pos (by decide)]
  unfold fBars_set
  rw [ltI_eq]
  exact k 1048574
def w3 (s : ev_M) (p v : Nat) : ev_M := wI (wI (wI s 8 (p + 2) (cI ((v % 16 : Nat) : Int))) 8 (p + 1) (cI ((v / 16 % 16 : Nat) : Int))) 8 p (cI ((v / 16 / 16 % 16 : Nat) : Int))
theorem set3 {s : ev_M} {p v : Nat} (hp : p + 2 < 15) (hv : v < 65536) : fBars_set s (cI (p : Int)) (cI 3) (cI (v : Int)) = some (w3 s p v) := by
  have sh : ∀ x : Nat, x < 65536 → cI (x : Int) >>> (cI 4 &&& 31) = cI ((x / 16 : Nat) : Int) := fun x hx => sr_cI (k := 4) hx (by decide)
  have st : ∀ (n : Nat) (u : ev_M) (x j : Nat), x < 65536 → j < 3 → fBars_set_h5 (n + 1) u (cI (p : Int)) (cI (x : Int)) (cI (j : Int)) = fBars_set_h5 n (wI u 8 (p + j) (cI ((x % 16 : Nat) : Int))) (cI (p : Int)) (cI ((x / 16 : Nat) : Int)) (cI (j : Int) + cI (-1)) := fun n u x j hx hj => by
    rw [fBars_set_h5, if_neg (by rw [lt_i, q_ti (by omega), i32_0]; omega), q_ad (by omega), if_pos (by rw [lt_i, q_ti (by omega), show (cI 15).toInt = 15 from rfl]; omega), if_pos (q_in (by omega) (by decide)), n_cI hx, ltM_eq, q_ix (by omega), ltI_eq, sh x hx]
  unfold fBars_set
  rw [ltI_eq]
  have a := st 1048575 s v 2 hv (by decide)
  have b := st 1048574 (wI s 8 (p + 2) (cI ((v % 16 : Nat) : Int))) (v / 16) 1 (by omega) (by decide)
  have c := st 1048573 (wI (wI s 8 (p + 2) (cI ((v % 16 : Nat) : Int))) 8 (p + 1) (cI ((v / 16 % 16 : Nat) : Int))) (v / 16 / 16) 0 (by omega) (by decide)
  have d : fBars_set_h5 (1048572 + 1) (w3 s p v) (cI (p : Int)) (cI ((v / 16 / 16 / 16 : Nat) : Int)) (cI ((0 : Nat) : Int) + cI (-1)) = some (w3 s p v) := by
    rw [fBars_set_h5, if_pos (by decide)]
  exact a.trans (b.trans (c.trans d))
/-- the four last signs, after the first k -/
def rgS (D : Nat → Nat) : Nat → Nat → Nat
  | 0, _ => 0
  | k + 1, j => (if j < 3 then rgS D k (j + 1) else 0) ^^^ gm (D k ^^^ rgS D k 0) (DVn.getD j 0)
theorem DV_lt : ∀ j : Nat, j < 4 → DVn.getD j 0 < 16 := by decide +kernel
theorem rg_lt {D : Nat → Nat} (hD : ∀ k : Nat, k < 11 → D k < 16) : ∀ k : Nat, k ≤ 11 → ∀ j : Nat, j < 4 → rgS D k j < 16
  | 0, _, _, _ => by show 0 < 16; decide
  | k + 1, h, j, hj => by
    have l0 := rg_lt hD k (by omega) 0 (by decide)
    have lv := xr_lt (hD k (by omega)) l0
    have lg := gm_lt _ lv _ (DV_lt j hj)
    simp only [rgS]
    by_cases z : j < 3
    · rw [if_pos z]; exact xr_lt (rg_lt hD k (by omega) (j + 1) (by omega)) lg
    · rw [if_neg z]; exact xr_lt (by decide) lg
section
variable {s t : ev_M} {D : Nat → Nat}
theorem cl_C (h : Cn s t) (hD : ∀ k : Nat, k < 11 → D k < 16) (hc : ∀ k : Nat, k < 11 → s.1 8 k = cI (D k : Int)) : ∃ s', fBars_close s = some s' ∧ (∀ k : Nat, k < 11 → s'.1 8 k = cI (D k : Int)) ∧ (∀ j : Nat, j < 4 → s'.1 8 (11 + j) = cI ((rgS D 11 j : Nat) : Int)) ∧ fr [(8, 8, 0)] s s' := by
  have inn : ∀ (k24 : ev_M → Int32 → Option ev_M) (k : Nat), k < 11 → ∀ (r m j : Nat) (u : ev_M), j + r = 4 → r < m → Cn u t → (∀ i : Nat, i < 11 → u.1 8 i = cI (D i : Int)) → (∀ i : Nat, i < 4 → u.1 8 (11 + i) = cI (((if i < j then rgS D (k + 1) i else rgS D k i) : Nat) : Int)) → ∃ u', fBars_close_h47 k24 m u (cI (k : Int)) (cI ((D k ^^^ rgS D k 0 : Nat) : Int)) (cI (j : Int)) = k24 u' (cI ((k + 1 : Nat) : Int)) ∧ Cn u' t ∧ (∀ i : Nat, i < 11 → u'.1 8 i = cI (D i : Int)) ∧ (∀ i : Nat, i < 4 → u'.1 8 (11 + i) = cI ((rgS D (k + 1) i : Nat) : Int)) ∧ fr [(8, 8, 0)] u u' := by
    intro k24 k hk r
    induction r with
    | zero =>
      intro m j u hj hm hu h1 h2
      obtain ⟨m, rfl⟩ : ∃ k, m = k + 1 := ⟨m - 1, by omega⟩
      refine ⟨u, ?_, hu, h1, fun i hi => by rw [h2 i hi, if_pos (by omega)], fr.rf⟩
      rw [show j = 4 by omega, fBars_close_h47, if_neg (by decide), q_s (by omega)]
    | succ r ih =>
      intro m j u hj hm hu h1 h2
      obtain ⟨m, rfl⟩ : ∃ k, m = k + 1 := ⟨m - 1, by omega⟩
      have l0 := rg_lt hD k (by omega) 0 (by decide)
      have lv := xr_lt (hD k (by omega)) l0
      have lg := gm_lt _ lv _ (DV_lt j (by omega))
      have lj : cI (j : Int) < cI 4 := by rw [lt_i, q_ti (by omega), show (cI 4).toInt = 4 from rfl]; omega
      have e11 : cI 11 + cI (j : Int) = cI ((11 + j : Nat) : Int) := q_ad (a := 11) (by omega)
      have f1 : fr [(8, 8, 0)] u (wI u 8 (11 + j) (cI ((rgS D (k + 1) j : Nat) : Int))) := fr.rf.wI rfl
      obtain ⟨u', a1, a2, a3, a4, a5⟩ := ih m (j + 1) (wI u 8 (11 + j) (cI ((rgS D (k + 1) j : Nat) : Int))) (by omega) (by omega) (hu.keep f1 rf_fr (by decide +kernel) (by decide +kernel)) (fun i hi => by rw [wI_c, up1_ne (by omega)]; exact h1 i hi) (fun i hi => by
        rw [wI_c]
        by_cases y : i = j
        · rw [y, up1_eq, if_pos (Nat.lt_succ_self _)]
        · rw [up1_ne (by omega), h2 i hi]
          by_cases z : i < j
          · rw [if_pos z, if_pos (show i < j + 1 by omega)]
          · rw [if_neg z, if_neg (show ¬ i < j + 1 by omega)])
      refine ⟨u', ?_, a2, a3, a4, f1.tr a5⟩
      have b80 : ∀ y : Nat, y < 16 → y ^^^ gm (D k ^^^ rgS D k 0) (DVn.getD j 0) = rgS D (k + 1) j → fBars_close_b80 k24 (fBars_close_h47 k24 m) u (cI (k : Int)) (cI ((D k ^^^ rgS D k 0 : Nat) : Int)) (cI (j : Int)) (cI (y : Int)) = k24 u' (cI ((k + 1 : Nat) : Int)) := by
        intro y hy e
        unfold fBars_close_b80
        rw [if_pos (q_in (by omega) (by decide)), q_ix (by omega), hu.1 j (by omega), tm_C hu lv (DV_lt j (by omega)), bd1_some, e11, if_pos (q_in (by omega) (by decide)), q_ix (by omega), x_cI (by omega) (by omega), e, ltM_eq, q_s (by omega)]
        exact a1
      rw [fBars_close_h47, if_pos lj, q_s (by omega)]
      by_cases z : j < 3
      · have e12 : cI 11 + cI (j : Int) + cI 1 = cI ((11 + (j + 1) : Nat) : Int) := by rw [e11, q_s (by omega)]; rfl
        have o := h2 (j + 1) (by omega)
        rw [if_neg (by omega)] at o
        rw [if_pos (by rw [lt_i, q_ti (by omega), show (cI 4).toInt = 4 from rfl]; omega), e12, if_pos (q_in (by omega) (by decide)), q_ix (by omega), o]
        exact b80 _ (rg_lt hD k (by omega) (j + 1) (by omega)) (by simp only [rgS]; rw [if_pos z])
      · rw [if_neg (by rw [lt_i, q_ti (by omega), show (cI 4).toInt = 4 from rfl]; omega)]
        exact b80 0 (by decide) (by simp only [rgS]; rw [if_neg z])
  have mid : ∀ (r m k : Nat) (u : ev_M), k + r = 11 → r < m → Cn u t → (∀ i : Nat, i < 11 → u.1 8 i = cI (D i : Int)) → (∀ i : Nat, i < 4 → u.1 8 (11 + i) = cI ((rgS D k i : Nat) : Int)) → ∃ u', fBars_close_h24 m u (cI (k : Int)) = some u' ∧ (∀ i : Nat, i < 11 → u'.1 8 i = cI (D i : Int)) ∧ (∀ i : Nat, i < 4 → u'.1 8 (11 + i) = cI ((rgS D 11 i : Nat) : Int)) ∧ fr [(8, 8, 0)] u u' := by
    intro r
    induction r with
    | zero =>
      intro m k u hk hm hu h1 h2
      obtain ⟨m, rfl⟩ : ∃ k, m = k + 1 := ⟨m - 1, by omega⟩
      obtain rfl : k = 11 := by omega
      refine ⟨u, ?_, h1, h2, fr.rf⟩
      rw [fBars_close_h24, if_neg (by decide)]
    | succ r ih =>
      intro m k u hk hm hu h1 h2
      obtain ⟨m, rfl⟩ : ∃ k, m = k + 1 := ⟨m - 1, by omega⟩
      have l0 := rg_lt hD k (by omega) 0 (by decide)
      have lk := hD k (by omega)
      have o := h2 0 (by decide)
      obtain ⟨u1, a1, a2, a3, a4, a5⟩ := inn (fBars_close_h24 m) k (by omega) 4 1048576 0 u (by decide) (by decide) hu h1 (fun i hi => by rw [if_neg (Nat.not_lt_zero _)]; exact h2 i hi)
      obtain ⟨u', b1, b2, b3, b4⟩ := ih m (k + 1) u1 (by omega) (by omega) a2 a3 a4
      refine ⟨u', ?_, b2, b3, a5.tr b4⟩
      have o' : u.1 8 (ix (cI 11)) = cI ((rgS D k 0 : Nat) : Int) := o
      rw [← b1, fBars_close_h24, if_pos (by rw [lt_i, q_ti (by omega), show (cI 11).toInt = 11 from rfl]; omega), if_pos (q_in (by omega) (by decide)), q_ix (by omega), h1 k (by omega), o', ltI_eq, x_cI (by omega) (by omega)]
      exact a1
  have zer : ∀ (r m k : Nat) (u : ev_M), k + r = 4 → r < m → Cn u t → (∀ i : Nat, i < 11 → u.1 8 i = cI (D i : Int)) → (∀ i : Nat, i < k → u.1 8 (11 + i) = cI ((0 : Nat) : Int)) → ∃ u', fBars_close_h3 m u (cI ((11 + k : Nat) : Int)) = some u' ∧ (∀ i : Nat, i < 11 → u'.1 8 i = cI (D i : Int)) ∧ (∀ i : Nat, i < 4 → u'.1 8 (11 + i) = cI ((rgS D 11 i : Nat) : Int)) ∧ fr [(8, 8, 0)] u u' := by
    intro r
    induction r with
    | zero =>
      intro m k u hk hm hu h1 h2
      obtain ⟨m, rfl⟩ : ∃ k, m = k + 1 := ⟨m - 1, by omega⟩
      obtain rfl : k = 4 := by omega
      obtain ⟨u', a1, a2, a3, a4⟩ := mid 11 1048576 0 u (by decide) (by decide) hu h1 (fun i hi => h2 i hi)
      refine ⟨u', ?_, a2, a3, a4⟩
      rw [fBars_close_h3, if_neg (by decide)]
      exact a1
    | succ r ih =>
      intro m k u hk hm hu h1 h2
      obtain ⟨m, rfl⟩ : ∃ k, m = k + 1 := ⟨m - 1, by omega⟩
      have f1 : fr [(8, 8, 0)] u (wI u 8 (11 + k) (cI 0)) := fr.rf.wI rfl
      obtain ⟨u', a1, a2, a3, a4⟩ := ih m (k + 1) (wI u 8 (11 + k) (cI 0)) (by omega) (by omega) (hu.keep f1 rf_fr (by decide +kernel) (by decide +kernel)) (fun i hi => by rw [wI_c, up1_ne (by omega)]; exact h1 i hi) (fun i hi => by
        rw [wI_c]
        by_cases y : i = k
        · rw [y, up1_eq]; rfl
        · rw [up1_ne (by omega)]; exact h2 i (by omega))
      refine ⟨u', ?_, a2, a3, f1.tr a4⟩
      rw [← a1, fBars_close_h3, if_pos (by rw [lt_i, q_ti (by omega), show (cI 15).toInt = 15 from rfl]; omega), if_pos (q_in (by omega) (by decide)), ltM_eq, q_ix (by omega), q_s (by omega)]
      rfl
  exact zer 4 1048576 0 s (by decide) (by decide) h hc (fun i hi => absurd hi (Nat.not_lt_zero _))
/-- the reference: the four last signs -/
theorem cl_M (h : Cn s t) (hD : ∀ k : Nat, k < 11 → D k < 16) (hc : ∀ k : Nat, k < 11 → t.1 660 k = cI (D k : Int)) : ∃ t', fM_bars_h162 1048576 t (cI 0) (cI 0) (cI 0) (cI 0) (cI 0) = some t' ∧ (∀ k : Nat, k < 11 → t'.1 660 k = cI (D k : Int)) ∧ (∀ j : Nat, j < 4 → t'.1 660 (11 + j) = cI ((rgS D 11 j : Nat) : Int)) ∧ fr [(660, 660, 0)] t t' := by
  have key : ∀ (r m k : Nat), k + r = 11 → r < m → fM_bars_h162 m t (cI ((rgS D k 0 : Nat) : Int)) (cI ((rgS D k 1 : Nat) : Int)) (cI ((rgS D k 2 : Nat) : Int)) (cI ((rgS D k 3 : Nat) : Int)) (cI (k : Int)) = some (wI (wI (wI (wI t 660 11 (cI ((rgS D 11 0 : Nat) : Int))) 660 12 (cI ((rgS D 11 1 : Nat) : Int))) 660 13 (cI ((rgS D 11 2 : Nat) : Int))) 660 14 (cI ((rgS D 11 3 : Nat) : Int))) := by
    intro r
    induction r with
    | zero =>
      intro m k hk hm
      obtain ⟨m, rfl⟩ : ∃ k, m = k + 1 := ⟨m - 1, by omega⟩
      obtain rfl : k = 11 := by omega
      rw [fM_bars_h162, if_neg (by decide), ltM_eq, ltM_eq, ltM_eq, ltM_eq]
      rfl
    | succ r ih =>
      intro m k hk hm
      obtain ⟨m, rfl⟩ : ∃ k, m = k + 1 := ⟨m - 1, by omega⟩
      have l0 := rg_lt hD k (by omega) 0 (by decide)
      have l1 := rg_lt hD k (by omega) 1 (by decide)
      have l2 := rg_lt hD k (by omega) 2 (by decide)
      have l3 := rg_lt hD k (by omega) 3 (by decide)
      have lk := hD k (by omega)
      have lv := xr_lt lk l0
      have m0 : fM_times t (cI ((D k ^^^ rgS D k 0 : Nat) : Int)) (cI 13) = some (cI ((gm (D k ^^^ rgS D k 0) 13 : Nat) : Int)) := tm_M (b := 13) lv (by decide)
      have m1 : fM_times t (cI ((D k ^^^ rgS D k 0 : Nat) : Int)) (cI 12) = some (cI ((gm (D k ^^^ rgS D k 0) 12 : Nat) : Int)) := tm_M (b := 12) lv (by decide)
      have m2 : fM_times t (cI ((D k ^^^ rgS D k 0 : Nat) : Int)) (cI 8) = some (cI ((gm (D k ^^^ rgS D k 0) 8 : Nat) : Int)) := tm_M (b := 8) lv (by decide)
      have m3 : fM_times t (cI ((D k ^^^ rgS D k 0 : Nat) : Int)) (cI 7) = some (cI ((gm (D k ^^^ rgS D k 0) 7 : Nat) : Int)) := tm_M (b := 7) lv (by decide)
      have g0 := gm_lt _ lv 13 (by decide)
      have g1 := gm_lt _ lv 12 (by decide)
      have g2 := gm_lt _ lv 8 (by decide)
      have i0 := ih m (k + 1) (by omega) (by omega)
      have e3 : rgS D (k + 1) 3 = gm (D k ^^^ rgS D k 0) 7 := by
        show 0 ^^^ gm (D k ^^^ rgS D k 0) 7 = _
        rw [Nat.zero_xor]
      rw [e3] at i0
      rw [fM_bars_h162, if_pos (by rw [lt_i, q_ti (by omega), show (cI 11).toInt = 11 from rfl]; omega), if_pos (q_in (by omega) (by decide)), q_ix (by omega), hc k (by omega), x_cI (by omega) (by omega), Nat.xor_comm (rgS D k 0), ltI_eq, m0, bd1_some, x_cI (by omega) (by omega), ltI_eq, m1, bd1_some, x_cI (by omega) (by omega), ltI_eq, m2, bd1_some, x_cI (by omega) (by omega), ltI_eq, m3, bd1_some, q_s (by omega)]
      exact i0
  refine ⟨_, key 11 1048576 0 (by decide) (by decide), fun k hk => ?_, fun j hj => ?_, (((fr.rf.wI rfl).wI rfl).wI rfl).wI rfl⟩
  · rw [wI_c, up1_ne (by omega), wI_c, up1_ne (by omega), wI_c, up1_ne (by omega), wI_c, up1_ne (by omega)]
    exact hc k hk
  · obtain rfl | rfl | rfl | rfl : j = 0 ∨ j = 1 ∨ j = 2 ∨ j = 3 := by omega
    · rw [wI_c, up1_ne (by decide), wI_c, up1_ne (by decide), wI_c, up1_ne (by decide), wI_c, up1_eq]
    · rw [wI_c, up1_ne (by decide), wI_c, up1_ne (by decide), wI_c, up1_eq]
    · rw [wI_c, up1_ne (by decide), wI_c, up1_eq]
    · rw [wI_c, up1_eq]
end
