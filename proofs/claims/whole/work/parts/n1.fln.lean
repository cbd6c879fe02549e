/-! ===== LEVEL 3: the sheet: the reference finds its lines ===== -/
def eqR (g : Nat → Nat) (r b : Nat) : Int32 := if g b = r then 1 else 0
theorem cntE_s {P : Nat → Int32} {x : Int32} {k : Nat} : cntE P x (k + 1) = cntE P x k + (if P k = x then 1 else 0) := by simp only [cntE]
theorem ff_s {g : Nat → Nat} {r : Nat} : ∀ k, cntE (blw g (r + 1)) 1 k = cntE (blw g r) 1 k + cntE (eqR g r) 1 k
  | 0 => rfl
  | k + 1 => by
    have ih := ff_s (g := g) (r := r) k
    have n01 : ¬ (0 : Int32) = 1 := by decide
    rw [cntE_s, cntE_s, cntE_s, ih]
    unfold blw eqR
    by_cases z : g k < r
    · rw [if_pos (show g k < r + 1 by omega), if_pos z, if_neg (show ¬ g k = r by omega), if_pos rfl, if_neg n01]; omega
    · by_cases y : g k = r
      · rw [if_pos (show g k < r + 1 by omega), if_neg z, if_pos y, if_pos rfl, if_neg n01]; omega
      · rw [if_neg (show ¬ g k < r + 1 by omega), if_neg z, if_neg y, if_neg n01]; omega
theorem ff_gap {g : Nat → Nat} {K r n : Nat} (hg : ∀ p, p < n → g p ≤ p ∧ g (g p) = g p) (hK : K ≤ r) (h : ∀ j, K ≤ j → j < r → ¬ g j = j) : ∀ k, k ≤ n → cntE (blw g r) 1 k = cntE (blw g K) 1 k
  | 0, _ => rfl
  | k + 1, hk => by
    have ih := ff_gap hg hK h k (by omega)
    have e : blw g r k = blw g K k := by
      unfold blw
      by_cases z : g k < K
      · rw [if_pos z, if_pos (by omega)]
      · rw [if_neg z, if_neg (fun u => h (g k) (by omega) u (hg k (by omega)).2)]
    rw [cntE_s, cntE_s, ih, e]
theorem rk_gap {g : Nat → Nat} {K : Nat} : ∀ r, K ≤ r → (∀ j, K ≤ j → j < r → ¬ g j = j) → rkN g r = rkN g K
  | 0, hK, _ => by rw [Nat.le_zero.mp hK]
  | r + 1, hK, h => by
    by_cases z : K = r + 1
    · rw [z]
    · simp only [rkN]
      rw [if_neg (h r (by omega) (by omega)), rk_gap r (by omega) (fun j h1 h2 => h j h1 (by omega)), Nat.add_zero]
theorem Bx.k {s t t' : ev_M} {P a : Nat} (h : Bx s t P a) (e : ∀ c, 578 ≤ c → c ≤ 582 → t'.1 c P = t.1 c P) : Bx s t' P a := by
  unfold Bx at h ⊢
  rw [e 578 (by decide) (by decide), e 579 (by decide) (by decide), e 580 (by decide) (by decide), e 581 (by decide) (by decide), e 582 (by decide) (by decide)]
  exact h
abbrev pos (n : Nat) (s : ev_M) (a : Nat) : Nat := cntE (rcn (kyP s) a) 1 n
/-- every part has its own place -/
def Pj (n : Nat) (s : ev_M) : Prop := (∀ a, a < n → pos n s a < n) ∧ ∀ a b, a < n → b < n → pos n s a = pos n s b → a = b
theorem ly_lp {w h n r L : Nat} {g : Nat → Nat} {s : ev_M} (J : Pj n s) (hr : r < n) (hL : L ≤ 9) : ∀ (q m k : Nat) (t : ev_M), k + q = n → q < m → Lc w h n g s t → t.1 549 51 = cI (L : Int) → (∀ a, a < n → g a < r ∨ g a = r ∧ a < k → Bx s t (pos n s a) a) → ∃ t', fM_lay_h15 m t (cI (r : Int)) (cI (cntE (blw g r) 1 n : Int)) (cI (cntE (eqR g r) 1 k : Int)) (cI (k : Int)) = some t' ∧ t'.1 549 51 = cI ((L + 1 : Nat) : Int) ∧ t'.1 577 (L + 1) = cI (cntE (blw g (r + 1)) 1 n : Int) ∧ (∀ j, j ≠ L + 1 → t'.1 577 j = t.1 577 j) ∧ (∀ a, a < n → g a < r + 1 → Bx s t' (pos n s a) a) ∧ fr FlyM t t' := by
  intro q
  induction q with
  | zero =>
    intro m k t hk hm H e51 B
    obtain ⟨m, rfl⟩ : ∃ k, m = k + 1 := ⟨m - 1, by omega⟩
    obtain rfl : k = n := by omega
    have r3 := H.2.2.1.2.2.1
    have c1 := cntE_le (f := blw g r) (x := 1) k
    have c2 := cntE_le (f := eqR g r) (x := 1) k
    have Lb : inb (cI ((L + 1 : Nat) : Int)) 11 = true := q_in (by omega) (by decide)
    have Lx : ix (cI ((L + 1 : Nat) : Int)) = L + 1 := q_ix (by omega)
    refine ⟨wI (wI t 549 51 (cI ((L + 1 : Nat) : Int))) 577 (L + 1) (cI (cntE (blw g (r + 1)) 1 k : Int)), ?_, ?_, ?_, fun j hj => ?_, fun a ha hg => ?_, (fr.rf.wI rfl).wI rfl⟩
    · rw [fM_lay_h15, H.2.2.1.2.1, if_neg (by rw [q_lt (by omega) (by omega)]; omega), e51, q_s (by omega)]
      simp (disch := decide) only [ltM_eq, ix_0, ix_1, ix_2, ix_3, ix_4, ix_5, ix_6, ix_7, ix_8, ix_9, ix_10, ix_11, ix_12, ix_13, ix_14, ix_15, ix_16, ix_17, ix_18, ix_19, ix_20, ix_21, Nat.reduceAdd, wI_c, wI_ne, wL_1, lupd_ne, up1_eq, up1_ne]
      rw [if_pos Lb, Lx, q_ad (by omega), ff_s]
    · simp (disch := decide) only [ix_0, ix_1, ix_2, ix_3, ix_4, ix_5, ix_6, ix_7, ix_8, ix_9, ix_10, ix_11, ix_12, ix_13, ix_14, ix_15, ix_16, ix_17, ix_18, ix_19, ix_20, ix_21, Nat.reduceAdd, wI_c, wI_ne, wL_1, lupd_ne, up1_eq, up1_ne]
    · simp (disch := decide) only [ix_0, ix_1, ix_2, ix_3, ix_4, ix_5, ix_6, ix_7, ix_8, ix_9, ix_10, ix_11, ix_12, ix_13, ix_14, ix_15, ix_16, ix_17, ix_18, ix_19, ix_20, ix_21, Nat.reduceAdd, wI_c, wI_ne, wL_1, lupd_ne, up1_eq, up1_ne]
    · simp (disch := decide) only [ix_0, ix_1, ix_2, ix_3, ix_4, ix_5, ix_6, ix_7, ix_8, ix_9, ix_10, ix_11, ix_12, ix_13, ix_14, ix_15, ix_16, ix_17, ix_18, ix_19, ix_20, ix_21, Nat.reduceAdd, wI_c, wI_ne, wL_1, lupd_ne, up1_eq, up1_ne]
      rw [up1_ne hj]
    · refine (B a ha (by omega)).k fun c g1 g2 => ?_
      rw [wI_ne (by omega), wI_ne (by omega)]
  | succ q ih =>
    intro m k t hk hm H e51 B
    obtain ⟨m, rfl⟩ : ∃ k, m = k + 1 := ⟨m - 1, by omega⟩
    have r3 := H.2.2.1.2.2.1
    have kb : inb (cI (k : Int)) 200 = true := q_in (by omega) (by decide)
    have kx : ix (cI (k : Int)) = k := q_ix (by omega)
    have gk := (H.2.2.2.2.2.1 k (by omega)).1
    have glk := (H.2.2.2.2.2.1 k (by omega)).2.1
    have c2 := cntE_le (f := eqR g r) (x := 1) k
    have lt : cI (k : Int) < cI (n : Int) := (q_lt (by omega) (by omega)).mpr (by omega)
    have n01 : ¬ (0 : Int32) = 1 := by decide
    by_cases z : g k = r
    · have e1 : eqR g r k = 1 := by unfold eqR; rw [if_pos z]
      have s1 : cntE (eqR g r) 1 (k + 1) = cntE (eqR g r) 1 k + 1 := by rw [cntE_s, e1, if_pos rfl]
      have eP : cntE (blw g r) 1 n + cntE (bfR g s k) 1 n = pos n s k := by
        rw [← z]; exact rc_sum H (by omega) n (Nat.le_refl _)
      obtain ⟨t1, a1, a2, a3, a4⟩ := ly_in (k15 := fM_lay_h15 m) (f := cntE (blw g r) 1 n) (show k < n by omega) (J.1 k (by omega)) eP n 1048576 (cntE (eqR g r) 1 k) 0 t (by omega) (by omega) (by omega) H
      have f1 : fr FlyM t t1 := a4.mono (by decide +kernel)
      obtain ⟨t', b1, b2, b3, b4, b5, b6⟩ := ih m (k + 1) t1 (by omega) (by omega) (H.kM f1) (by rw [(a4.1 549 51 rfl).1]; exact e51) (fun a ha hg => by
        by_cases y : a = k
        · rw [y]; exact a2
        · exact (B a ha (by omega)).k fun c g1 g2 => a3 c _ g1 g2 (fun u => y (J.2 a k ha (by omega) u)))
      refine ⟨t', ?_, b2, b3, fun j hj => ?_, b5, f1.tr b6⟩
      · rw [fM_lay_h15, H.2.2.1.2.1, if_pos lt, if_pos kb, kx, gk, z, if_pos rfl]
        rw [z] at a1
        rw [s1] at b1
        exact a1.trans b1
      · rw [b4 j hj, (a4.1 577 j rfl).1]
    · have e1 : eqR g r k = 0 := by unfold eqR; rw [if_neg z]
      have s1 : cntE (eqR g r) 1 (k + 1) = cntE (eqR g r) 1 k := by rw [cntE_s, e1, if_neg n01, Nat.add_zero]
      obtain ⟨t', b1, b2, b3, b4, b5, b6⟩ := ih m (k + 1) t (by omega) (by omega) H e51 (fun a ha hg => B a ha (by
        rcases hg with u | ⟨u, v⟩
        · exact Or.inl u
        · refine Or.inr ⟨u, ?_⟩
          by_cases y : a = k
          · rw [y] at u; exact absurd u z
          · omega))
      refine ⟨t', ?_, b2, b3, b4, b5, b6⟩
      rw [fM_lay_h15, H.2.2.1.2.1, if_pos lt, if_pos kb, kx, gk, if_neg (fun u => z (by rw [eq_i, q_ti (by omega), q_ti (by omega)] at u; omega))]
      unfold fM_lay_b174
      rw [q_s (by omega), ← s1]
      exact b1
theorem top_ok {w h n r : Nat} {g : Nat → Nat} {s t : ev_M} (H : Lc w h n g s t) (hr : r < n) (gr : g r = r) : fM_topOf t (cI (r : Int)) = some (s.1 57 r) := by
  have r3 := H.2.2.1.2.2.1
  obtain ⟨⟨⟨d1, d2, d3, d4⟩, d5, d6, d7, d8, d9⟩, I, ⟨r1, r2, r3, r4⟩, T, h1, h2, h3⟩ := H
  have lp : ∀ (q m k : Nat) (x : Int32), k + q = n → q < m → (k ≤ r ∧ x = cI (h : Int) ∨ r < k ∧ x = s.1 57 r) → fM_topOf_h7 t m (cI (r : Int)) x (cI (k : Int)) = some (s.1 57 r) := by
    intro q
    induction q with
    | zero =>
      intro m k x hk hm hx
      obtain ⟨m, rfl⟩ : ∃ k, m = k + 1 := ⟨m - 1, by omega⟩
      rw [fM_topOf_h7, r2, if_neg (by rw [q_lt (by omega) (by omega)]; omega)]
      rcases hx with ⟨u, -⟩ | ⟨-, u⟩
      · omega
      · rw [u]
    | succ q ih =>
      intro m k x hk hm hx
      obtain ⟨m, rfl⟩ : ∃ k, m = k + 1 := ⟨m - 1, by omega⟩
      have kb : inb (cI (k : Int)) 200 = true := q_in (by omega) (by decide)
      have kx : ix (cI (k : Int)) = k := q_ix (by omega)
      obtain ⟨gk, glk, -⟩ := h2 k (by omega)
      obtain ⟨l, tp, c, d, ⟨-, a2, -, -⟩, ⟨-, b2, -, -⟩, -, ht, -, hd⟩ := r4 k (by omega)
      have ih0 := ih m (k + 1)
      rw [fM_topOf_h7, r2, if_pos ((q_lt (by omega) (by omega)).mpr (by omega)), if_pos kb, kx, gk]
      unfold fM_topOf_b44 fM_topOf_b45
      rw [q_s (by omega)]
      by_cases z : g k = r
      · rw [z, if_pos rfl, if_pos kb, b2]
        rcases hx with ⟨u, v⟩ | ⟨u, v⟩
        · have e : k = r := by omega
          rw [v, if_pos ((q_lt (by omega) (by omega)).mpr (show tp < h by omega)), if_pos kb]
          exact ih0 _ (by omega) (by omega) (Or.inr ⟨by omega, by rw [← e, a2]⟩)
        · have tt := T r k u (by omega)
          rw [a2] at tt
          rw [v, if_neg (fun y => by rw [lt_i] at y; omega)]
          exact ih0 _ (by omega) (by omega) (Or.inr ⟨by omega, rfl⟩)
      · rw [if_neg (fun y => z (by rw [eq_i, q_ti (by omega), q_ti (by omega)] at y; omega))]
        refine ih0 _ (by omega) (by omega) ?_
        rcases hx with ⟨u, v⟩ | ⟨u, v⟩
        · refine Or.inl ⟨?_, v⟩
          by_cases y : k = r
          · rw [y] at z; exact absurd gr z
          · omega
        · exact Or.inr ⟨by omega, v⟩
  unfold fM_topOf
  rw [ltI_eq, d4]
  exact lp n 1048576 0 _ (by omega) (by omega) (Or.inl ⟨Nat.zero_le _, rfl⟩)
