/-! ===== LEVEL 3: the sheet: the cells of a part, as the reference reads them ===== -/
theorem ri_in {w h y a c l xc : Nat} {t : ev_M} {k4 : Int32 → Int32 → Int32 → Option Int32} {k46 : Int32 → Int32 → Int32 → Int32 → Int32 → Int32 → Int32 → Int32 → Option Int32} {v z4 y4 : Int32} (d3 : t.1 549 152 = cI (w : Int)) (hw : w ≤ 128) (hwh : w * h ≤ 4096) (hh : h ≤ 4096) (hy : y < h) (ha : a < 200) (hl : l + c ≤ w) (hxc : xc < 3) (e0 : t.1 652 a = cI (l : Int)) (e2 : t.1 654 a = cI (c : Int)) : ∀ (n m x k A : Nat), x + n = l + (xc + 1) * c / 3 → n < m → k + n < 90000 → A + n < 90000 → fM_cellsOf_h91 t k4 k46 m (cI (a : Int)) v z4 y4 (cI (xc : Int)) (cI (A : Int)) (cI (k : Int)) (cI (y : Int)) (cI (x : Int)) = k46 (cI (a : Int)) v z4 y4 (cI (xc : Int)) (cI ((A + n : Nat) : Int)) (cI ((k + cR (t.1 649) w y x n : Nat) : Int)) (cI ((y + 1 : Nat) : Int)) := by
  intro n
  have m2 := x_le (x := xc + 1) (c := c) (k := 3) (by omega) (by decide)
  have ab : inb (cI (a : Int)) 200 = true := q_in (by omega) (by decide)
  have ax : ix (cI (a : Int)) = a := q_ix (by omega)
  have n3 : ¬ cI 3 = 0 := by decide
  have q2 : cI (l : Int) + cI ((xc + 1 : Nat) : Int) * cI (c : Int) / cI 3 = cI ((l + (xc + 1) * c / 3 : Nat) : Int) := q_dv (k := 3) (by omega) (by omega) (by omega) (by decide) (by decide)
  induction n with
  | zero =>
    intro m x k A hx hm hk hA
    obtain ⟨m, rfl⟩ : ∃ k, m = k + 1 := ⟨m - 1, by omega⟩
    rw [fM_cellsOf_h91, if_pos ab, if_pos ab, if_neg n3, ax, e0, e2, q_s (show xc < 99999 by omega), q2, if_neg (by rw [q_lt (by omega) (by omega)]; omega), q_s (by omega)]
    rfl
  | succ n ih =>
    intro m x k A hx hm hk hA
    obtain ⟨m, rfl⟩ : ∃ k, m = k + 1 := ⟨m - 1, by omega⟩
    have yl := yw_lt hy (show x < w by omega)
    have e : cI (w : Int) * cI (y : Int) + cI (x : Int) = cI ((y * w + x : Nat) : Int) := by
      rw [q_mul (by omega) (by omega) (by rw [Nat.mul_comm]; omega), Nat.mul_comm]
    rw [fM_cellsOf_h91, if_pos ab, if_pos ab, if_neg n3, ax, e0, e2, q_s (show xc < 99999 by omega), q2, if_pos ((q_lt (by omega) (by omega)).mpr (by omega)), d3, e, if_pos (q_in (by omega) (by decide)), q_ix (by omega)]
    unfold fM_cellsOf_b146
    simp only [cR]
    by_cases z : t.1 649 (y * w + x) = 0
    · rw [if_pos z, if_pos z, q_s (by omega), q_s (by omega), ih m (x + 1) k (A + 1) (by omega) (by omega) (by omega) (by omega), Nat.zero_add, show A + 1 + n = A + (n + 1) by omega]
    · rw [if_neg z, if_neg z, q_s (show x < 99999 by omega), q_s (show k < 99999 by omega), q_s (show A < 99999 by omega), ih m (x + 1) (k + 1) (A + 1) (by omega) (by omega) (by omega) (by omega), show A + 1 + n = A + (n + 1) by omega, Nat.add_assoc]
theorem ri_ou {w h a c d l tp xc yc : Nat} {t : ev_M} {k4 : Int32 → Int32 → Int32 → Option Int32} {v z4 : Int32} (d3 : t.1 549 152 = cI (w : Int)) (hw : w ≤ 128) (hwh : w * h ≤ 4096) (hh : h ≤ 4096) (ha : a < 200) (hl : l + c ≤ w) (ht : tp + d ≤ h) (hxc : xc < 3) (hyc : yc < 5) (e0 : t.1 652 a = cI (l : Int)) (e1 : t.1 653 a = cI (tp : Int)) (e2 : t.1 654 a = cI (c : Int)) (e3 : t.1 655 a = cI (d : Int)) : ∀ (r m y k A : Nat), y + r = tp + (yc + 1) * d / 5 → r < m → A + ((l + (xc + 1) * c / 3) - (l + xc * c / 3)) * r = ((l + (xc + 1) * c / 3) - (l + xc * c / 3)) * ((tp + (yc + 1) * d / 5) - (tp + yc * d / 5)) → k ≤ A → fM_cellsOf_h46 t k4 m (cI (a : Int)) v z4 (cI (yc : Int)) (cI (xc : Int)) (cI (A : Int)) (cI (k : Int)) (cI (y : Int)) = k4 (cI (a : Int)) ((v <<< ((cI 1) &&& 31)) ||| bN (((l + (xc + 1) * c / 3) - (l + xc * c / 3)) * ((tp + (yc + 1) * d / 5) - (tp + yc * d / 5))) (k + cB (t.1 649) w (l + xc * c / 3) ((l + (xc + 1) * c / 3) - (l + xc * c / 3)) y r)) (z4 + cI 1) := by
  intro r
  have m1 := x_mo (x := xc) (c := c) (k := 3)
  have m2 := x_le (x := xc + 1) (c := c) (k := 3) (by omega) (by decide)
  have m3 := x_mo (x := yc) (c := d) (k := 5)
  have m4 := x_le (x := yc + 1) (c := d) (k := 5) (by omega) (by decide)
  have ab : inb (cI (a : Int)) 200 = true := q_in (by omega) (by decide)
  have ax : ix (cI (a : Int)) = a := q_ix (by omega)
  have n3 : ¬ cI 3 = 0 := by decide
  have n5 : ¬ cI 5 = 0 := by decide
  have q1 : cI (l : Int) + cI (xc : Int) * cI (c : Int) / cI 3 = cI ((l + xc * c / 3 : Nat) : Int) := q_dv (k := 3) (by omega) (by omega) (by omega) (by decide) (by decide)
  have q2 : cI (tp : Int) + cI ((yc + 1 : Nat) : Int) * cI (d : Int) / cI 5 = cI ((tp + (yc + 1) * d / 5 : Nat) : Int) := q_dv (k := 5) (by omega) (by omega) (by omega) (by decide) (by decide)
  obtain ⟨N, eN⟩ : ∃ N, N = (l + (xc + 1) * c / 3) - (l + xc * c / 3) := ⟨_, rfl⟩
  obtain ⟨X, eX⟩ : ∃ X, X = l + xc * c / 3 := ⟨_, rfl⟩
  obtain ⟨H, eH⟩ : ∃ H, H = (tp + (yc + 1) * d / 5) - (tp + yc * d / 5) := ⟨_, rfl⟩
  have sz : N * H ≤ w * h := Nat.mul_le_mul (by omega) (by omega)
  rw [← eN, ← eX, ← eH]
  rw [← eX] at q1
  induction r with
  | zero =>
    intro m y k A hy hm hA hk
    obtain ⟨m, rfl⟩ : ∃ k, m = k + 1 := ⟨m - 1, by omega⟩
    have c0 : cB (t.1 649) w X N y 0 = 0 := rfl
    rw [Nat.mul_zero, Nat.add_zero] at hA
    have e2 : cI 2 * cI (k : Int) = cI ((2 * k : Nat) : Int) := q_mul0 (a := 2) (by decide) (by omega) (by omega)
    rw [fM_cellsOf_h46, if_pos ab, if_pos ab, if_neg n5, ax, e1, e3, q_s (show yc < 99999 by omega), q2, if_neg (by rw [q_lt (by omega) (by omega)]; omega), c0, Nat.add_zero, ← hA, e2]
    unfold bN fM_cellsOf_b181 fM_cellsOf_b182
    by_cases z : A = 0
    · rw [if_pos z, if_pos (by rw [le_i, q_ti (by omega), i32_0]; omega), ltI_eq]
    · rw [if_neg z, if_neg (by rw [le_i, q_ti (by omega), i32_0]; omega)]
      by_cases z2 : 2 * k < A
      · rw [if_pos z2, if_pos ((q_lt (by omega) (by omega)).mpr z2), ltI_eq]
      · rw [if_neg z2, if_neg (fun u => z2 ((q_lt (by omega) (by omega)).mp u)), ltI_eq]
  | succ r ih =>
    intro m y k A hy hm hA hk
    obtain ⟨m, rfl⟩ : ∃ k, m = k + 1 := ⟨m - 1, by omega⟩
    rw [Nat.mul_add, Nat.mul_one] at hA
    have c1 := cR_le (f := t.1 649) (w := w) (y := y) N X
    have ihr := ih m (y + 1) (k + cR (t.1 649) w y X N) (A + N) (by omega) (by omega) (by omega) (by omega)
    rw [fM_cellsOf_h46, if_pos ab, if_pos ab, if_neg n5, ax, e1, e3, q_s (show yc < 99999 by omega), q2, if_pos ((q_lt (by omega) (by omega)).mpr (by omega)), if_pos ab, if_pos ab, if_neg n3, ltI_eq, e0, e2, q1]
    refine (ri_in (k4 := k4) (k46 := fM_cellsOf_h46 t k4 m) d3 hw hwh hh (show y < h by omega) ha hl hxc e0 e2 N 1048576 X k A (by omega) (by omega) (by omega) (by omega)).trans ?_
    rw [ihr]
    simp only [cB]
    rw [Nat.add_assoc]
theorem rc_lp {w h a c d l tp : Nat} {t : ev_M} (d3 : t.1 549 152 = cI (w : Int)) (hw : w ≤ 128) (hwh : w * h ≤ 4096) (hh : h ≤ 4096) (ha : a < 200) (hl : l + c ≤ w) (ht : tp + d ≤ h) (e0 : t.1 652 a = cI (l : Int)) (e1 : t.1 653 a = cI (tp : Int)) (e2 : t.1 654 a = cI (c : Int)) (e3 : t.1 655 a = cI (d : Int)) : ∀ (r m z : Nat), z + r = 15 → r < m → fM_cellsOf_h4 t m (cI (a : Int)) (vN (bt (t.1 649) w l tp c d) z) (cI (z : Int)) = some (vN (bt (t.1 649) w l tp c d) 15)
  | 0, m, z, hz, hm => by
    obtain ⟨m, rfl⟩ : ∃ k, m = k + 1 := ⟨m - 1, by omega⟩
    have e : z = 15 := by omega
    subst e
    rw [fM_cellsOf_h4, if_neg (by decide)]
  | r + 1, m, z, hz, hm => by
    obtain ⟨m, rfl⟩ : ∃ k, m = k + 1 := ⟨m - 1, by omega⟩
    have ab : inb (cI (a : Int)) 200 = true := q_in (by omega) (by decide)
    have ax : ix (cI (a : Int)) = a := q_ix (by omega)
    have n3 : ¬ cI 3 = 0 := by decide
    have n5 : ¬ cI 5 = 0 := by decide
    have ih := rc_lp d3 hw hwh hh ha hl ht e0 e1 e2 e3 r m (z + 1) (by omega) (by omega)
    have g1 : cI (z : Int) / cI 3 = cI ((z / 3 : Nat) : Int) := q_div (d := 3) (by omega) (by decide) (by decide)
    have g2 : irem (cI (z : Int)) (cI 3) = cI ((z % 3 : Nat) : Int) := q_rem (d := 3) (by omega) (by decide) (by decide)
    have q1 : cI (tp : Int) + cI ((z / 3 : Nat) : Int) * cI (d : Int) / cI 5 = cI ((tp + (z / 3) * d / 5 : Nat) : Int) := q_dv (k := 5) (by omega) (by omega) (by omega) (by decide) (by decide)
    have m3 := x_mo (x := z / 3) (c := d) (k := 5)
    have m4 := x_le (x := z / 3 + 1) (c := d) (k := 5) (by omega) (by decide)
    have g := ri_ou (k4 := fM_cellsOf_h4 t m) (v := vN (bt (t.1 649) w l tp c d) z) (z4 := cI (z : Int)) d3 hw hwh hh ha hl ht (show z % 3 < 3 by omega) (show z / 3 < 5 by omega) e0 e1 e2 e3 ((tp + (z / 3 + 1) * d / 5) - (tp + (z / 3) * d / 5)) 1048576 (tp + (z / 3) * d / 5) 0 0 (by omega) (by omega) (by omega) (by omega)
    rw [fM_cellsOf_h4, if_pos (by rw [lt_i, q_ti (by omega), show (cI 15).toInt = 15 from rfl]; omega), if_neg n3, ltI_eq, if_neg n3, ltI_eq, if_pos ab, if_pos ab, if_neg n5, ltI_eq, ax, e1, e3, g1, g2, q1]
    refine g.trans ?_
    rw [Nat.zero_add, q_s (by omega)]
    exact ih
/-- the cells of a part -/
theorem e_cells {w h n a : Nat} {s t : ev_M} (D : Dim w h s t) (I : Ink (w * h) s t) (R : Rpt w h n s t) (ha : a < n) : ∃ v : Int32, v.toBitVec.toNat < 2 ^ 15 ∧ fSheet_cellsOf s (cI (a : Int)) = some v ∧ fM_cellsOf t (cI (a : Int)) = some v := by
  obtain ⟨⟨d1, d2, d3, d4⟩, d5, d6, d7, d8, d9⟩ := D
  obtain ⟨r1, r2, r3, r4⟩ := R
  obtain ⟨l, tp, c, d, ⟨a1, a2, a3, a4⟩, ⟨b1, b2, b3, b4⟩, hl, ht, -, -⟩ := r4 a ha
  have eb : bt (t.1 649) w l tp c d = bt (s.1 53) w l tp c d ∨ True := Or.inr trivial
  refine ⟨vN (bt (s.1 53) w l tp c d) 15, vN_lt (fun _ _ => bt_01) 15 (Nat.le_refl _), ?_, ?_⟩
  · exact cc_ou d1 d6 d9 d8 hl ht (by omega) a1 a2 a3 a4 5 1048576 0 (by omega) (by omega)
  · have k := rc_lp d3 d6 d9 d8 (show a < 200 by omega) hl ht b1 b2 b3 b4 15 1048576 0 (by omega) (by omega)
    have cg : ∀ z, z ≤ 15 → vN (bt (t.1 649) w l tp c d) z = vN (bt (s.1 53) w l tp c d) z := by
      intro z
      induction z with
      | zero => intro _; rfl
      | succ z ih =>
        intro hz
        have m2 := x_le (x := z % 3 + 1) (c := c) (k := 3) (by omega) (by decide)
        have m4 := x_le (x := z / 3 + 1) (c := d) (k := 5) (by omega) (by decide)
        have m1 := x_mo (x := z % 3) (c := c) (k := 3)
        have m3 := x_mo (x := z / 3) (c := d) (k := 5)
        have e : bt (t.1 649) w l tp c d (z / 3) (z % 3) = bt (s.1 53) w l tp c d (z / 3) (z % 3) := by
          unfold bt
          rw [cB_cg I (by omega) _ _ (by omega)]
        simp only [vN]
        rw [ih (by omega), e]
    rw [← cg 15 (Nat.le_refl _)]
    exact k
