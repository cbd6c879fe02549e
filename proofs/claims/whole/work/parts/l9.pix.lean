/-! ===== LEVEL 3: the sheet: a part grows by its neighbours ===== -/
theorem q_mul {a b c : Nat} (ha : a < 5000) (hb : b < 5000) (h : a * b + c < 100000) : cI (a : Int) * cI (b : Int) + cI (c : Int) = cI ((a * b + c : Nat) : Int) := by
  have ea : (cI (a : Int)).toInt = (a : Int) := q_ti (by omega)
  have eb : (cI (b : Int)).toInt = (b : Int) := q_ti (by omega)
  have ec : (cI (c : Int)).toInt = (c : Int) := q_ti (by omega)
  have ab : (a : Int) * (b : Int) = ((a * b : Nat) : Int) := (Int.natCast_mul a b).symm
  have m : (cI (a : Int) * cI (b : Int)).toInt = ((a * b : Nat) : Int) := by rw [mul_toInt (by rw [ea, eb, ab]; omega) (by rw [ea, eb, ab]; omega), ea, eb, ab]
  rw [eq_i, add_b (by omega) (by omega), m, ec, q_ti h]
  omega
theorem q_rem {j d : Nat} (hj : j < 100000) (hd : 0 < d) (hd2 : d < 100000) : irem (cI (j : Int)) (cI (d : Int)) = cI ((j % d : Nat) : Int) := by
  have l : j % d < d := Nat.mod_lt _ hd
  rw [eq_i, irem_toInt (by rw [q_ti hj]; omega) (by rw [q_ti hd2]; omega), q_ti hj, q_ti hd2, q_ti (by omega)]
  rfl
theorem q_div {j d : Nat} (hj : j < 100000) (hd : 0 < d) (hd2 : d < 100000) : cI (j : Int) / cI (d : Int) = cI ((j / d : Nat) : Int) := by
  have l : j / d ≤ j := Nat.div_le_self _ _
  rw [eq_i, div_toInt (by rw [q_ti hj]; omega) (by rw [q_ti hd2]; omega), q_ti hj, q_ti hd2, q_ti (by omega)]
  exact (Int.natCast_ediv j d).symm
theorem q_max {s : ev_M} {x : Nat} (hx : x < 5000) : fMath_max s (cI 0) (cI (x : Int) - cI 1) = some (cI ((x - 1 : Nat) : Int)) := by
  unfold fMath_max
  have e1 : (cI 1).toInt = 1 := rfl
  have e0 : (cI 0).toInt = 0 := rfl
  have sb : (cI (x : Int) - cI 1).toInt = (x : Int) - 1 := by rw [sub_b (by rw [q_ti (by omega)]; omega) (by rw [q_ti (by omega)]; omega), q_ti (by omega), e1]
  by_cases z : cI 0 < cI (x : Int) - cI 1
  · rw [if_pos z]
    rw [lt_i, sb, e0] at z
    congr 1
    rw [eq_i, sb, q_ti (by omega)]; omega
  · rw [if_neg z]
    rw [lt_i, sb, e0] at z
    congr 1
    rw [eq_i, e0, q_ti (by omega)]; omega
/-- width and height -/
def Dim (w h : Nat) (s t : ev_M) : Prop := (s.1 52 4 = cI (w : Int) ∧ s.1 52 5 = cI (h : Int) ∧ t.1 549 152 = cI (w : Int) ∧ t.1 549 153 = cI (h : Int)) ∧ 8 ≤ w ∧ w ≤ 128 ∧ 0 < h ∧ h ≤ 4096 ∧ w * h ≤ 4096
/-- q pixels of a part are found, none before f -/
def Flo (w h f q : Nat) (s t : ev_M) : Prop := Dim w h s t ∧ Shd (w * h) s t ∧ s.1 52 8 = cI (q : Int) ∧ q + cntE (s.1 53) (cI 1) (w * h) ≤ w * h ∧ (∀ j, j < q → ∃ p, p < w * h ∧ f ≤ p ∧ s.1 54 j = cI (p : Int) ∧ t.1 651 j = cI (p : Int)) ∧ ∀ k, k ≤ f → k < w * h → ¬ s.1 53 k = cI 1
def FflC : List (Nat × (Nat × Nat)) := [(53, 53, 0), (54, 54, 0), (52, 52, 9)]
def FflM : List (Nat × (Nat × Nat)) := [(650, 650, 0), (651, 651, 0)]
theorem Flo.hit {w h f q k : Nat} {s t : ev_M} (F : Flo w h f q s t) (hk : k < w * h) (h1 : s.1 53 k = cI 1) : q < 4096 ∧ Flo w h f (q + 1) (wI (wI (wI s 53 k (cI 2)) 52 8 (cI ((q + 1 : Nat) : Int))) 54 q (cI (k : Int))) (wI (wI t 650 k (cI 1)) 651 q (cI (k : Int))) := by
  obtain ⟨⟨⟨d1, d2, d3, d4⟩, d5, d6, d7, d8, d9⟩, S, e8, c1, Q, N⟩ := F
  have cp := cntE_pos (f := s.1 53) (k := k) (x := cI 1) h1 (w * h) hk
  have cu := cntE_un (f := s.1 53) (k := k) (x := cI 1) (y := cI 2) h1 (by decide) (w * h) hk
  have kf : f ≤ k := by
    apply Classical.byContradiction
    intro z
    exact N k (by omega) hk h1
  refine ⟨by omega, ⟨⟨?_, ?_, ?_, ?_⟩, d5, d6, d7, d8, d9⟩, fun p hp => ?_, ?_, ?_, fun j hj => ?_, fun p h2 h3 => ?_⟩ <;> simp (disch := decide) only [ix_0, ix_1, ix_2, ix_3, ix_4, ix_5, ix_6, ix_7, ix_8, ix_9, ix_10, ix_11, ix_12, ix_13, ix_14, ix_15, ix_16, ix_17, ix_18, ix_19, ix_20, ix_21, Nat.reduceAdd, wI_c, wI_ne, wL_1, lupd_ne, up1_eq, up1_ne]
  · exact d1
  · exact d2
  · exact d3
  · exact d4
  · by_cases z : p = k
    · rw [z, up1_eq, up1_eq]
      rcases S k hk with ⟨u, -⟩ | ⟨-, u, -⟩ | ⟨u, -⟩
      · rw [h1] at u; exact absurd u (by decide)
      · exact Or.inr (Or.inr ⟨rfl, u, rfl⟩)
      · rw [h1] at u; exact absurd u (by decide)
    · rw [up1_ne z, up1_ne z]; exact S p hp
  · omega
  · by_cases z : j = q
    · rw [z]
      simp only [up1_eq]
      exact ⟨k, hk, kf, rfl, rfl⟩
    · simp only [up1_ne z]
      exact Q j (by omega)
  · by_cases z : p = k
    · rw [z, up1_eq]; decide
    · rw [up1_ne z]; exact N p h2 h3
/-- one pixel, class and reference -/
theorem px_ok {w h f q x y nx ny dx dy : Nat} {s t : ev_M} (F : Flo w h f q s t) (hx : x < w) (hy : y < h) (h1 : nx < w) (h2 : ny < h) (h3 : nx + 1 = x + dx) (h4 : ny + 1 = y + dy) (hdx : dx < 3) (hdy : dy < 3) : ∃ s' t' q', Flo w h f q' s' t' ∧ q ≤ q' ∧ (∀ k8 n, fSheet_takeNeighbours_h32 k8 (n + 1) s (cI (x : Int)) (cI (y : Int)) (cI (ny : Int)) (cI (nx : Int)) = fSheet_takeNeighbours_h32 k8 n s' (cI (x : Int)) (cI (y : Int)) (cI (ny : Int)) (cI ((nx + 1 : Nat) : Int))) ∧ (∀ k30 n x1 x2 x4 x5 x6, fM_part_h115 k30 (n + 1) t x1 x2 (cI (q : Int)) x4 x5 x6 (cI (x : Int)) (cI (y : Int)) (cI ((3 * dy + dx : Nat) : Int)) = fM_part_h115 k30 n t' x1 x2 (cI (q' : Int)) x4 x5 x6 (cI (x : Int)) (cI (y : Int)) (cI ((3 * dy + dx + 1 : Nat) : Int))) ∧ fr FflC s s' ∧ fr FflM t t' := by
  obtain ⟨⟨⟨d1, d2, d3, d4⟩, d5, d6, d7, d8, d9⟩, S, e8, -⟩ := id F
  have wh : w * h ≤ 4096 := d9
  have kk : ny * w + nx < w * h := by
    have : ny * w + w ≤ h * w := by
      have := Nat.mul_le_mul_right w (show ny + 1 ≤ h by omega)
      rw [Nat.add_mul, Nat.one_mul] at this
      exact this
    rw [Nat.mul_comm w h]; omega
  have kw : w * ny + nx = ny * w + nx := by rw [Nat.mul_comm]
  obtain ⟨k, ek⟩ : ∃ k, k = ny * w + nx := ⟨_, rfl⟩
  have eC : cI (ny : Int) * cI (w : Int) + cI (nx : Int) = cI (k : Int) := by rw [q_mul (by omega) (by omega) (by omega), ek]
  have eM : cI (w : Int) * cI (ny : Int) + cI (nx : Int) = cI (k : Int) := by rw [q_mul (by omega) (by omega) (by omega), ek, kw]
  have kb : inb (cI (k : Int)) 4096 = true := q_in (by omega) (by decide)
  have kx : ix (cI (k : Int)) = k := q_ix (by omega)
  have nle : cI (nx : Int) ≤ cI (x : Int) + cI 1 := by rw [q_s (by omega), le_i, q_ti (by omega), q_ti (by omega)]; omega
  have nlt : cI (nx : Int) < cI (w : Int) := (q_lt (by omega) (by omega)).mpr h1
  have e1 : (cI 1).toInt = 1 := rfl
  have jr : irem (cI ((3 * dy + dx : Nat) : Int)) (cI 3) = cI (dx : Int) := by
    have := q_rem (j := 3 * dy + dx) (d := 3) (by omega) (by omega) (by omega)
    rw [show (3 * dy + dx) % 3 = dx by omega] at this
    exact this
  have jd : cI ((3 * dy + dx : Nat) : Int) / cI 3 = cI (dy : Int) := by
    have := q_div (j := 3 * dy + dx) (d := 3) (by omega) (by omega) (by omega)
    rw [show (3 * dy + dx) / 3 = dy by omega] at this
    exact this
  have vx : cI (x : Int) + cI (dx : Int) - cI 1 = cI (nx : Int) := by
    have a : (cI (x : Int) + cI (dx : Int)).toInt = (x : Int) + (dx : Int) := by rw [add_b (by rw [q_ti (by omega), q_ti (by omega)]; omega) (by rw [q_ti (by omega), q_ti (by omega)]; omega), q_ti (by omega), q_ti (by omega)]
    rw [eq_i, sub_b (by rw [a, e1]; omega) (by rw [a, e1]; omega), a, e1, q_ti (by omega)]; omega
  have vy : cI (y : Int) + cI (dy : Int) - cI 1 = cI (ny : Int) := by
    have a : (cI (y : Int) + cI (dy : Int)).toInt = (y : Int) + (dy : Int) := by rw [add_b (by rw [q_ti (by omega), q_ti (by omega)]; omega) (by rw [q_ti (by omega), q_ti (by omega)]; omega), q_ti (by omega), q_ti (by omega)]
    rw [eq_i, sub_b (by rw [a, e1]; omega) (by rw [a, e1]; omega), a, e1, q_ti (by omega)]; omega
  have inr : ∀ {a n : Nat}, a < n → n < 5000 → InR (cI (a : Int)) (cI 0) (cI (n : Int) - cI 1) := fun {a n} h1 h2 => by
    have sb : (cI (n : Int) - cI 1).toInt = (n : Int) - 1 := by rw [sub_b (by rw [q_ti (by omega)]; omega) (by rw [q_ti (by omega)]; omega), q_ti (by omega), e1]
    refine ⟨?_, ?_⟩
    · rw [q_ti (by omega)]; show (0 : Int) ≤ _; omega
    · rw [q_ti (by omega), sb]; omega
  have lt9 : cI ((3 * dy + dx : Nat) : Int) < cI 9 := by rw [lt_i, q_ti (by omega), show (cI 9).toInt = 9 from rfl]; omega
  have n3 : ¬ cI 3 = 0 := by decide
  have kM : ∀ k30 n x1 x2 x4 x5 x6, fM_part_h115 k30 (n + 1) t x1 x2 (cI (q : Int)) x4 x5 x6 (cI (x : Int)) (cI (y : Int)) (cI ((3 * dy + dx : Nat) : Int)) = if t.1 650 k = 0 then (if inb (cI (q : Int)) 4096 = true then fM_part_b227 k30 (fM_part_h115 k30 n) (wI (wI t 650 k (cI 1 &&& 1)) 651 (ix (cI (q : Int))) (cI (k : Int))) x1 x2 (cI (q : Int) + cI 1) x4 x5 x6 (cI (x : Int)) (cI (y : Int)) (cI ((3 * dy + dx : Nat) : Int)) else none) else fM_part_b227 k30 (fM_part_h115 k30 n) t x1 x2 (cI (q : Int)) x4 x5 x6 (cI (x : Int)) (cI (y : Int)) (cI ((3 * dy + dx : Nat) : Int)) := by
    intro k30 n x1 x2 x4 x5 x6
    rw [fM_part_h115, if_pos lt9, if_neg n3, ltI_eq, jr, vx, if_neg n3, ltI_eq, jd, vy, in_eq, bd1_some, ite_bI, d3, if_pos (inr h1 (by omega)), in_eq, bd1_some, ite_bI, d4, if_pos (inr h2 (by omega)), eM, if_pos kb, kx, if_pos kb, ltM_eq, wI_ne (show 549 ≠ 650 by decide), d3, eM]
    rfl
  have kC : ∀ k8 n, fSheet_takeNeighbours_h32 k8 (n + 1) s (cI (x : Int)) (cI (y : Int)) (cI (ny : Int)) (cI (nx : Int)) = if s.1 53 k = cI 1 then (if inb (cI (q : Int)) 4096 = true then fSheet_takeNeighbours_h32 k8 n (wI (wI (wI s 53 k (i2b (cI 2))) 52 8 (cI (q : Int) + cI 1)) 54 (ix (cI (q : Int))) (cI (k : Int))) (cI (x : Int)) (cI (y : Int)) (cI (ny : Int)) (cI ((nx + 1 : Nat) : Int)) else none) else fSheet_takeNeighbours_h32 k8 n s (cI (x : Int)) (cI (y : Int)) (cI (ny : Int)) (cI ((nx + 1 : Nat) : Int)) := by
    intro k8 n
    rw [fSheet_takeNeighbours_h32, if_pos nle, d1, if_pos nlt, ltI_eq, eC, if_pos kb, kx, if_pos kb, ltM_eq, ltM_eq]
    unfold fSheet_takeNeighbours_b97
    rw [q_s (by omega), wI_ne (show 52 ≠ 53 by decide), e8]
    rfl
  rcases S k (by omega) with ⟨u1, u2, u3⟩ | ⟨u1, u2, u3⟩ | ⟨u1, u2, u3⟩
  · refine ⟨s, t, q, F, Nat.le_refl _, fun k8 n => ?_, fun k30 n x1 x2 x4 x5 x6 => ?_, fr.rf, fr.rf⟩
    · rw [kC, if_neg (by rw [u1]; decide)]
    · rw [kM, if_neg (by rw [u3]; decide)]
      unfold fM_part_b227
      rw [q_s (by omega)]
  · obtain ⟨q1, F'⟩ := F.hit (k := k) (by omega) u1
    have qb : inb (cI (q : Int)) 4096 = true := q_in q1 (by decide)
    refine ⟨_, _, q + 1, F', by omega, fun k8 n => ?_, fun k30 n x1 x2 x4 x5 x6 => ?_, ((fr.rf.wI rfl).wI rfl).wI rfl, (fr.rf.wI rfl).wI rfl⟩
    · rw [kC, if_pos u1, if_pos qb, q_s (by omega), q_ix (by omega), show i2b (cI 2) = cI 2 by decide]
    · rw [kM, if_pos (by rw [u3]; rfl), if_pos qb, q_ix (by omega), show cI 1 &&& 1 = cI 1 by decide]
      unfold fM_part_b227
      rw [q_s (by omega), q_s (by omega)]
  · refine ⟨s, t, q, F, Nat.le_refl _, fun k8 n => ?_, fun k30 n x1 x2 x4 x5 x6 => ?_, fr.rf, fr.rf⟩
    · rw [kC, if_neg (by rw [u1]; decide)]
    · rw [kM, if_neg (by rw [u3]; decide)]
      unfold fM_part_b227
      rw [q_s (by omega)]
/-- beside the sheet: the reference passes by -/
theorem ms_M {w h f q x y dx dy : Nat} {s t : ev_M} (F : Flo w h f q s t) (hx : x < w) (hy : y < h) (hdx : dx < 3) (hdy : dy < 3) (hm : x + dx = 0 ∨ w < x + dx ∨ y + dy = 0 ∨ h < y + dy) : ∀ k30 n x1 x2 x3 x4 x5 x6, fM_part_h115 k30 (n + 1) t x1 x2 x3 x4 x5 x6 (cI (x : Int)) (cI (y : Int)) (cI ((3 * dy + dx : Nat) : Int)) = fM_part_h115 k30 n t x1 x2 x3 x4 x5 x6 (cI (x : Int)) (cI (y : Int)) (cI ((3 * dy + dx + 1 : Nat) : Int)) := by
  intro k30 n x1 x2 x3 x4 x5 x6
  obtain ⟨⟨⟨d1, d2, d3, d4⟩, d5, d6, d7, d8, d9⟩, -⟩ := id F
  have e1 : (cI 1).toInt = 1 := rfl
  have e0 : (cI 0).toInt = 0 := rfl
  have jr : irem (cI ((3 * dy + dx : Nat) : Int)) (cI 3) = cI (dx : Int) := by
    have := q_rem (j := 3 * dy + dx) (d := 3) (by omega) (by omega) (by omega)
    rw [show (3 * dy + dx) % 3 = dx by omega] at this
    exact this
  have jd : cI ((3 * dy + dx : Nat) : Int) / cI 3 = cI (dy : Int) := by
    have := q_div (j := 3 * dy + dx) (d := 3) (by omega) (by omega) (by omega)
    rw [show (3 * dy + dx) / 3 = dy by omega] at this
    exact this
  have ax : (cI (x : Int) + cI (dx : Int)).toInt = (x : Int) + (dx : Int) := by rw [add_b (by rw [q_ti (by omega), q_ti (by omega)]; omega) (by rw [q_ti (by omega), q_ti (by omega)]; omega), q_ti (by omega), q_ti (by omega)]
  have ay : (cI (y : Int) + cI (dy : Int)).toInt = (y : Int) + (dy : Int) := by rw [add_b (by rw [q_ti (by omega), q_ti (by omega)]; omega) (by rw [q_ti (by omega), q_ti (by omega)]; omega), q_ti (by omega), q_ti (by omega)]
  have vx : (cI (x : Int) + cI (dx : Int) - cI 1).toInt = (x : Int) + (dx : Int) - 1 := by rw [sub_b (by rw [ax, e1]; omega) (by rw [ax, e1]; omega), ax, e1]
  have vy : (cI (y : Int) + cI (dy : Int) - cI 1).toInt = (y : Int) + (dy : Int) - 1 := by rw [sub_b (by rw [ay, e1]; omega) (by rw [ay, e1]; omega), ay, e1]
  have sb : ∀ {n : Nat}, n < 5000 → (cI (n : Int) - cI 1).toInt = (n : Int) - 1 := fun {n} hn => by rw [sub_b (by rw [q_ti (by omega)]; omega) (by rw [q_ti (by omega)]; omega), q_ti (by omega), e1]
  have lt9 : cI ((3 * dy + dx : Nat) : Int) < cI 9 := by rw [lt_i, q_ti (by omega), show (cI 9).toInt = 9 from rfl]; omega
  have n3 : ¬ cI 3 = 0 := by decide
  rw [fM_part_h115, if_pos lt9, if_neg n3, ltI_eq, jr, if_neg n3, ltI_eq, jd, in_eq, bd1_some, ite_bI, d3]
  unfold fM_part_b227
  rw [q_s (by omega)]
  by_cases z : InR (cI (x : Int) + cI (dx : Int) - cI 1) (cI 0) (cI (w : Int) - cI 1)
  · rw [if_pos z, in_eq, bd1_some, ite_bI, d4]
    obtain ⟨z1, z2⟩ := z
    rw [vx, e0] at z1
    rw [vx, sb (by omega)] at z2
    rw [if_neg (fun u => by
      obtain ⟨u1, u2⟩ := u
      rw [vy, e0] at u1
      rw [vy, sb (by omega)] at u2
      omega)]
  · rw [if_neg z]
theorem ne_C {w h f q x y nx ny : Nat} {s t : ev_M} (F : Flo w h f q s t) (hx : x < 5000) (hn : nx < 5000) (hny : ny < 5000) (hm : x + 1 < nx ∨ w ≤ nx) : ∀ k8 n, fSheet_takeNeighbours_h32 k8 (n + 1) s (cI (x : Int)) (cI (y : Int)) (cI (ny : Int)) (cI (nx : Int)) = k8 s (cI (x : Int)) (cI (y : Int)) (cI ((ny + 1 : Nat) : Int)) := by
  intro k8 n
  obtain ⟨⟨⟨d1, d2, d3, d4⟩, d5, d6, d7, d8, d9⟩, -⟩ := id F
  rw [fSheet_takeNeighbours_h32]
  unfold fSheet_takeNeighbours_b103
  rw [q_s (by omega), q_s (by omega)]
  by_cases z : cI (nx : Int) ≤ cI ((x + 1 : Nat) : Int)
  · rw [le_i, q_ti (by omega), q_ti (by omega)] at z
    rw [if_pos (by rw [le_i, q_ti (by omega), q_ti (by omega)]; exact z), d1, if_neg (by rw [q_lt (by omega) (by omega)]; omega)]
  · rw [if_neg z]
/-- one row of the neighbours -/
theorem nr_ok {w h f q x y ny dy : Nat} {s t : ev_M} (F : Flo w h f q s t) (hx : x < w) (hy : y < h) (h2 : ny < h) (h4 : ny + 1 = y + dy) (hdy : dy < 3) : ∃ s' t' q', Flo w h f q' s' t' ∧ q ≤ q' ∧ (∀ k8 n, fSheet_takeNeighbours_h32 k8 (n + 4) s (cI (x : Int)) (cI (y : Int)) (cI (ny : Int)) (cI ((x - 1 : Nat) : Int)) = k8 s' (cI (x : Int)) (cI (y : Int)) (cI ((ny + 1 : Nat) : Int))) ∧ (∀ k30 n x1 x2 x4 x5 x6, fM_part_h115 k30 (n + 3) t x1 x2 (cI (q : Int)) x4 x5 x6 (cI (x : Int)) (cI (y : Int)) (cI ((3 * dy : Nat) : Int)) = fM_part_h115 k30 n t' x1 x2 (cI (q' : Int)) x4 x5 x6 (cI (x : Int)) (cI (y : Int)) (cI ((3 * dy + 3 : Nat) : Int))) ∧ fr FflC s s' ∧ fr FflM t t' := by
  have D := F.1
  obtain ⟨-, d5, d6, d7, d8, d9⟩ := D
  by_cases z0 : x = 0
  · subst z0
    have m0 := ms_M (dx := 0) F hx hy (by decide) hdy (Or.inl rfl)
    obtain ⟨s1, t1, q1, F1, l1, a1, a2, a3, a4⟩ := px_ok (nx := 0) (dx := 1) F hx hy (by omega) h2 rfl h4 (by decide) hdy
    obtain ⟨s2, t2, q2, F2, l2, b1, b2, b3, b4⟩ := px_ok (nx := 1) (dx := 2) F1 hx hy (by omega) h2 rfl h4 (by decide) hdy
    have e := ne_C (x := 0) (y := y) (nx := 2) (ny := ny) F2 (by decide) (by decide) (by omega) (Or.inl (by decide))
    refine ⟨s2, t2, q2, F2, by omega, fun k8 n => ?_, fun k30 n x1 x2 x4 x5 x6 => ?_, a3.tr b3, a4.tr b4⟩
    · exact (a1 k8 (n + 3)).trans ((b1 k8 (n + 2)).trans (e k8 (n + 1)))
    · exact (m0 k30 (n + 2) x1 x2 _ x4 x5 x6).trans ((a2 k30 (n + 1) x1 x2 x4 x5 x6).trans (b2 k30 n x1 x2 x4 x5 x6))
  · obtain ⟨x', rfl⟩ : ∃ k, x = k + 1 := ⟨x - 1, by omega⟩
    obtain ⟨s1, t1, q1, F1, l1, a1, a2, a3, a4⟩ := px_ok (nx := x') (dx := 0) F hx hy (by omega) h2 rfl h4 (by decide) hdy
    obtain ⟨s2, t2, q2, F2, l2, b1, b2, b3, b4⟩ := px_ok (nx := x' + 1) (dx := 1) F1 hx hy hx h2 rfl h4 (by decide) hdy
    by_cases z1 : x' + 2 < w
    · obtain ⟨s3, t3, q3, F3, l3, c1, c2, c3, c4⟩ := px_ok (nx := x' + 2) (dx := 2) F2 hx hy z1 h2 (by omega) h4 (by decide) hdy
      have e := ne_C (x := x' + 1) (y := y) (nx := x' + 3) (ny := ny) F3 (by omega) (by omega) (by omega) (Or.inl (by omega))
      refine ⟨s3, t3, q3, F3, by omega, fun k8 n => ?_, fun k30 n x1 x2 x4 x5 x6 => ?_, (a3.tr b3).tr c3, (a4.tr b4).tr c4⟩
      · exact (a1 k8 (n + 3)).trans ((b1 k8 (n + 2)).trans ((c1 k8 (n + 1)).trans (e k8 n)))
      · exact (a2 k30 (n + 2) x1 x2 x4 x5 x6).trans ((b2 k30 (n + 1) x1 x2 x4 x5 x6).trans (c2 k30 n x1 x2 x4 x5 x6))
    · have m2 := ms_M (dx := 2) F2 hx hy (by decide) hdy (Or.inr (Or.inl (by omega)))
      have e := ne_C (x := x' + 1) (y := y) (nx := x' + 2) (ny := ny) F2 (by omega) (by omega) (by omega) (Or.inr (by omega))
      refine ⟨s2, t2, q2, F2, by omega, fun k8 n => ?_, fun k30 n x1 x2 x4 x5 x6 => ?_, a3.tr b3, a4.tr b4⟩
      · exact (a1 k8 (n + 3)).trans ((b1 k8 (n + 2)).trans (e k8 (n + 1)))
      · exact (a2 k30 (n + 2) x1 x2 x4 x5 x6).trans ((b2 k30 (n + 1) x1 x2 x4 x5 x6).trans (m2 k30 n x1 x2 _ x4 x5 x6))
/-- a row beside the sheet -/
theorem nm_M {w h f q x y dy : Nat} {s t : ev_M} (F : Flo w h f q s t) (hx : x < w) (hy : y < h) (hdy : dy < 3) (hm : y + dy = 0 ∨ h < y + dy) : ∀ k30 n x1 x2 x3 x4 x5 x6, fM_part_h115 k30 (n + 3) t x1 x2 x3 x4 x5 x6 (cI (x : Int)) (cI (y : Int)) (cI ((3 * dy : Nat) : Int)) = fM_part_h115 k30 n t x1 x2 x3 x4 x5 x6 (cI (x : Int)) (cI (y : Int)) (cI ((3 * dy + 3 : Nat) : Int)) := by
  intro k30 n x1 x2 x3 x4 x5 x6
  exact (ms_M (dx := 0) F hx hy (by decide) hdy (by omega) k30 (n + 2) x1 x2 x3 x4 x5 x6).trans ((ms_M (dx := 1) F hx hy (by decide) hdy (by omega) k30 (n + 1) x1 x2 x3 x4 x5 x6).trans (ms_M (dx := 2) F hx hy (by decide) hdy (by omega) k30 n x1 x2 x3 x4 x5 x6))
/-- all neighbours of a pixel -/
theorem tn_ok {w h f q x y : Nat} {s t : ev_M} (F : Flo w h f q s t) (hx : x < w) (hy : y < h) : ∃ s' t' q', Flo w h f q' s' t' ∧ q ≤ q' ∧ fSheet_takeNeighbours s (cI (x : Int)) (cI (y : Int)) = some s' ∧ (∀ k30 x1 x2 x4 x5 x6, fM_part_h115 k30 1048576 t x1 x2 (cI (q : Int)) x4 x5 x6 (cI (x : Int)) (cI (y : Int)) (cI 0) = k30 t' x1 x2 (cI (q' : Int)) x4 x5 x6) ∧ fr FflC s s' ∧ fr FflM t t' := by
  have D := F.1
  obtain ⟨⟨D1, D2, D3, D4⟩, d5, d6, d7, d8, d9⟩ := D
  have row : ∀ {s1 t1 : ev_M} {q1 ny : Nat}, Flo w h f q1 s1 t1 → ny < h → ny ≤ y + 1 → ∀ n, fSheet_takeNeighbours_h8 (n + 1) s1 (cI (x : Int)) (cI (y : Int)) (cI (ny : Int)) = fSheet_takeNeighbours_h32 (fSheet_takeNeighbours_h8 n) 1048576 s1 (cI (x : Int)) (cI (y : Int)) (cI (ny : Int)) (cI ((x - 1 : Nat) : Int)) := by
    intro s1 t1 q1 ny F1 h1 h2 n
    rw [fSheet_takeNeighbours_h8, if_pos (by rw [q_s (by omega), le_i, q_ti (by omega), q_ti (by omega)]; omega), F1.1.1.2.1, if_pos ((q_lt (by omega) (by omega)).mpr h1), q_max (by omega), bd1_some]
  have stop : ∀ {s1 t1 : ev_M} {q1 ny : Nat}, Flo w h f q1 s1 t1 → ny < 5000 → (y + 1 < ny ∨ h ≤ ny) → ∀ n, fSheet_takeNeighbours_h8 (n + 1) s1 (cI (x : Int)) (cI (y : Int)) (cI (ny : Int)) = some s1 := by
    intro s1 t1 q1 ny F1 h1 h2 n
    rw [fSheet_takeNeighbours_h8]
    by_cases z : cI (ny : Int) ≤ cI (y : Int) + cI 1
    · rw [if_pos z, F1.1.1.2.1, if_neg (by
        rw [q_s (by omega), le_i, q_ti (by omega), q_ti (by omega)] at z
        rw [q_lt (by omega) (by omega)]; omega)]
    · rw [if_neg z]
  have kC : fSheet_takeNeighbours s (cI (x : Int)) (cI (y : Int)) = fSheet_takeNeighbours_h8 1048576 s (cI (x : Int)) (cI (y : Int)) (cI ((y - 1 : Nat) : Int)) := by
    unfold fSheet_takeNeighbours
    rw [q_max (by omega), bd1_some]
  have fin : ∀ {t1 : ev_M} {q1 : Nat} k30 n x1 x2 x4 x5 x6, fM_part_h115 k30 (n + 1) t1 x1 x2 (cI (q1 : Int)) x4 x5 x6 (cI (x : Int)) (cI (y : Int)) (cI ((3 * 2 + 3 : Nat) : Int)) = k30 t1 x1 x2 (cI (q1 : Int)) x4 x5 x6 := by
    intro t1 q1 k30 n x1 x2 x4 x5 x6
    rw [fM_part_h115, if_neg (by decide)]
  by_cases z0 : y = 0
  · subst z0
    have m0 := nm_M (dy := 0) F hx hy (by decide) (Or.inl rfl)
    obtain ⟨s1, t1, q1, F1, l1, a1, a2, a3, a4⟩ := nr_ok (ny := 0) (dy := 1) F hx hy hy rfl (by decide)
    by_cases z1 : 1 < h
    · obtain ⟨s2, t2, q2, F2, l2, b1, b2, b3, b4⟩ := nr_ok (ny := 1) (dy := 2) F1 hx hy z1 rfl (by decide)
      refine ⟨s2, t2, q2, F2, by omega, ?_, fun k30 x1 x2 x4 x5 x6 => ?_, a3.tr b3, a4.tr b4⟩
      · rw [kC]
        exact (row F hy (by omega) 1048575).trans ((a1 _ 1048572).trans ((row F1 z1 (by omega) 1048574).trans ((b1 _ 1048572).trans (stop F2 (by decide) (Or.inl (by decide)) 1048573))))
      · exact (m0 k30 1048573 x1 x2 _ x4 x5 x6).trans ((a2 k30 1048570 x1 x2 x4 x5 x6).trans ((b2 k30 1048567 x1 x2 x4 x5 x6).trans (fin k30 1048566 x1 x2 x4 x5 x6)))
    · have m2 := nm_M (dy := 2) F1 hx hy (by decide) (Or.inr (by omega))
      refine ⟨s1, t1, q1, F1, by omega, ?_, fun k30 x1 x2 x4 x5 x6 => ?_, a3, a4⟩
      · rw [kC]
        exact (row F hy (by omega) 1048575).trans ((a1 _ 1048572).trans (stop F1 (by decide) (Or.inr (by omega)) 1048574))
      · exact (m0 k30 1048573 x1 x2 _ x4 x5 x6).trans ((a2 k30 1048570 x1 x2 x4 x5 x6).trans ((m2 k30 1048567 x1 x2 _ x4 x5 x6).trans (fin k30 1048566 x1 x2 x4 x5 x6)))
  · obtain ⟨y', rfl⟩ : ∃ k, y = k + 1 := ⟨y - 1, by omega⟩
    obtain ⟨s1, t1, q1, F1, l1, a1, a2, a3, a4⟩ := nr_ok (ny := y') (dy := 0) F hx hy (by omega) rfl (by decide)
    obtain ⟨s2, t2, q2, F2, l2, b1, b2, b3, b4⟩ := nr_ok (ny := y' + 1) (dy := 1) F1 hx hy hy rfl (by decide)
    by_cases z1 : y' + 2 < h
    · obtain ⟨s3, t3, q3, F3, l3, c1, c2, c3, c4⟩ := nr_ok (ny := y' + 2) (dy := 2) F2 hx hy z1 (by omega) (by decide)
      refine ⟨s3, t3, q3, F3, by omega, ?_, fun k30 x1 x2 x4 x5 x6 => ?_, (a3.tr b3).tr c3, (a4.tr b4).tr c4⟩
      · rw [kC]
        exact (row F (show y' < h by omega) (by omega) 1048575).trans ((a1 _ 1048572).trans ((row F1 hy (by omega) 1048574).trans ((b1 _ 1048572).trans ((row F2 z1 (by omega) 1048573).trans ((c1 _ 1048572).trans (stop F3 (by omega) (Or.inl (by omega)) 1048572))))))
      · exact (a2 k30 1048573 x1 x2 x4 x5 x6).trans ((b2 k30 1048570 x1 x2 x4 x5 x6).trans ((c2 k30 1048567 x1 x2 x4 x5 x6).trans (fin k30 1048566 x1 x2 x4 x5 x6)))
    · have m2 := nm_M (dy := 2) F2 hx hy (by decide) (Or.inr (by omega))
      refine ⟨s2, t2, q2, F2, by omega, ?_, fun k30 x1 x2 x4 x5 x6 => ?_, a3.tr b3, a4.tr b4⟩
      · rw [kC]
        exact (row F (show y' < h by omega) (by omega) 1048575).trans ((a1 _ 1048572).trans ((row F1 hy (by omega) 1048574).trans ((b1 _ 1048572).trans (stop F2 (by omega) (Or.inr (by omega)) 1048573))))
      · exact (a2 k30 1048573 x1 x2 x4 x5 x6).trans ((b2 k30 1048570 x1 x2 x4 x5 x6).trans ((m2 k30 1048567 x1 x2 _ x4 x5 x6).trans (fin k30 1048566 x1 x2 x4 x5 x6)))
