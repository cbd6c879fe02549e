/-! ===== LEVEL 3: the sheet: the cells of a part ===== -/
theorem q_sb {a b : Nat} (h : b ≤ a) (ha : a < 100000) : cI (a : Int) - cI (b : Int) = cI ((a - b : Nat) : Int) := by
  rw [eq_i, sub_b (by rw [q_ti ha, q_ti (by omega)]; omega) (by rw [q_ti ha, q_ti (by omega)]; omega), q_ti ha, q_ti (by omega), q_ti (by omega)]; omega
theorem q_ad {a b : Nat} (h : a + b < 100000) : cI (a : Int) + cI (b : Int) = cI ((a + b : Nat) : Int) := by
  rw [eq_i, add_b (by rw [q_ti (by omega), q_ti (by omega)]; omega) (by rw [q_ti (by omega), q_ti (by omega)]; omega), q_ti (by omega), q_ti (by omega), q_ti (by omega)]; omega
theorem q_dv {l x c k : Nat} (hx : x ≤ 5) (hc : c < 5000) (hl : l < 5000) (hk : 0 < k) (hk2 : k < 100) : cI (l : Int) + cI (x : Int) * cI (c : Int) / cI (k : Int) = cI ((l + x * c / k : Nat) : Int) := by
  have h1 : x * c ≤ 5 * c := Nat.mul_le_mul_right c hx
  have h2 : x * c / k ≤ x * c := Nat.div_le_self _ _
  rw [q_mul0 (by omega) hc (by omega), q_div (by omega) hk (by omega), q_ad (by omega)]
theorem x_le {x c k : Nat} (h : x ≤ k) (hk : 0 < k) : x * c / k ≤ c := Nat.div_le_of_le_mul (Nat.mul_le_mul_right c h)
theorem x_mo {x c k : Nat} : x * c / k ≤ (x + 1) * c / k := Nat.div_le_div_right (Nat.mul_le_mul_right c (Nat.le_succ x))
/-- ink in a row, in a block -/
def cR (f : Nat → Int32) (w y : Nat) : Nat → Nat → Nat
  | _, 0 => 0
  | x, n + 1 => (if f (y * w + x) = 0 then 0 else 1) + cR f w y (x + 1) n
def cB (f : Nat → Int32) (w x n : Nat) : Nat → Nat → Nat
  | _, 0 => 0
  | y, r + 1 => cR f w y x n + cB f w x n (y + 1) r
theorem cR_le {f : Nat → Int32} {w y : Nat} : ∀ n x, cR f w y x n ≤ n
  | 0, _ => Nat.le_refl _
  | n + 1, x => by
    have := cR_le (f := f) (w := w) (y := y) n (x + 1)
    simp only [cR]
    split <;> omega
theorem cB_le {f : Nat → Int32} {w x n : Nat} : ∀ r y, cB f w x n y r ≤ n * r
  | 0, _ => Nat.le_refl _
  | r + 1, y => by
    have h1 := cB_le (f := f) (w := w) (x := x) (n := n) r (y + 1)
    have h2 := cR_le (f := f) (w := w) (y := y) n x
    simp only [cB]
    rw [Nat.mul_add, Nat.mul_one]
    omega
theorem yw_lt {w h y x : Nat} (hy : y < h) (hx : x < w) : y * w + x < w * h := by
  have h1 : (y + 1) * w ≤ h * w := Nat.mul_le_mul_right w hy
  rw [Nat.add_mul, Nat.one_mul, Nat.mul_comm h w] at h1
  omega
theorem cR_cg {w h y : Nat} {s t : ev_M} (I : Ink (w * h) s t) (hy : y < h) : ∀ n x, x + n ≤ w → cR (t.1 649) w y x n = cR (s.1 53) w y x n
  | 0, _, _ => rfl
  | n + 1, x, hx => by
    have h1 := cR_cg I hy n (x + 1) (by omega)
    have h2 := I (y * w + x) (yw_lt hy (by omega))
    simp only [cR]
    rw [h1]
    by_cases z : s.1 53 (y * w + x) = 0
    · rw [if_pos z, if_pos (h2.mp z)]
    · rw [if_neg z, if_neg (fun u => z (h2.mpr u))]
theorem cB_cg {w h x n : Nat} {s t : ev_M} (I : Ink (w * h) s t) (hx : x + n ≤ w) : ∀ r y, y + r ≤ h → cB (t.1 649) w x n y r = cB (s.1 53) w x n y r
  | 0, _, _ => rfl
  | r + 1, y, hy => by
    have h1 := cB_cg I hx r (y + 1) (by omega)
    simp only [cB]
    rw [h1, cR_cg I (by omega) n x hx]
def bN (A N : Nat) : Int32 := if A = 0 then cI 0 else if 2 * N < A then cI 0 else cI 1
theorem ii_in {w h y : Nat} {s : ev_M} {k6 : Int32 → Int32 → Int32 → Int32 → Int32 → Int32 → Option Int32} {a1 a3 a4 : Int32} (d1 : s.1 52 4 = cI (w : Int)) (hw : w ≤ 128) (hwh : w * h ≤ 4096) (hh : h ≤ 4096) (hy : y < h) : ∀ (n m x k : Nat), x + n ≤ w → n < m → k + n < 90000 → fSheet_isInk_h16 s k6 m a1 (cI ((x + n : Nat) : Int)) a3 a4 (cI (k : Int)) (cI (y : Int)) (cI (x : Int)) = k6 a1 (cI ((x + n : Nat) : Int)) a3 a4 (cI ((k + cR (s.1 53) w y x n : Nat) : Int)) (cI ((y + 1 : Nat) : Int))
  | 0, m, x, k, hx, hm, hk => by
    obtain ⟨m, rfl⟩ : ∃ k, m = k + 1 := ⟨m - 1, by omega⟩
    rw [fSheet_isInk_h16, if_neg (by rw [q_lt (by omega) (by omega)]; omega), q_s (by omega)]
    rfl
  | n + 1, m, x, k, hx, hm, hk => by
    obtain ⟨m, rfl⟩ : ∃ k, m = k + 1 := ⟨m - 1, by omega⟩
    have yl := yw_lt hy (show x < w by omega)
    have e : cI (y : Int) * cI (w : Int) + cI (x : Int) = cI ((y * w + x : Nat) : Int) := q_mul (by omega) (by omega) (by omega)
    have ih := fun k hk => ii_in (k6 := k6) (a1 := a1) (a3 := a3) (a4 := a4) d1 hw hwh hh hy n m (x + 1) k (by omega) (by omega) hk
    rw [show x + 1 + n = x + (n + 1) by omega] at ih
    rw [fSheet_isInk_h16, if_pos ((q_lt (by omega) (by omega)).mpr (by omega)), d1, e, if_pos (q_in (by omega) (by decide)), q_ix (by omega)]
    unfold fSheet_isInk_b43
    simp only [cR]
    by_cases z : s.1 53 (y * w + x) = 0
    · rw [if_pos z, if_pos z, q_s (by omega), ih k (by omega), Nat.zero_add]
    · rw [if_neg z, if_neg z, q_s (show x < 99999 by omega), q_s (show k < 99999 by omega), ih (k + 1) (by omega), Nat.add_assoc]
theorem ii_ou {w h X n Y0 Y2 : Nat} {s : ev_M} (d1 : s.1 52 4 = cI (w : Int)) (hw : w ≤ 128) (hwh : w * h ≤ 4096) (hh : h ≤ 4096) (hX : X + n ≤ w) (h0 : Y0 ≤ Y2) (h2 : Y2 ≤ h) : ∀ (r m y k : Nat), y + r = Y2 → r < m → k + n * r ≤ n * (Y2 - Y0) → fSheet_isInk_h6 s m (cI (X : Int)) (cI ((X + n : Nat) : Int)) (cI (Y0 : Int)) (cI (Y2 : Int)) (cI (k : Int)) (cI (y : Int)) = some (bN (n * (Y2 - Y0)) (k + cB (s.1 53) w X n y r))
  | 0, m, y, k, hy, hm, hk => by
    obtain ⟨m, rfl⟩ : ∃ k, m = k + 1 := ⟨m - 1, by omega⟩
    have a1 : n * (Y2 - Y0) ≤ w * h := Nat.mul_le_mul (by omega) (by omega)
    have c0 : cB (s.1 53) w X n y 0 = 0 := rfl
    obtain ⟨A, eA⟩ : ∃ A, A = n * (Y2 - Y0) := ⟨_, rfl⟩
    have e1 : (cI ((X + n : Nat) : Int) - cI (X : Int)) * (cI (Y2 : Int) - cI (Y0 : Int)) = cI (A : Int) := by
      rw [q_sb (by omega) (by omega), q_sb h0 (by omega), Nat.add_sub_cancel_left, q_mul0 (by omega) (by omega) (by omega), eA]
    have e2 : cI 2 * cI (k : Int) = cI ((2 * k : Nat) : Int) := q_mul0 (a := 2) (by decide) (by omega) (by omega)
    rw [fSheet_isInk_h6, if_neg (by rw [q_lt (by omega) (by omega)]; omega), ltI_eq, e1, e2, ← eA, c0, Nat.add_zero]
    unfold bN
    by_cases z : A = 0
    · rw [if_pos z, if_pos (by rw [le_i, q_ti (by omega), i32_0]; omega)]
    · rw [if_neg z, if_neg (by rw [le_i, q_ti (by omega), i32_0]; omega)]
      by_cases z2 : 2 * k < A
      · rw [if_pos z2, if_pos ((q_lt (by omega) (by omega)).mpr z2)]
      · rw [if_neg z2, if_neg (fun u => z2 ((q_lt (by omega) (by omega)).mp u))]
  | r + 1, m, y, k, hy, hm, hk => by
    obtain ⟨m, rfl⟩ : ∃ k, m = k + 1 := ⟨m - 1, by omega⟩
    have a1 : n * (Y2 - Y0) ≤ w * h := Nat.mul_le_mul (by omega) (by omega)
    rw [Nat.mul_add, Nat.mul_one] at hk
    have c1 := cR_le (f := s.1 53) (w := w) (y := y) n X
    have ih := ii_ou (w := w) (h := h) (X := X) (n := n) (Y0 := Y0) d1 hw hwh hh hX h0 h2 r m (y + 1) (k + cR (s.1 53) w y X n) (by omega) (by omega) (by omega)
    rw [fSheet_isInk_h6, if_pos ((q_lt (by omega) (by omega)).mpr (by omega))]
    refine (ii_in (k6 := fSheet_isInk_h6 s m) d1 hw hwh hh (show y < h by omega) n 1048576 X k hX (by omega) (by omega)).trans ?_
    rw [ih]
    simp only [cB]
    rw [Nat.add_assoc]
/-- the bit of a cell -/
def bt (f : Nat → Int32) (w l tp c d y x : Nat) : Int32 := bN (((l + (x + 1) * c / 3) - (l + x * c / 3)) * ((tp + (y + 1) * d / 5) - (tp + y * d / 5))) (cB f w (l + x * c / 3) ((l + (x + 1) * c / 3) - (l + x * c / 3)) (tp + y * d / 5) ((tp + (y + 1) * d / 5) - (tp + y * d / 5)))
theorem e_ink {w h l tp c d y x : Nat} {s : ev_M} (d1 : s.1 52 4 = cI (w : Int)) (hw : w ≤ 128) (hwh : w * h ≤ 4096) (hh : h ≤ 4096) (hl : l + c ≤ w) (ht : tp + d ≤ h) (hx : x < 3) (hy : y < 5) : fSheet_isInk s (cI ((l + x * c / 3 : Nat) : Int)) (cI ((l + (x + 1) * c / 3 : Nat) : Int)) (cI ((tp + y * d / 5 : Nat) : Int)) (cI ((tp + (y + 1) * d / 5 : Nat) : Int)) = some (bt (s.1 53) w l tp c d y x) := by
  have m1 := x_mo (x := x) (c := c) (k := 3)
  have m2 := x_le (x := x + 1) (c := c) (k := 3) (by omega) (by decide)
  have m3 := x_mo (x := y) (c := d) (k := 5)
  have m4 := x_le (x := y + 1) (c := d) (k := 5) (by omega) (by decide)
  have := ii_ou (w := w) (h := h) (X := l + x * c / 3) (n := (l + (x + 1) * c / 3) - (l + x * c / 3)) (Y0 := tp + y * d / 5) (Y2 := tp + (y + 1) * d / 5) d1 hw hwh hh (by omega) (by omega) (by omega) ((tp + (y + 1) * d / 5) - (tp + y * d / 5)) 1048576 (tp + y * d / 5) 0 (by omega) (by omega) (by omega)
  rw [show l + x * c / 3 + ((l + (x + 1) * c / 3) - (l + x * c / 3)) = l + (x + 1) * c / 3 by omega, Nat.zero_add] at this
  unfold fSheet_isInk bt
  exact this
/-- the cells so far -/
def vN (b : Nat → Nat → Int32) : Nat → Int32
  | 0 => cI 0
  | z + 1 => (vN b z <<< ((cI 1) &&& 31)) ||| b (z / 3) (z % 3)
theorem sh_lt {v b : Int32} {k : Nat} (hv : v.toBitVec.toNat < 2 ^ k) (hk : k < 31) (hb : b = cI 0 ∨ b = cI 1) : ((v <<< ((cI 1) &&& 31)) ||| b).toBitVec.toNat < 2 ^ (k + 1) := by
  have e : ((cI 1) &&& 31 : Int32) = cI 1 := by decide
  have b2 : b.toBitVec.toNat < 2 ^ (k + 1) := by
    have : 2 ^ 1 ≤ 2 ^ (k + 1) := Nat.pow_le_pow_right (by decide) (by omega)
    have : b.toBitVec.toNat < 2 := by
      rcases hb with u | u <;> rw [u] <;> decide
    omega
  have e1 : (v <<< cI 1).toBitVec = v.toBitVec <<< 1 := by
    rw [Int32.toBitVec_shiftLeft]
    rfl
  have h2 : (v <<< cI 1).toBitVec.toNat < 2 ^ (k + 1) := by
    rw [e1, BitVec.toNat_shiftLeft, Nat.shiftLeft_eq]
    refine Nat.lt_of_le_of_lt (Nat.mod_le _ _) ?_
    rw [Nat.pow_succ]
    omega
  rw [e, Int32.toBitVec_or, BitVec.toNat_or]
  exact Nat.or_lt_two_pow h2 b2
theorem bt_01 {f : Nat → Int32} {w l tp c d y x : Nat} : bt f w l tp c d y x = cI 0 ∨ bt f w l tp c d y x = cI 1 := by
  unfold bt bN
  split
  · exact Or.inl rfl
  · split
    · exact Or.inl rfl
    · exact Or.inr rfl
theorem vN_lt {b : Nat → Nat → Int32} (hb : ∀ y x, b y x = cI 0 ∨ b y x = cI 1) : ∀ z, z ≤ 15 → (vN b z).toBitVec.toNat < 2 ^ z
  | 0, _ => show (cI 0).toBitVec.toNat < 2 ^ 0 by decide
  | z + 1, h => sh_lt (vN_lt hb z (by omega)) (by omega) (hb _ _)
theorem cc_in {w h n a y l tp c d : Nat} {s : ev_M} {k4 : Int32 → Int32 → Int32 → Option Int32} (d1 : s.1 52 4 = cI (w : Int)) (hw : w ≤ 128) (hwh : w * h ≤ 4096) (hh : h ≤ 4096) (hl : l + c ≤ w) (ht : tp + d ≤ h) (hy : y < 5) (ha : a < 200) (e0 : s.1 56 a = cI (l : Int)) (e2 : s.1 58 a = cI (c : Int)) : ∀ (r m x : Nat), x + r = 3 → r < m → fSheet_cellsOf_h60 s k4 m (cI (a : Int)) (vN (bt (s.1 53) w l tp c d) (3 * y + x)) (cI (y : Int)) (cI ((tp + y * d / 5 : Nat) : Int)) (cI ((tp + (y + 1) * d / 5 : Nat) : Int)) (cI (x : Int)) = k4 (cI (a : Int)) (vN (bt (s.1 53) w l tp c d) (3 * y + 3)) (cI ((y + 1 : Nat) : Int))
  | 0, m, x, hx, hm => by
    obtain ⟨m, rfl⟩ : ∃ k, m = k + 1 := ⟨m - 1, by omega⟩
    have e : x = 3 := by omega
    subst e
    rw [fSheet_cellsOf_h60, if_neg (by decide), q_s (by omega)]
  | r + 1, m, x, hx, hm => by
    obtain ⟨m, rfl⟩ : ∃ k, m = k + 1 := ⟨m - 1, by omega⟩
    have ab : inb (cI (a : Int)) 200 = true := q_in (by omega) (by decide)
    have ax : ix (cI (a : Int)) = a := q_ix (by omega)
    have ih := cc_in (k4 := k4) (n := n) d1 hw hwh hh hl ht hy ha e0 e2 r m (x + 1) (by omega) (by omega)
    have q1 : cI (l : Int) + cI (x : Int) * cI (c : Int) / cI 3 = cI ((l + x * c / 3 : Nat) : Int) := q_dv (k := 3) (by omega) (by omega) (by omega) (by decide) (by decide)
    have q2 : cI (l : Int) + cI ((x + 1 : Nat) : Int) * cI (c : Int) / cI 3 = cI ((l + (x + 1) * c / 3 : Nat) : Int) := q_dv (k := 3) (by omega) (by omega) (by omega) (by decide) (by decide)
    have v1 : vN (bt (s.1 53) w l tp c d) (3 * y + (x + 1)) = (vN (bt (s.1 53) w l tp c d) (3 * y + x) <<< ((cI 1) &&& 31)) ||| bt (s.1 53) w l tp c d y x := by
      show (vN (bt (s.1 53) w l tp c d) (3 * y + x) <<< ((cI 1) &&& 31)) ||| bt (s.1 53) w l tp c d ((3 * y + x) / 3) ((3 * y + x) % 3) = _
      rw [show (3 * y + x) / 3 = y by omega, show (3 * y + x) % 3 = x by omega]
    have n3 : ¬ cI 3 = 0 := by decide
    rw [fSheet_cellsOf_h60, if_pos (by rw [lt_i, q_ti (by omega), show (cI 3).toInt = 3 from rfl]; omega), if_pos ab, if_pos ab, if_neg n3, ltI_eq, if_pos ab, if_pos ab, if_neg n3, ltI_eq, ax, ix_0, show 56 + ix (cI 2) = 58 from rfl, show 56 + 0 = 56 from rfl, e0, e2, q_s (by omega), q1, q2, e_ink d1 hw hwh hh hl ht (by omega) hy, bd1_some]
    unfold fSheet_cellsOf_b139
    rw [q_s (by omega), ← ih, v1]
    rcases bt_01 (f := s.1 53) (w := w) (l := l) (tp := tp) (c := c) (d := d) (y := y) (x := x) with u | u
    · rw [u, if_pos (show cI 0 = 0 from rfl), ltI_eq]
    · rw [u, if_neg (show ¬ cI 1 = 0 by decide), ltI_eq]
theorem cc_ou {w h a l tp c d : Nat} {s : ev_M} (d1 : s.1 52 4 = cI (w : Int)) (hw : w ≤ 128) (hwh : w * h ≤ 4096) (hh : h ≤ 4096) (hl : l + c ≤ w) (ht : tp + d ≤ h) (ha : a < 200) (e0 : s.1 56 a = cI (l : Int)) (e1 : s.1 57 a = cI (tp : Int)) (e2 : s.1 58 a = cI (c : Int)) (e3 : s.1 59 a = cI (d : Int)) : ∀ (r m y : Nat), y + r = 5 → r < m → fSheet_cellsOf_h4 s m (cI (a : Int)) (vN (bt (s.1 53) w l tp c d) (3 * y)) (cI (y : Int)) = some (vN (bt (s.1 53) w l tp c d) 15)
  | 0, m, y, hy, hm => by
    obtain ⟨m, rfl⟩ : ∃ k, m = k + 1 := ⟨m - 1, by omega⟩
    have e : y = 5 := by omega
    subst e
    rw [fSheet_cellsOf_h4, if_neg (by decide)]
  | r + 1, m, y, hy, hm => by
    obtain ⟨m, rfl⟩ : ∃ k, m = k + 1 := ⟨m - 1, by omega⟩
    have ab : inb (cI (a : Int)) 200 = true := q_in (by omega) (by decide)
    have ax : ix (cI (a : Int)) = a := q_ix (by omega)
    have ih := cc_ou d1 hw hwh hh hl ht ha e0 e1 e2 e3 r m (y + 1) (by omega) (by omega)
    have q1 : cI (tp : Int) + cI (y : Int) * cI (d : Int) / cI 5 = cI ((tp + y * d / 5 : Nat) : Int) := q_dv (k := 5) (by omega) (by omega) (by omega) (by decide) (by decide)
    have q2 : cI (tp : Int) + cI ((y + 1 : Nat) : Int) * cI (d : Int) / cI 5 = cI ((tp + (y + 1) * d / 5 : Nat) : Int) := q_dv (k := 5) (by omega) (by omega) (by omega) (by decide) (by decide)
    have n5 : ¬ cI 5 = 0 := by decide
    have cc := cc_in (n := 0) (k4 := fSheet_cellsOf_h4 s m) d1 hw hwh hh hl ht (show y < 5 by omega) ha e0 e2 3 1048576 0 (by omega) (by omega)
    rw [fSheet_cellsOf_h4, if_pos (by rw [lt_i, q_ti (by omega), show (cI 5).toInt = 5 from rfl]; omega), if_pos ab, if_pos ab, if_neg n5, ltI_eq, if_pos ab, if_pos ab, if_neg n5, ltI_eq, ax, show 56 + ix (cI 1) = 57 from rfl, show 56 + ix (cI 3) = 59 from rfl, e1, e3, q_s (by omega), q1, q2]
    refine cc.trans ?_
    exact ih
