/-! ===== LEVEL 3: the act clerk ===== -/
def pc (a0 : Int32) : Int32 :=
  let v1 := a0 - ((iushr a0 (cI 1)) &&& (cI 1431655765))
  let v2 := (v1 &&& (cI 858993459)) + ((iushr v1 (cI 2)) &&& (cI 858993459))
  let v3 := (v2 + (iushr v2 (cI 4))) &&& (cI 252645135)
  let v4 := v3 + (iushr v3 (cI 8))
  let v5 := v4 + (iushr v4 (cI 16))
  v5 &&& (cI 63)
theorem e_pc {s : ev_M} {x : Int32} : fInt_bitCount s x = some (pc x) := rfl
theorem msk_0 {a b c : Int32} : msk 0 a b c = msk 0 0 0 0 := rfl
theorem msk_1 {a b c : Int32} : msk 1 a b c = msk 1 a 0 0 := rfl
theorem msk_2 {a b c : Int32} : msk 2 a b c = msk 2 a b 0 := rfl
def clk0 (w : Nat) : Bool := let W := cI (w : Int); decide ((msk 0 0 0 0 >>> (W &&& 31)) &&& cI 1 = 0) && decide (pc (msk 0 0 0 0) = cI 0) && decide (msk 0 0 0 0 ||| (cI 1 <<< (W &&& 31)) = msk 1 W 0 0)
def clk1 (a w : Nat) : Bool := let X := cI (a : Int); let W := cI (w : Int); decide (((msk 1 X 0 0 >>> (W &&& 31)) &&& cI 1 = 0) ↔ ¬ X = W) && decide (pc (msk 1 X 0 0) = cI 1) && decide (¬ X = W → msk 1 X 0 0 ||| (cI 1 <<< (W &&& 31)) = msk 2 X W 0)
def clk2 (a b w : Nat) : Bool := let X := cI (a : Int); let Y := cI (b : Int); let W := cI (w : Int); decide (((msk 2 X Y 0 >>> (W &&& 31)) &&& cI 1 = 0) ↔ (¬ X = W ∧ ¬ Y = W)) && decide (¬ X = Y → pc (msk 2 X Y 0) = cI 2) && decide (¬ X = W ∧ ¬ Y = W → msk 2 X Y 0 ||| (cI 1 <<< (W &&& 31)) = msk 3 X Y W)
theorem clk0_all : ((List.range 10).all fun w => clk0 w) = true := by decide +kernel
theorem clk1_all : ((List.range 10).all fun a => (List.range 10).all fun w => clk1 a w) = true := by decide +kernel
theorem clk2_all : ((List.range 10).all fun a => (List.range 10).all fun b => (List.range 10).all fun w => clk2 a b w) = true := by decide +kernel
/-- the bits of the clerks that told, and one more -/
theorem clk_f {m : Nat} {a b c w : Int32} (hm : m ≤ 2) (ha : 0 < m → 0 ≤ a.toInt ∧ a.toInt ≤ 9) (hb : 1 < m → 0 ≤ b.toInt ∧ b.toInt ≤ 9) (hd : 1 < m → a ≠ b) (hw : 0 ≤ w.toInt ∧ w.toInt ≤ 9) : (((msk m a b c >>> (w &&& 31)) &&& cI 1 = 0) ↔ (0 < m → ¬ a = w) ∧ (1 < m → ¬ b = w)) ∧ pc (msk m a b c) = cI (m : Int) ∧ ((0 < m → ¬ a = w) ∧ (1 < m → ¬ b = w) → msk m a b c ||| (cI 1 <<< (w &&& 31)) = msk (m + 1) (if m = 0 then w else a) (if m = 1 then w else b) (if m = 2 then w else c)) := by
  have iw : ix w < 10 := by rw [ix_toNat]; omega
  rcases (by omega : m = 0 ∨ m = 1 ∨ m = 2) with rfl | rfl | rfl
  · have q : clk0 (ix w) = true := List.all_eq_true.mp clk0_all (ix w) (List.mem_range.mpr iw)
    unfold clk0 at q
    rw [cI_ix hw.1] at q
    simp only [Bool.and_eq_true, decide_eq_true_eq] at q
    rw [msk_0]
    refine ⟨⟨fun _ => ⟨fun h => absurd h (by decide), fun h => absurd h (by decide)⟩, fun _ => q.1.1⟩, q.1.2, fun _ => ?_⟩
    rw [if_pos rfl, msk_1]
    exact q.2
  · obtain ⟨a1, a2⟩ := ha (by decide)
    have ia : ix a < 10 := by rw [ix_toNat]; omega
    have q : clk1 (ix a) (ix w) = true := List.all_eq_true.mp (List.all_eq_true.mp clk1_all (ix a) (List.mem_range.mpr ia)) (ix w) (List.mem_range.mpr iw)
    unfold clk1 at q
    rw [cI_ix hw.1, cI_ix a1] at q
    simp only [Bool.and_eq_true, decide_eq_true_eq] at q
    rw [msk_1]
    refine ⟨⟨fun h => ⟨fun _ => q.1.1.mp h, fun h => absurd h (by decide)⟩, fun h => q.1.1.mpr (h.1 (by decide))⟩, q.1.2, fun h => ?_⟩
    rw [if_neg (by decide), if_pos rfl, msk_2]
    exact q.2 (h.1 (by decide))
  · obtain ⟨a1, a2⟩ := ha (by decide)
    obtain ⟨b1, b2⟩ := hb (by decide)
    have ia : ix a < 10 := by rw [ix_toNat]; omega
    have ib : ix b < 10 := by rw [ix_toNat]; omega
    have q : clk2 (ix a) (ix b) (ix w) = true := List.all_eq_true.mp (List.all_eq_true.mp (List.all_eq_true.mp clk2_all (ix a) (List.mem_range.mpr ia)) (ix b) (List.mem_range.mpr ib)) (ix w) (List.mem_range.mpr iw)
    unfold clk2 at q
    rw [cI_ix hw.1, cI_ix a1, cI_ix b1] at q
    simp only [Bool.and_eq_true, decide_eq_true_eq] at q
    rw [msk_2]
    refine ⟨⟨fun h => ⟨fun _ => (q.1.1.mp h).1, fun _ => (q.1.1.mp h).2⟩, fun h => q.1.1.mpr ⟨h.1 (by decide), h.2 (by decide)⟩⟩, q.1.2 (hd (by decide)), fun h => ?_⟩
    rw [if_neg (by decide), if_neg (by decide), if_pos rfl]
    exact q.2 ⟨h.1 (by decide), h.2 (by decide)⟩
/-- the walk through what clerks told -/
theorem clk_lp {t : ev_M} {i w p e : Int32} (hb : inb i 300 = true) (he : cI 3 * i + t.1 604 (ix i) = e) (e9 : e.toInt ≤ 900) : ∀ (r n : Nat) (x4 x5 j : Int32), 0 ≤ j.toInt → j.toInt + r = e.toInt → r < n → ∃ n' T S, fM_doClerk_h56 n t i w p x4 x5 j = fM_doClerk_h56 (n' + 1) t i w p T S e ∧ (T = 0 ↔ x4 = 0 ∧ ∀ q, ix j ≤ q → q < ix e → ¬ t.1 605 q = w) ∧ (S = 0 ↔ x5 = 0 ∧ ∀ q, ix j ≤ q → q < ix e → ¬ t.1 606 q = p)
  | 0, n, x4, x5, j, h0, h1, hn => by
    obtain ⟨n, rfl⟩ : ∃ k, n = k + 1 := ⟨n - 1, by omega⟩
    have je : j = e := by rw [eq_i]; omega
    subst je
    exact ⟨n, x4, x5, rfl, ⟨fun h => ⟨h, fun q a b => absurd b (by omega)⟩, fun h => h.1⟩, ⟨fun h => ⟨h, fun q a b => absurd b (by omega)⟩, fun h => h.1⟩⟩
  | r + 1, n, x4, x5, j, h0, h1, hn => by
    obtain ⟨n, rfl⟩ : ∃ k, n = k + 1 := ⟨n - 1, by omega⟩
    have hj : j < e := by rw [lt_i]; omega
    have hi : inb j 900 = true := inb_iff.mpr ⟨h0, by omega⟩
    have ei : ix (j + cI 1) = ix j + 1 := ix_inc h0 (by omega)
    have et : (j + cI 1).toInt = j.toInt + 1 := inc_i (by omega)
    have je : ix j < ix e := by rw [ix_toNat, ix_toNat]; omega
    have z0 : (cI 0 = (0 : Int32)) = True := eq_true rfl
    have z1 : (cI 1 = (0 : Int32)) = False := eq_false (by decide)
    have st : fM_doClerk_h56 (n + 1) t i w p x4 x5 j = fM_doClerk_h56 n t i w p (if x4 = 0 then (if t.1 605 (ix j) = w then cI 1 else cI 0) else cI 1) (if x5 = 0 then (if t.1 606 (ix j) = p then cI 1 else cI 0) else cI 1) (j + cI 1) := by
      rw [fM_doClerk_h56]
      rcases Classical.propComplete (x4 = 0) with a1 | a1 <;> rcases Classical.propComplete (t.1 605 (ix j) = w) with a2 | a2 <;> rcases Classical.propComplete (x5 = 0) with a3 | a3 <;> rcases Classical.propComplete (t.1 606 (ix j) = p) with a4 | a4 <;> simp only [fM_doClerk_b87, fM_doClerk_b92, fM_doClerk_b110, fM_doClerk_b115, hb, he, eq_true hj, hi, if_true, if_false, a1, a2, a3, a4, z1]
    obtain ⟨n', T, S, y1, y2, y3⟩ := clk_lp hb he e9 r n (if x4 = 0 then (if t.1 605 (ix j) = w then cI 1 else cI 0) else cI 1) (if x5 = 0 then (if t.1 606 (ix j) = p then cI 1 else cI 0) else cI 1) (j + cI 1) (by omega) (by omega) (by omega)
    rw [ei] at y2 y3
    have f : ∀ (x v u : Int32), ((if x = 0 then (if v = u then cI 1 else cI 0) else cI 1) = 0) ↔ x = 0 ∧ ¬ v = u := fun x v u => by
      by_cases a : x = 0
      · by_cases b : v = u
        · rw [if_pos a, if_pos b]; exact ⟨fun h => absurd h (by decide), fun h => absurd b h.2⟩
        · rw [if_pos a, if_neg b]; exact ⟨fun _ => ⟨a, b⟩, fun _ => rfl⟩
      · rw [if_neg a]; exact ⟨fun h => absurd h (by decide), fun h => absurd h.1 a⟩
    have g : ∀ (h : Nat → Int32) (x u : Int32), ((x = 0 ∧ ¬ h (ix j) = u) ∧ ∀ q, ix j + 1 ≤ q → q < ix e → ¬ h q = u) ↔ (x = 0 ∧ ∀ q, ix j ≤ q → q < ix e → ¬ h q = u) := fun h x u => by
      constructor
      · rintro ⟨⟨a, b⟩, c⟩
        refine ⟨a, fun q q1 q2 => ?_⟩
        by_cases z : q = ix j
        · rw [z]; exact b
        · exact c q (by omega) q2
      · rintro ⟨a, c⟩
        exact ⟨⟨a, c _ (Nat.le_refl _) je⟩, fun q q1 q2 => c q (by omega) q2⟩
    exact ⟨n', T, S, st.trans y1, by rw [y2, f, g], by rw [y3, f, g]⟩
