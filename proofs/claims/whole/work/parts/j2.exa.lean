/-! ===== LEVEL 3: the reference's least way ===== -/
theorem k_8 : ∀ m : Nat, m < 256 → ∀ k : Nat, k < 8 → cI 8 * cI (m : Int) + cI (k : Int) = cI ((8 * m + k : Nat) : Int) := by decide +kernel
theorem k_8i {j : Nat} (h : j < 2048) : inb (cI (j : Int)) 2048 = true ∧ ix (cI (j : Int)) = j := ⟨inb_iff.mpr ⟨by rw [cI_toInt (by omega) (by omega)]; omega, by rw [cI_toInt (by omega) (by omega)]; omega⟩, by rw [ix_cI (by omega) (by omega)]; omega⟩
theorem bit_t : ∀ n : Nat, n < 9 → ∀ k : Nat, k < n → 2 ^ k ≤ 2 ^ n - 1 ∧ (2 ^ n - 1).testBit k = true := by decide +kernel
theorem bit_le : ∀ n : Nat, n < 9 → ∀ m : Nat, m < 2 ^ n → ∀ k : Nat, k < n → m.testBit k = true → 2 ^ k ≤ m := by decide +kernel
/-- the ways between the places of the reference's list -/
def Fg (t : ev_M) (n : Nat) (d : Nat → Nat → Int32) : Prop := ∀ i j, i ≤ n → j ≤ n → fM_far t (cI (i : Int)) (cI (j : Int)) = some (d i j)
theorem far_cg {t t' : ev_M} {i j : Int32} (h1 : t'.1 665 = t.1 665) (h2 : t'.1 666 = t.1 666) : fM_far t' i j = fM_far t i j := by
  simp only [fM_far, fM_size, h1, h2]
theorem Fg.cg {t t' : ev_M} {n : Nat} {d : Nat → Nat → Int32} (h : Fg t n d) (h1 : t'.1 665 = t.1 665) (h2 : t'.1 666 = t.1 666) : Fg t' n d := fun i j hi hj => by rw [far_cg h1 h2]; exact h i j hi hj
def Mt (t : ev_M) (n : Nat) (d : Nat → Nat → Int32) (i : Nat) : Prop := ∀ q, q < n → t.1 667 (8 * (2 ^ n - 1 - i) + q) = wv d n i q
/-- a place not yet visited, as the reference asks -/
theorem vis_q {n rem k : Nat} (hn : n ≤ 8) (hr : rem < 2 ^ n) (hk : k < n) : ((((cI ((2 ^ n - 1 - rem : Nat) : Int)) >>> (cI (k : Int) &&& 31)) &&& cI 1) = 0 ↔ rem.testBit k = true) ∧ (rem.testBit k = true → (cI ((2 ^ n - 1 - rem : Nat) : Int) ||| (cI 1 <<< (cI (k : Int) &&& 31))) = cI ((2 ^ n - 1 - (rem - 2 ^ k) : Nat) : Int) ∧ 2 ^ k ≤ rem) := by
  have h256 := bit_256 n (by omega)
  have c := bit_c n (by omega) rem hr k hk
  have q := bit_q (2 ^ n - 1 - rem) (by omega) k (by omega)
  constructor
  · rw [q, c]
    cases rem.testBit k <;> simp
  · intro h
    have l := bit_le n (by omega) rem hr k hk h
    have pk := bit_p k (by omega)
    rw [h] at c
    obtain ⟨o1, o2⟩ := bit_o (2 ^ n - 1 - rem) (by omega) k (by omega) c
    refine ⟨?_, l⟩
    rw [o1, show 2 ^ n - 1 - rem + 2 ^ k = 2 ^ n - 1 - (rem - 2 ^ k) by omega]
def v0 (d : Nat → Nat → Int32) (n rem last k : Nat) : Int32 := if rem = 0 then d last n else mnk (wg d n rem last) (fun k => rem.testBit k) k
theorem ex_in {n rem last : Nat} {d : Nat → Nat → Int32} {x2 : Int32} {k8 : ev_M → Int32 → Int32 → Int32 → Option (ev_M × Int32)} {k15 : ev_M → Int32 → Int32 → Int32 → Int32 → Option (ev_M × Int32)} {t : ev_M} (hn : n ≤ 8) (hr : rem < 2 ^ n) (hl : last < n) (hF : Fg t n d) (hT : ∀ i, i < rem → Mt t n d i) : ∀ (r m k : Nat), k + r = n → r < m → fM_arrangeExactly_h44 k8 k15 m t (cI (n : Int)) x2 (cI ((2 ^ n - 1 - rem : Nat) : Int)) (cI (last : Int)) (v0 d n rem last k) (cI (k : Int)) = k15 (wI t 667 (8 * (2 ^ n - 1 - rem) + last) (v0 d n rem last n)) (cI (n : Int)) x2 (cI ((2 ^ n - 1 - rem : Nat) : Int)) (cI ((last + 1 : Nat) : Int))
  | 0, m, k, hk, hm => by
    obtain ⟨m, rfl⟩ : ∃ k, m = k + 1 := ⟨m - 1, by omega⟩
    have h256 := bit_256 n (by omega)
    have e : k = n := by omega
    subst e
    obtain ⟨i1, i2⟩ := k_8i (j := 8 * (2 ^ k - 1 - rem) + last) (by omega)
    rw [fM_arrangeExactly_h44, if_neg (by rw [k_lt (by omega) (by omega)]; omega), k_8 _ (by omega) _ (by omega), if_pos i1, i2, ltM_eq, k_s (by omega)]
  | r + 1, m, k, hk, hm => by
    obtain ⟨m, rfl⟩ : ∃ k, m = k + 1 := ⟨m - 1, by omega⟩
    have h256 := bit_256 n (by omega)
    have lt : cI (k : Int) < cI (n : Int) := (k_lt (by omega) (by omega)).mpr (by omega)
    have ih := ex_in (last := last) (x2 := x2) (k8 := k8) (k15 := k15) hn hr hl hF hT r m (k + 1) (by omega) (by omega)
    obtain ⟨q1, q2⟩ := vis_q hn hr (show k < n by omega)
    by_cases z : rem.testBit k = true
    · obtain ⟨o1, o2⟩ := q2 z
      have p := bit_p k (by omega)
      have nz : rem ≠ 0 := by omega
      obtain ⟨i1, i2⟩ := k_8i (j := 8 * (2 ^ n - 1 - (rem - 2 ^ k)) + k) (by omega)
      have g : d last k + t.1 667 (8 * (2 ^ n - 1 - (rem - 2 ^ k)) + k) = wg d n rem last k := by
        rw [hT (rem - 2 ^ k) (by omega) k (by omega)]; rfl
      have e : v0 d n rem last (k + 1) = if wg d n rem last k < v0 d n rem last k then wg d n rem last k else v0 d n rem last k := by
        unfold v0
        rw [if_neg nz, if_neg nz]
        show (if rem.testBit k = true then _ else _) = _
        rw [if_pos z]
      rw [fM_arrangeExactly_h44, if_pos lt, if_pos (q1.mpr z), hF last k (by omega) (by omega), bd1_some, o1, k_8 _ (by omega) _ (by omega), if_pos i1, i2, g]
      unfold fM_arrangeExactly_b90
      simp only [fM_arrangeExactly_b106]
      rw [e] at ih
      rw [k_s (by omega)]
      by_cases w : wg d n rem last k < v0 d n rem last k
      · rw [if_pos w] at ih ⊢
        exact ih
      · rw [if_neg w] at ih ⊢
        exact ih
    · have e : v0 d n rem last (k + 1) = v0 d n rem last k := by
        unfold v0
        by_cases y : rem = 0
        · rw [if_pos y, if_pos y]
        · rw [if_neg y, if_neg y]
          show (if rem.testBit k = true then _ else _) = _
          rw [if_neg z]
      rw [e] at ih
      rw [fM_arrangeExactly_h44, if_pos lt, if_neg (fun w => z (q1.mp w))]
      unfold fM_arrangeExactly_b90
      rw [ite_self]
      unfold fM_arrangeExactly_b106
      rw [k_s (by omega)]
      exact ih
theorem ex_la {n rem : Nat} {d : Nat → Nat → Int32} {k8 : ev_M → Int32 → Int32 → Int32 → Option (ev_M × Int32)} (hn : n ≤ 8) (hr : rem < 2 ^ n) : ∀ (r m l : Nat) (t : ev_M), l + r = n → r < m → Fg t n d → (∀ i, i < rem → Mt t n d i) → (∀ q, q < l → t.1 667 (8 * (2 ^ n - 1 - rem) + q) = wv d n rem q) → ∃ t', fM_arrangeExactly_h15 k8 m t (cI (n : Int)) (cI ((2 ^ n - 1 : Nat) : Int)) (cI ((2 ^ n - 1 - rem : Nat) : Int)) (cI (l : Int)) = k8 t' (cI (n : Int)) (cI ((2 ^ n - 1 : Nat) : Int)) (cI ((2 ^ n - 1 - rem : Nat) : Int) + cI (-1)) ∧ (∀ i, i ≤ rem → Mt t' n d i) ∧ (∀ c, c ≠ 667 → t'.1 c = t.1 c) ∧ fr [(667, 667, 0)] t t'
  | 0, m, l, t, hl, hm, hF, hT, hL => by
    obtain ⟨m, rfl⟩ : ∃ k, m = k + 1 := ⟨m - 1, by omega⟩
    have e : l = n := by omega
    subst e
    refine ⟨t, ?_, fun i hi => ?_, fun _ _ => rfl, fr.rf⟩
    · rw [fM_arrangeExactly_h15, if_neg (by rw [k_lt (by omega) (by omega)]; omega)]
    · by_cases z : i = rem
      · subst z; exact hL
      · exact hT i (by omega)
  | r + 1, m, l, t, hl, hm, hF, hT, hL => by
    obtain ⟨m, rfl⟩ : ∃ k, m = k + 1 := ⟨m - 1, by omega⟩
    have h256 := bit_256 n (by omega)
    have lt : cI (l : Int) < cI (n : Int) := (k_lt (by omega) (by omega)).mpr (by omega)
    have en : v0 d n rem l n = wv d n rem l := by
      unfold v0
      by_cases y : rem = 0
      · rw [if_pos y, y, wv_0]
      · rw [if_neg y, wv_s hn (by omega) y]
    have a1 := ex_in (last := l) (x2 := cI ((2 ^ n - 1 : Nat) : Int)) (k8 := k8) (k15 := fM_arrangeExactly_h15 k8 m) hn hr (by omega) hF hT n 1048576 0 (by omega) (by omega)
    rw [en] at a1
    obtain ⟨t', b1, b2, b3, b4⟩ := ex_la (d := d) (k8 := k8) hn hr r m (l + 1) (wI t 667 (8 * (2 ^ n - 1 - rem) + l) (wv d n rem l)) (by omega) (by omega) (hF.cg (wI_ne (by decide)) (wI_ne (by decide))) (fun i hi q hq => by
      rw [wI_c, up1_ne (by omega)]
      exact hT i hi q hq) (fun q hq => by
      rw [wI_c]
      by_cases z : q = l
      · subst z; rw [up1_eq]
      · rw [up1_ne (by omega)]; exact hL q (by omega))
    refine ⟨t', ?_, b2, fun c hc => by rw [b3 c hc, wI_ne hc], (fr.rf.wI rfl).tr b4⟩
    rw [fM_arrangeExactly_h15, if_pos lt]
    by_cases y : rem = 0
    · have ye : cI ((2 ^ n - 1 - rem : Nat) : Int) = cI ((2 ^ n - 1 : Nat) : Int) := by rw [y, Nat.sub_zero]
      have yv : v0 d n rem l 0 = d l n := by
        unfold v0
        rw [if_pos y]
      rw [if_pos ye, hF l n (by omega) (Nat.le_refl _), bd1_some]
      unfold fM_arrangeExactly_b39
      rw [yv] at a1
      exact a1.trans b1
    · have ye : ¬ cI ((2 ^ n - 1 - rem : Nat) : Int) = cI ((2 ^ n - 1 : Nat) : Int) := fun w => by
        rw [eq_i, k_ti (by omega), k_ti (by omega)] at w
        omega
      have yv : v0 d n rem l 0 = cI 100000000 := by
        unfold v0
        rw [if_neg y]
        rfl
      rw [if_neg ye]
      unfold fM_arrangeExactly_b39
      rw [yv] at a1
      exact a1.trans b1
theorem ex_vi {n : Nat} {d : Nat → Nat → Int32} (hn : n ≤ 8) : ∀ (r m rem : Nat) (t : ev_M), rem + r = 2 ^ n - 1 → r < m → Fg t n d → (∀ i, i < rem → Mt t n d i) → ∃ t', fM_arrangeExactly_h8 m t (cI (n : Int)) (cI ((2 ^ n - 1 : Nat) : Int)) (cI ((2 ^ n - 1 - rem : Nat) : Int)) = fM_arrangeExactly_h147 1048576 t' (cI (n : Int)) (cI 100000000) (cI 0) ∧ (∀ i, i < 2 ^ n - 1 → Mt t' n d i) ∧ (∀ c, c ≠ 667 → t'.1 c = t.1 c) ∧ fr [(667, 667, 0)] t t'
  | 0, m, rem, t, hr, hm, hF, hT => by
    obtain ⟨m, rfl⟩ : ∃ k, m = k + 1 := ⟨m - 1, by omega⟩
    have h256 := bit_256 n (by omega)
    refine ⟨t, ?_, fun i hi => hT i (by omega), fun _ _ => rfl, fr.rf⟩
    rw [fM_arrangeExactly_h8, if_pos (by rw [le_i, i32_0, k_ti (by omega)]; omega)]
  | r + 1, m, rem, t, hr, hm, hF, hT => by
    obtain ⟨m, rfl⟩ : ∃ k, m = k + 1 := ⟨m - 1, by omega⟩
    have h256 := bit_256 n (by omega)
    obtain ⟨t1, a1, a2, a3, a4⟩ := ex_la (d := d) (k8 := fM_arrangeExactly_h8 m) hn (rem := rem) (by omega) n 1048576 0 t (by omega) (by omega) hF hT (fun q hq => absurd hq (Nat.not_lt_zero _))
    obtain ⟨t', b1, b2, b3, b4⟩ := ex_vi (d := d) hn r m (rem + 1) t1 (by omega) (by omega) (hF.cg (a3 _ (by decide)) (a3 _ (by decide))) (fun i hi => a2 i (by omega))
    refine ⟨t', ?_, b2, fun c hc => by rw [b3 c hc, a3 c hc], a4.tr b4⟩
    rw [fM_arrangeExactly_h8, if_neg (by rw [le_i, i32_0, k_ti (by omega)]; omega), show cI 0 = cI ((0 : Nat) : Int) from rfl, a1]
    have e : cI ((2 ^ n - 1 - rem : Nat) : Int) + cI (-1) = cI ((2 ^ n - 1 - (rem + 1) : Nat) : Int) := by
      rw [show 2 ^ n - 1 - rem = (2 ^ n - 1 - (rem + 1)) + 1 by omega, k_p (by omega)]
    rw [e]
    exact b1
