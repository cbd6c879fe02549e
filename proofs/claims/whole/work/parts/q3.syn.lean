/-! ===== LEVEL 3: bars: the sums, class and reference ===== -/
def pw (j e : Nat) : Nat := PWn.getD (((j + 1) * e) % 15) 0
theorem pw_lt (j e : Nat) : pw j e < 16 := PW_lt _ (Nat.mod_lt _ (by decide))
theorem pw_RT : ∀ j : Nat, j < 4 → ∀ e : Nat, e < 14 → gm (pw j e) (RTn.getD j 0) = pw j (e + 1) := by decide +kernel
theorem pw_0 : ∀ j : Nat, j < 4 → pw j 0 = 1 := by decide +kernel
theorem RT_lt : ∀ j : Nat, j < 4 → RTn.getD j 0 < 16 := by decide +kernel
theorem pw_PS : ∀ j : Nat, j < 4 → ∀ p : Nat, p < 15 → PSn.getD (15 * j + p) 0 = pw j (14 - p) := by decide +kernel
theorem gm_1 : ∀ a : Nat, a < 16 → gm a 1 = a := by decide +kernel
theorem xr_lt {a b : Nat} (ha : a < 16) (hb : b < 16) : a ^^^ b < 16 := Nat.xor_lt_two_pow (n := 4) ha hb
/-- the sum of d i by the powers n - 1 - i, i below k -/
def sy (d : Nat → Nat) (j n : Nat) : Nat → Nat
  | 0 => 0
  | k + 1 => sy d j n k ^^^ gm (d k) (pw j (n - 1 - k))
theorem sy_lt {d : Nat → Nat} (hd : ∀ k : Nat, k < 15 → d k < 16) {j n : Nat} : ∀ k, k ≤ 15 → sy d j n k < 16
  | 0, _ => by show 0 < 16; decide
  | k + 1, h => xr_lt (sy_lt hd k (by omega)) (gm_lt _ (hd k (by omega)) _ (pw_lt _ _))
theorem sy_up {d : Nat → Nat} (hd : ∀ k : Nat, k < 15 → d k < 16) {j n : Nat} (hj : j < 4) (hn : n < 15) : ∀ k, k ≤ n → gm (sy d j n k) (RTn.getD j 0) = sy d j (n + 1) k
  | 0, _ => gm_0 _ (RT_lt j hj)
  | k + 1, h => by
    have e : n + 1 - 1 - k = (n - 1 - k) + 1 := by omega
    simp only [sy]
    rw [gm_ds _ (sy_lt hd k (by omega)) _ (gm_lt _ (hd k (by omega)) _ (pw_lt _ _)) _ (RT_lt j hj), sy_up hd hj hn k (by omega), gm_as _ (hd k (by omega)) _ (pw_lt _ _) _ (RT_lt j hj), pw_RT j hj _ (by omega), e]
/-- one after another, from the front -/
def hs (d : Nat → Nat) (r : Nat) : Nat → Nat
  | 0 => 0
  | k + 1 => gm (hs d r k) r ^^^ d k
theorem hs_sy {d : Nat → Nat} (hd : ∀ k : Nat, k < 15 → d k < 16) {j : Nat} (hj : j < 4) : ∀ k, k ≤ 15 → hs d (RTn.getD j 0) k = sy d j k k
  | 0, _ => rfl
  | k + 1, h => by
    simp only [hs, sy]
    rw [hs_sy hd hj k (by omega), sy_up hd hj (by omega) k (Nat.le_refl _), show k + 1 - 1 - k = 0 by omega, pw_0 j hj, gm_1 _ (hd k (by omega))]
section
variable {s t : ev_M} {d : Nat → Nat}
theorem su_M (h : Cn s t) (hd : ∀ k : Nat, k < 15 → d k < 16) (hm : ∀ k : Nat, k < 15 → t.1 660 k = cI (d k : Int)) {j : Nat} (hj : j < 4) : fM_sumOf t (cI (j : Int)) = some (cI ((sy d j 15 15 : Nat) : Int)) := by
  have key : ∀ (r m k : Nat), k + r = 15 → r < m → fM_sumOf_h4 t m (cI (j : Int)) (cI ((hs d (RTn.getD j 0) k : Nat) : Int)) (cI (k : Int)) = some (cI ((hs d (RTn.getD j 0) 15 : Nat) : Int)) := by
    intro r
    induction r with
    | zero =>
      intro m k hk hm'
      obtain ⟨m, rfl⟩ : ∃ k, m = k + 1 := ⟨m - 1, by omega⟩
      rw [show k = 15 by omega, fM_sumOf_h4, if_neg (by decide)]
    | succ r ih =>
      intro m k hk hm'
      obtain ⟨m, rfl⟩ : ∃ k, m = k + 1 := ⟨m - 1, by omega⟩
      have l1 : hs d (RTn.getD j 0) k < 16 := by rw [hs_sy hd hj k (by omega)]; exact sy_lt hd k (by omega)
      have l2 := gm_lt _ l1 _ (RT_lt j hj)
      have i0 := ih m (k + 1) (by omega) (by omega)
      rw [fM_sumOf_h4, if_pos (by rw [lt_i, q_ti (by omega), show (cI 15).toInt = 15 from rfl]; omega), if_pos (q_in hj (by decide)), q_ix (by omega), h.2.2.2.1 j hj, tm_M l1 (RT_lt j hj), bd1_some, if_pos (q_in (by omega) (by decide)), q_ix (by omega), hm k (by omega), ltI_eq, x_cI (by omega) (by have := hd k (by omega); omega), q_s (by omega)]
      exact i0
  rw [← hs_sy hd hj 15 (Nat.le_refl _)]
  exact key 15 1048576 0 (by decide) (by decide)
/-- four sums as one number -/
def w4 (n : Nat → Nat) : Nat := ((n 0 * 16 + n 1) * 16 + n 2) * 16 + n 3
theorem w4_lt {n : Nat → Nat} (h : ∀ j : Nat, j < 4 → n j < 16) : w4 n < 65536 := by
  have := h 0 (by decide)
  have := h 1 (by decide)
  have := h 2 (by decide)
  have := h 3 (by decide)
  unfold w4
  omega
theorem w4_in {n m : Nat → Nat} (h : ∀ j : Nat, j < 4 → n j < 16) (h' : ∀ j : Nat, j < 4 → m j < 16) : w4 n = w4 m ↔ ∀ j : Nat, j < 4 → n j = m j := by
  have a0 := h 0 (by decide)
  have a1 := h 1 (by decide)
  have a2 := h 2 (by decide)
  have a3 := h 3 (by decide)
  have b0 := h' 0 (by decide)
  have b1 := h' 1 (by decide)
  have b2 := h' 2 (by decide)
  have b3 := h' 3 (by decide)
  constructor
  · intro e
    unfold w4 at e
    intro j hj
    obtain rfl | rfl | rfl | rfl : j = 0 ∨ j = 1 ∨ j = 2 ∨ j = 3 := by omega
    · omega
    · omega
    · omega
    · omega
  · intro e
    unfold w4
    rw [e 0 (by decide), e 1 (by decide), e 2 (by decide), e 3 (by decide)]
theorem x16 {a b c e : Nat} (hb : b < 16) (he : e < 16) : (a * 16 + b) ^^^ (c * 16 + e) = (a ^^^ c) * 16 + (b ^^^ e) := by
  have h1 : ((a * 16 + b) ^^^ (c * 16 + e)) / 2 ^ 4 = a ^^^ c := by
    rw [Nat.xor_div_two_pow, show (a * 16 + b) / 2 ^ 4 = a by omega, show (c * 16 + e) / 2 ^ 4 = c by omega]
  have h2 : ((a * 16 + b) ^^^ (c * 16 + e)) % 2 ^ 4 = b ^^^ e := by
    rw [Nat.xor_mod_two_pow, show (a * 16 + b) % 2 ^ 4 = b by omega, show (c * 16 + e) % 2 ^ 4 = e by omega]
  omega
theorem w4_x {n m : Nat → Nat} (h : ∀ j : Nat, j < 4 → n j < 16) (h' : ∀ j : Nat, j < 4 → m j < 16) : w4 n ^^^ w4 m = w4 (fun j => n j ^^^ m j) := by
  unfold w4
  rw [x16 (h 3 (by decide)) (h' 3 (by decide)), x16 (h 2 (by decide)) (h' 2 (by decide)), x16 (h 1 (by decide)) (h' 1 (by decide))]
theorem sh4 {w n : Nat} (hw : w < 4096) (hn : n < 16) : (cI (w : Int) <<< (cI 4 &&& 31)) ||| cI (n : Int) = cI ((w * 16 + n : Nat) : Int) := by
  refine q_bv ?_ (by omega)
  rw [Int32.toBitVec_or, BitVec.toNat_or, cI_bv (by omega), Int32.toBitVec_shiftLeft]
  have e : ((cI 4 &&& 31).toBitVec.smod 32) = 4#32 := by decide
  rw [e, BitVec.shiftLeft_eq', BitVec.toNat_shiftLeft, cI_bv (by omega), show (4#32 : BitVec 32).toNat = 4 from rfl, Nat.shiftLeft_eq, Nat.mod_eq_of_lt (by omega), ← Nat.shiftLeft_eq, ← Nat.shiftLeft_add_eq_or_of_lt (by omega), Nat.shiftLeft_eq]
/-- what one wrong sign does to the sums -/
def eS (p v j : Nat) : Nat := gm v (pw j (14 - p))
theorem eS_lt {p v : Nat} (hv : v < 16) (j : Nat) : eS p v j < 16 := gm_lt _ hv _ (pw_lt _ _)
theorem sm_C (h : Cn s t) {p v : Nat} (hp : p < 15) (hv : v < 16) : fBars_sumsOf s (cI (p : Int)) (cI (v : Int)) = some (cI ((w4 (eS p v) : Nat) : Int)) := by
  have st : ∀ (m j w : Nat), j < 4 → w < 4096 → fBars_sumsOf_h4 s (m + 1) (cI (p : Int)) (cI (v : Int)) (cI (w : Int)) (cI ((j + 1 : Nat) : Int)) = fBars_sumsOf_h4 s m (cI (p : Int)) (cI (v : Int)) (cI ((w * 16 + eS p v j : Nat) : Int)) (cI ((j + 2 : Nat) : Int)) := by
    intro m j w hj hw
    have m15 := Nat.mod_lt ((j + 1) * (14 - p)) (show 0 < 15 by decide)
    have bd : (j + 1) * (14 - p) ≤ 4 * 14 := Nat.mul_le_mul (by omega) (by omega)
    have e15 : irem (cI ((j + 1 : Nat) : Int) * (cI 14 - cI (p : Int))) (cI 15) = cI ((((j + 1) * (14 - p)) % 15 : Nat) : Int) := by
      have e14 : cI 14 - cI (p : Int) = cI ((14 - p : Nat) : Int) := q_sb (a := 14) (by omega) (by decide)
      rw [e14, q_mul0 (by omega) (by omega) (by omega)]
      exact q_rm (b := 15) (by omega) (by decide) (by decide)
    have i0 : inb (cI ((((j + 1) * (14 - p)) % 15 : Nat) : Int)) 15 = true := q_in m15 (by decide)
    have lw := eS_lt (p := p) hv j
    rw [fBars_sumsOf_h4, if_pos (by rw [le_i, q_ti (by omega), show (cI 4).toInt = 4 from rfl]; omega), if_neg (by decide), e15, if_pos i0, q_ix (by omega), h.2.2.1 _ m15, tm_C h hv (PW_lt _ m15), bd1_some, ltI_eq]
    rw [sh4 hw (show gm v (PWn.getD (((j + 1) * (14 - p)) % 15) 0) < 16 from lw), q_s (by omega)]
    rfl
  have l0 := eS_lt (p := p) hv 0
  have l1 := eS_lt (p := p) hv 1
  have l2 := eS_lt (p := p) hv 2
  have a0 := st 1048575 0 0 (by decide) (by decide)
  have a1 := st 1048574 1 (0 * 16 + eS p v 0) (by decide) (by omega)
  have a2 := st 1048573 2 ((0 * 16 + eS p v 0) * 16 + eS p v 1) (by decide) (by omega)
  have a3 := st 1048572 3 (((0 * 16 + eS p v 0) * 16 + eS p v 1) * 16 + eS p v 2) (by decide) (by omega)
  have a4 : fBars_sumsOf_h4 s (1048571 + 1) (cI (p : Int)) (cI (v : Int)) (cI (((((0 * 16 + eS p v 0) * 16 + eS p v 1) * 16 + eS p v 2) * 16 + eS p v 3 : Nat) : Int)) (cI ((5 : Nat) : Int)) = some (cI (((((0 * 16 + eS p v 0) * 16 + eS p v 1) * 16 + eS p v 2) * 16 + eS p v 3 : Nat) : Int)) := by
    rw [fBars_sumsOf_h4, if_neg (by decide)]
  have e := a0.trans (a1.trans (a2.trans (a3.trans a4)))
  unfold fBars_sumsOf w4
  simp only [Nat.zero_mul, Nat.zero_add] at e
  exact e
/-- the class's word of all sums -/
theorem wd_C (h : Cn s t) (hd : ∀ k : Nat, k < 15 → d k < 16) (hc : ∀ k : Nat, k < 15 → s.1 8 k = cI (d k : Int)) : ∀ (r m k : Nat), k + r = 15 → r < m → fBars_mends_h4 m s (cI ((w4 (fun j => sy d j 15 k) : Nat) : Int)) (cI (k : Int)) = fBars_mends_h4 1 s (cI ((w4 (fun j => sy d j 15 15) : Nat) : Int)) (cI 15) := by
  intro r
  induction r with
  | zero =>
    intro m k hk hm'
    obtain ⟨m, rfl⟩ : ∃ k, m = k + 1 := ⟨m - 1, by omega⟩
    rw [show k = 15 by omega, fBars_mends_h4, fBars_mends_h4, if_neg (show ¬ cI ((15 : Nat) : Int) < cI 15 by decide), if_neg (show ¬ cI 15 < cI 15 by decide)]
  | succ r ih =>
    intro m k hk hm'
    obtain ⟨m, rfl⟩ : ∃ k, m = k + 1 := ⟨m - 1, by omega⟩
    have i0 := ih m (k + 1) (by omega) (by omega)
    have l1 : ∀ j : Nat, j < 4 → sy d j 15 k < 16 := fun j _ => sy_lt hd k (by omega)
    have l2 : ∀ j : Nat, j < 4 → eS k (d k) j < 16 := fun j _ => eS_lt (hd k (by omega)) j
    have lw := w4_lt l1
    have lv := w4_lt l2
    rw [fBars_mends_h4, if_pos (by rw [lt_i, q_ti (by omega), show (cI 15).toInt = 15 from rfl]; omega), if_pos (q_in (by omega) (by decide)), q_ix (by omega), hc k (by omega), sm_C h (by omega) (hd k (by omega)), bd1_some, ltI_eq, x_cI lw lv, w4_x l1 l2, q_s (by omega)]
    exact i0
end
