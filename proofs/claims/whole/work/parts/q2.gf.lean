/-! ===== LEVEL 3: bars: sixteen numbers that multiply ===== -/
def LGn : List Nat := [0, 0, 1, 4, 2, 8, 5, 10, 3, 14, 9, 7, 6, 13, 11, 12]
def PWn : List Nat := [1, 2, 4, 8, 3, 6, 12, 11, 5, 10, 7, 14, 15, 13, 9]
def DVn : List Nat := [13, 12, 8, 7]
def RTn : List Nat := [2, 4, 8, 3]
def PSn : List Nat := [9, 13, 15, 14, 7, 10, 5, 11, 12, 6, 3, 8, 4, 2, 1, 13, 14, 10, 11, 6, 8, 2, 9, 15, 7, 5, 12, 3, 4, 1, 15, 10, 12, 8, 1, 15, 10, 12, 8, 1, 15, 10, 12, 8, 1, 14, 11, 8, 9, 7, 12, 4, 13, 10, 6, 2, 15, 5, 3, 1]
/-- the product -/
def gm (a b : Nat) : Nat := if a = 0 then 0 else if b = 0 then 0 else PWn.getD ((LGn.getD a 0 + LGn.getD b 0) % 15) 0
/-- the tables, in the class's statics and in the reference -/
def Cn (s t : ev_M) : Prop := (∀ k : Nat, k < 4 → s.1 1000 k = cI ((DVn.getD k 0 : Nat) : Int)) ∧ (∀ k : Nat, k < 16 → s.1 1001 k = cI ((LGn.getD k 0 : Nat) : Int)) ∧ (∀ k : Nat, k < 15 → s.1 1002 k = cI ((PWn.getD k 0 : Nat) : Int)) ∧ (∀ k : Nat, k < 4 → t.1 661 k = cI ((RTn.getD k 0 : Nat) : Int)) ∧ ∀ k : Nat, k < 60 → t.1 663 k = cI ((PSn.getD k 0 : Nat) : Int)
def Cn_C : List (Nat × Nat) := [(1000, 0), (1001, 0), (1002, 0)]
def Cn_M : List (Nat × Nat) := [(661, 0), (663, 0)]
theorem Cn.keep {s t s' t' : ev_M} {F G : List (Nat × (Nat × Nat))} (h : Cn s t) (hs : fr F s s') (ht : fr G t t') (d1 : nof F Cn_C = true) (d2 : nof G Cn_M = true) : Cn s' t' := by
  unfold Cn at h ⊢
  rw [(nof_c hs d1 (c := 1000) rfl).1, (nof_c hs d1 (c := 1001) rfl).1, (nof_c hs d1 (c := 1002) rfl).1, (nof_c ht d2 (c := 661) rfl).1, (nof_c ht d2 (c := 663) rfl).1]
  exact h
theorem cI_bv {a : Nat} (h : a < 100000) : (cI (a : Int)).toBitVec.toNat = a := by
  show (BitVec.ofInt 32 (a : Int)).toNat = a
  rw [BitVec.toNat_ofInt]
  omega
theorem x_cI {a b : Nat} (ha : a < 65536) (hb : b < 65536) : cI (a : Int) ^^^ cI (b : Int) = cI ((a ^^^ b : Nat) : Int) := by
  have lt : a ^^^ b < 2 ^ 16 := Nat.xor_lt_two_pow ha hb
  refine q_bv ?_ (by omega)
  rw [Int32.toBitVec_xor, BitVec.toNat_xor, cI_bv (by omega), cI_bv (by omega)]
theorem n_cI {a : Nat} (ha : a < 65536) : cI (a : Int) &&& cI 15 = cI ((a % 16 : Nat) : Int) := by
  refine q_bv ?_ (by omega)
  rw [Int32.toBitVec_and, BitVec.toNat_and, cI_bv (by omega), show (cI 15).toBitVec.toNat = 2 ^ 4 - 1 from rfl, Nat.and_two_pow_sub_one_eq_mod]
theorem gm_lt : ∀ a : Nat, a < 16 → ∀ b : Nat, b < 16 → gm a b < 16 := by decide +kernel
theorem PW_lt : ∀ k : Nat, k < 15 → PWn.getD k 0 < 16 := by decide +kernel
theorem LG_lt : ∀ k : Nat, k < 16 → LGn.getD k 0 < 15 := by decide +kernel
theorem c0_n {a : Nat} (h : a < 100000) : cI (a : Int) = 0 ↔ a = 0 := by
  rw [eq_i, q_ti h, show (0 : Int32).toInt = 0 from rfl]; omega
theorem q_rm {a b : Nat} (ha : a < 100000) (hb : b < 100000) (h0 : 0 < b) : irem (cI (a : Int)) (cI (b : Int)) = cI ((a % b : Nat) : Int) := by
  have lt := Nat.mod_lt a h0
  rw [eq_i, irem_toInt (by rw [q_ti ha]; omega) (by rw [q_ti hb]; omega), q_ti ha, q_ti hb, q_ti (by omega)]
  omega
/-- the class multiplies -/
theorem tm_C {s t : ev_M} (h : Cn s t) {a b : Nat} (ha : a < 16) (hb : b < 16) : fBars_times s (cI (a : Int)) (cI (b : Int)) = some (cI ((gm a b : Nat) : Int)) := by
  obtain ⟨-, h1, h2, -⟩ := h
  unfold fBars_times fBars_times_b8 gm
  by_cases a0 : a = 0
  · rw [if_pos ((c0_n (by omega)).mpr a0), if_pos a0]; rfl
  rw [if_neg (fun u => a0 ((c0_n (by omega)).mp u)), if_neg a0]
  by_cases b0 : b = 0
  · rw [if_pos ((c0_n (by omega)).mpr b0), if_pos b0]; rfl
  have la := LG_lt a ha
  have lb := LG_lt b hb
  have m15 := Nat.mod_lt (LGn.getD a 0 + LGn.getD b 0) (show 0 < 15 by decide)
  have e15 : irem (cI ((LGn.getD a 0 : Nat) : Int) + cI ((LGn.getD b 0 : Nat) : Int)) (cI 15) = cI (((LGn.getD a 0 + LGn.getD b 0) % 15 : Nat) : Int) := by
    rw [q_ad (by omega)]; exact q_rm (b := 15) (by omega) (by decide) (by decide)
  rw [if_neg (fun u => b0 ((c0_n (by omega)).mp u)), if_neg b0, n_cI (by omega), n_cI (by omega), Nat.mod_eq_of_lt ha, Nat.mod_eq_of_lt hb, if_pos (q_in ha (by decide)), if_pos (q_in hb (by decide)), if_neg (by decide), q_ix (by omega), q_ix (by omega), h1 a ha, h1 b hb, e15, if_pos (q_in m15 (by decide)), q_ix (by omega), h2 _ m15]
/-- the reference's way, without the memory -/
def tmI : Nat → Int32 → Int32 → Int32 → Int32 → Option Int32
  | 0, _, _, _, _ => none
  | n + 1, x0, x1, x2, x3 =>
    if x3 < 0 then some x2
    else if x2 <<< ((cI 1) &&& 31) ≤ cI 15 then (if ((x1 >>> (x3 &&& 31)) &&& (cI 1)) = cI 1 then tmI n x0 x1 ((x2 <<< ((cI 1) &&& 31)) ^^^ x0) (x3 + cI (-1)) else tmI n x0 x1 (x2 <<< ((cI 1) &&& 31)) (x3 + cI (-1)))
    else (if ((x1 >>> (x3 &&& 31)) &&& (cI 1)) = cI 1 then tmI n x0 x1 (((x2 <<< ((cI 1) &&& 31)) ^^^ cI 19) ^^^ x0) (x3 + cI (-1)) else tmI n x0 x1 ((x2 <<< ((cI 1) &&& 31)) ^^^ cI 19) (x3 + cI (-1)))
theorem tmI_eq {t : ev_M} : ∀ (n : Nat) (x0 x1 x2 x3 : Int32), fM_times_h4 t n x0 x1 x2 x3 = tmI n x0 x1 x2 x3
  | 0, _, _, _, _ => rfl
  | n + 1, x0, x1, x2, x3 => by
    rw [fM_times_h4, tmI]
    unfold fM_times_b26 fM_times_b43
    rw [ltI_eq]
    simp only [tmI_eq n]
theorem tmI_m : ∀ (n k : Nat) (x0 x1 x2 x3 v : Int32), tmI n x0 x1 x2 x3 = some v → tmI (n + k) x0 x1 x2 x3 = some v
  | 0, k, x0, x1, x2, x3, v, h => by cases h
  | n + 1, k, x0, x1, x2, x3, v, h => by
    rw [show n + 1 + k = n + k + 1 by omega]
    rw [tmI] at h ⊢
    by_cases z : x3 < 0
    · rw [if_pos z] at h ⊢; exact h
    · rw [if_neg z] at h ⊢
      by_cases y : x2 <<< ((cI 1) &&& 31) ≤ cI 15
      · rw [if_pos y] at h ⊢
        by_cases w : ((x1 >>> (x3 &&& 31)) &&& (cI 1)) = cI 1
        · rw [if_pos w] at h ⊢; exact tmI_m n k _ _ _ _ v h
        · rw [if_neg w] at h ⊢; exact tmI_m n k _ _ _ _ v h
      · rw [if_neg y] at h ⊢
        by_cases w : ((x1 >>> (x3 &&& 31)) &&& (cI 1)) = cI 1
        · rw [if_pos w] at h ⊢; exact tmI_m n k _ _ _ _ v h
        · rw [if_neg w] at h ⊢; exact tmI_m n k _ _ _ _ v h
theorem tmI_t : ∀ a : Nat, a < 16 → ∀ b : Nat, b < 16 → tmI 5 (cI (a : Int)) (cI (b : Int)) (cI 0) (cI 3) = some (cI ((gm a b : Nat) : Int)) := by decide +kernel
/-- the reference multiplies -/
theorem tm_M {t : ev_M} {a b : Nat} (ha : a < 16) (hb : b < 16) : fM_times t (cI (a : Int)) (cI (b : Int)) = some (cI ((gm a b : Nat) : Int)) := by
  have h := tmI_m 5 1048571 _ _ _ _ _ (tmI_t a ha b hb)
  show fM_times_h4 t 1048576 _ _ _ _ = _
  rw [tmI_eq]
  exact h
theorem gm_0 : ∀ b : Nat, b < 16 → gm 0 b = 0 := by decide +kernel
theorem gm_ds : ∀ a : Nat, a < 16 → ∀ b : Nat, b < 16 → ∀ c : Nat, c < 16 → gm (a ^^^ b) c = gm a c ^^^ gm b c := by decide +kernel
theorem gm_as : ∀ a : Nat, a < 16 → ∀ b : Nat, b < 16 → ∀ c : Nat, c < 16 → gm (gm a b) c = gm a (gm b c) := by decide +kernel
