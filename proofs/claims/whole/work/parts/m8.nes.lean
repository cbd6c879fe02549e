/-! ===== LEVEL 3: the sheet: the nearest symbol, found ===== -/
theorem q_bv {x : Int32} {k : Nat} (h : x.toBitVec.toNat = k) (hk : k < 100000) : x = cI (k : Int) := by
  rw [eq_i, q_ti hk]
  show x.toBitVec.toInt = _
  rw [BitVec.toInt_eq_toNat_of_lt (by rw [h]; omega), h]
theorem ds_k : ∀ (j : Nat), j < 15 → ((cI (j : Int) &&& 31).toBitVec.smod 32).toNat = j := by decide
theorem ds_n {x : Int32} (hx : x.toBitVec.toNat < 2 ^ 15) : ∀ j, j ≤ 15 → (dsN x j).toBitVec.toNat = dK x.toBitVec.toNat j
  | 0, _ => show (cI 0).toBitVec.toNat = 0 by decide
  | j + 1, h => by
    have ih := ds_n hx j (by omega)
    have mb : x.toBitVec.msb = false := by
      rw [BitVec.msb_eq_false_iff_two_mul_lt]
      have : (2 : Nat) ^ 15 = 32768 := rfl
      have : (2 : Nat) ^ 32 = 4294967296 := rfl
      omega
    have e1 : (x >>> (cI (j : Int) &&& 31)).toBitVec.toNat = x.toBitVec.toNat >>> j := by
      rw [Int32.toBitVec_shiftRight]
      show (x.toBitVec.sshiftRight ((cI (j : Int) &&& 31).toBitVec.smod 32).toNat).toNat = _
      rw [ds_k j (by omega), BitVec.sshiftRight_eq_of_msb_false mb, BitVec.toNat_ushiftRight]
    have d1 := dK_le (X := x.toBitVec.toNat) j
    show (dsN x j + ((x >>> (cI (j : Int) &&& 31)) &&& cI 1)).toBitVec.toNat = dK x.toBitVec.toNat j + (x.toBitVec.toNat >>> j) % 2
    rw [Int32.toBitVec_add, BitVec.toNat_add, ih, Int32.toBitVec_and, BitVec.toNat_and, e1, show (cI 1).toBitVec.toNat = 1 by decide, Nat.and_one_is_mod, Nat.mod_eq_of_lt]
    have : (2 : Nat) ^ 32 = 4294967296 := rfl
    omega
theorem e_dist {s : ev_M} {v y : Int32} (hv : v.toBitVec.toNat < 2 ^ 15) (hy : y.toBitVec.toNat < 2 ^ 15) : ∃ D : Nat, D ≤ 15 ∧ fInt_bitCount s (v ^^^ y) = some (cI (D : Int)) ∧ dsN (y ^^^ v) 15 = cI (D : Int) := by
  have hx : (v ^^^ y).toBitVec.toNat < 2 ^ 15 := by
    rw [Int32.toBitVec_xor, BitVec.toNat_xor]
    exact Nat.xor_lt_two_pow hv hy
  have d1 := dK_le (X := (v ^^^ y).toBitVec.toNat) 15
  refine ⟨dK (v ^^^ y).toBitVec.toNat 15, d1, ?_, ?_⟩
  · rw [e_pc, q_bv ((pc_n (v ^^^ y)).trans (pcN_eq hx)) (by omega)]
  · rw [Int32.xor_comm]
    exact q_bv (ds_n hx 15 (Nat.le_refl _)) (by omega)
def nrT (t : ev_M) (k13 : Int32 → Int32 → Int32 → Int32 → Int32 → Int32 → Int32 → Option Int32) (x1 x2 x3 x4 x5 x6 x7 x9 : Int32) : Option Int32 :=
  if x9 = x4 then fM_nearest_b80 t k13 x1 x2 x3 x4 x5 x7 x9
  else if x6 = 0 then fM_nearest_b84 t k13 x1 x2 x3 x4 x5 x7 x9
  else if x9 ≤ x4 then fM_nearest_b84 t k13 x1 x2 x3 x4 x5 x7 x9
  else fM_nearest_b80 t k13 x1 x2 x3 x4 x5 x7 x9
theorem nd_lp {t : ev_M} {k13 : Int32 → Int32 → Int32 → Int32 → Int32 → Int32 → Int32 → Option Int32} {x1 x2 x3 x4 x5 x6 x7 X : Int32} : ∀ (r m j : Nat), j + r = 15 → r < m → fM_nearest_h36 t k13 m x1 x2 x3 x4 x5 x6 x7 X (dsN X j) (cI (j : Int)) = nrT t k13 x1 x2 x3 x4 x5 x6 x7 (dsN X 15)
  | 0, m, j, hj, hm => by
    obtain ⟨m, rfl⟩ : ∃ k, m = k + 1 := ⟨m - 1, by omega⟩
    have e : j = 15 := by omega
    subst e
    rw [fM_nearest_h36, if_neg (by decide)]
    rfl
  | r + 1, m, j, hj, hm => by
    obtain ⟨m, rfl⟩ : ∃ k, m = k + 1 := ⟨m - 1, by omega⟩
    have ih := nd_lp (t := t) (k13 := k13) (x1 := x1) (x2 := x2) (x3 := x3) (x4 := x4) (x5 := x5) (x6 := x6) (x7 := x7) (X := X) r m (j + 1) (by omega) (by omega)
    rw [fM_nearest_h36, if_pos (by rw [lt_i, q_ti (by omega), show (cI 15).toInt = 15 from rfl]; omega), ltI_eq, q_s (by omega)]
    exact ih
theorem nrT_1 {t : ev_M} {k13 : Int32 → Int32 → Int32 → Int32 → Int32 → Int32 → Int32 → Option Int32} {x1 x3 x5 x6 : Int32} {lo B D k : Nat} (hB : B ≤ 16) (hD : D ≤ 15) (hk : k < 36) (hlo : lo ≤ k) (h6 : x6 = cI 0 ∨ x6 = cI 1) : nrT t k13 x1 (cI (lo : Int)) x3 (cI (B : Int)) x5 x6 (cI (k : Int)) (cI (D : Int)) = if D < B then k13 x1 (cI (lo : Int)) x3 (cI (D : Int)) (cI ((k - lo : Nat) : Int)) (cI 0) (cI ((k + 1 : Nat) : Int)) else if D = B then k13 x1 (cI (lo : Int)) x3 (cI (B : Int)) x5 (cI 1) (cI ((k + 1 : Nat) : Int)) else k13 x1 (cI (lo : Int)) x3 (cI (B : Int)) x5 x6 (cI ((k + 1 : Nat) : Int)) := by
  have e1 : (cI (D : Int) = cI (B : Int)) ↔ D = B := by rw [eq_i, q_ti (by omega), q_ti (by omega)]; omega
  have e2 : (cI (D : Int) ≤ cI (B : Int)) ↔ D ≤ B := by rw [le_i, q_ti (by omega), q_ti (by omega)]; omega
  have e3 : (cI (D : Int) < cI (B : Int)) ↔ D < B := q_lt (by omega) (by omega)
  unfold nrT fM_nearest_b80 fM_nearest_b84 fM_nearest_b85 fM_nearest_b103 fM_nearest_b119
  rw [q_s (show k < 99999 by omega), q_sb hlo (by omega)]
  by_cases z1 : D < B
  · rw [if_pos z1, if_neg (fun u => by have := e1.mp u; omega), if_pos (e3.mpr z1), if_pos (e3.mpr z1), if_pos (e2.mpr (by omega)), ite_self]
  · have n3 : ¬ cI (D : Int) < cI (B : Int) := fun u => z1 (e3.mp u)
    rw [if_neg z1]
    simp only [if_neg n3]
    by_cases z2 : D = B
    · rw [if_pos z2, if_pos (e1.mpr z2)]
    · rw [if_neg z2, if_neg (fun u => z2 (e1.mp u))]
      rcases h6 with u | u
      · rw [u, if_pos (show cI 0 = 0 from rfl)]
      · rw [u, if_neg (show ¬ cI 1 = 0 by decide), if_neg (fun u => by have := e2.mp u; omega)]
/-- the signs: in the class's statics, in the reference -/
def Sym (s t : ev_M) : Prop := ∀ k, k < 36 → s.1 1004 k = t.1 657 k ∧ (t.1 657 k).toBitVec.toNat < 2 ^ 15
theorem nst_lp {s t : ev_M} {v : Int32} {lo hi : Nat} (hS : Sym s t) (hv : v.toBitVec.toNat < 2 ^ 15) (hh : hi ≤ 36) : ∀ (r m m' k B C : Nat) (who c4 fl : Int32), k + r = hi → lo ≤ k → r < m → r < m' → B ≤ 16 → (fl = cI 0 ∨ fl = cI 1) → (who = cI (-1) ∨ ∃ j : Nat, j < hi - lo ∧ who = cI (j : Int)) → (4 ≤ B ∧ C = 4 ∧ c4 = cI (-1) ∨ B ≤ 3 ∧ C = B ∧ c4 = if fl = 0 then who else cI (-1)) → ∃ q : Int32, fSheet_nearest_h8 s m v (cI (lo : Int)) (cI (hi : Int)) (cI (C : Int)) c4 (cI (k : Int)) = some q ∧ fM_nearest_h13 t m' v (cI (lo : Int)) (cI (hi : Int)) (cI (B : Int)) who fl (cI (k : Int)) = some q ∧ (q = cI (-1) ∨ ∃ j : Nat, j < hi - lo ∧ q = cI (j : Int)) := by
  intro r
  induction r with
  | zero =>
    intro m m' k B C who c4 fl hk hlo hm hm' hB hf hw hc
    obtain ⟨m, rfl⟩ : ∃ k, m = k + 1 := ⟨m - 1, by omega⟩
    obtain ⟨m', rfl⟩ : ∃ k, m' = k + 1 := ⟨m' - 1, by omega⟩
    have nl : ¬ cI (k : Int) < cI (hi : Int) := by rw [q_lt (by omega) (by omega)]; omega
    have e3 : (cI (B : Int) ≤ cI 3) ↔ B ≤ 3 := by rw [le_i, q_ti (by omega), show (cI 3).toInt = 3 from rfl]; omega
    refine ⟨c4, ?_, ?_, ?_⟩
    · rw [fSheet_nearest_h8, if_neg nl]
    · rw [fM_nearest_h13, if_neg nl]
      unfold fM_nearest_b138
      rcases hc with ⟨u1, u2, u3⟩ | ⟨u1, u2, u3⟩
      · rw [if_neg (fun u => by have := e3.mp u; omega), u3]
      · rw [if_pos (e3.mpr u1), u3]
        by_cases y : fl = 0
        · rw [if_pos y, if_pos y]
        · rw [if_neg y, if_neg y]
    · rcases hc with ⟨u1, u2, u3⟩ | ⟨u1, u2, u3⟩
      · exact Or.inl u3
      · rw [u3]
        split
        · exact hw
        · exact Or.inl rfl
  | succ r ih =>
    intro m m' k B C who c4 fl hk hlo hm hm' hB hf hw hc
    obtain ⟨m, rfl⟩ : ∃ k, m = k + 1 := ⟨m - 1, by omega⟩
    obtain ⟨m', rfl⟩ : ∃ k, m' = k + 1 := ⟨m' - 1, by omega⟩
    have lt : cI (k : Int) < cI (hi : Int) := (q_lt (by omega) (by omega)).mpr (by omega)
    have kb : inb (cI (k : Int)) 36 = true := q_in (by omega) (by decide)
    have kx : ix (cI (k : Int)) = k := q_ix (by omega)
    obtain ⟨g1, g2⟩ := hS k (by omega)
    obtain ⟨D, hD, d1, d2⟩ := e_dist (s := s) hv g2
    have hC : C ≤ 4 := by rcases hc with ⟨-, u, -⟩ | ⟨u, u2, -⟩ <;> omega
    have eM : fM_nearest_h13 t (m' + 1) v (cI (lo : Int)) (cI (hi : Int)) (cI (B : Int)) who fl (cI (k : Int)) = if D < B then fM_nearest_h13 t m' v (cI (lo : Int)) (cI (hi : Int)) (cI (D : Int)) (cI ((k - lo : Nat) : Int)) (cI 0) (cI ((k + 1 : Nat) : Int)) else if D = B then fM_nearest_h13 t m' v (cI (lo : Int)) (cI (hi : Int)) (cI (B : Int)) who (cI 1) (cI ((k + 1 : Nat) : Int)) else fM_nearest_h13 t m' v (cI (lo : Int)) (cI (hi : Int)) (cI (B : Int)) who fl (cI ((k + 1 : Nat) : Int)) := by
      rw [fM_nearest_h13, if_pos lt, if_pos kb, ltI_eq, kx, ← nrT_1 hB hD (by omega) hlo hf, ← d2]
      exact nd_lp 15 1048576 0 (by decide) (by decide)
    have eC : fSheet_nearest_h8 s (m + 1) v (cI (lo : Int)) (cI (hi : Int)) (cI (C : Int)) c4 (cI (k : Int)) = if D < C then fSheet_nearest_h8 s m v (cI (lo : Int)) (cI (hi : Int)) (cI (D : Int)) (cI ((k - lo : Nat) : Int)) (cI ((k + 1 : Nat) : Int)) else if D = C then fSheet_nearest_h8 s m v (cI (lo : Int)) (cI (hi : Int)) (cI (C : Int)) (cI (-1)) (cI ((k + 1 : Nat) : Int)) else fSheet_nearest_h8 s m v (cI (lo : Int)) (cI (hi : Int)) (cI (C : Int)) c4 (cI ((k + 1 : Nat) : Int)) := by
      rw [fSheet_nearest_h8, if_pos lt, if_pos (by rw [lt_i, q_ti (by omega), show (cI 36).toInt = 36 from rfl]; omega), if_pos kb, kx, g1, d1, bd1_some]
      unfold fSheet_nearest_b63
      rw [q_s (show k < 99999 by omega), q_sb hlo (by omega), ltI_eq]
      by_cases z1 : D < C
      · rw [if_pos z1, if_pos ((q_lt (by omega) (by omega)).mpr z1)]
      · rw [if_neg z1, if_neg (fun u => z1 ((q_lt (by omega) (by omega)).mp u))]
        have e1 : (cI (D : Int) = cI (C : Int)) ↔ D = C := by rw [eq_i, q_ti (by omega), q_ti (by omega)]; omega
        by_cases z2 : D = C
        · rw [if_pos z2, if_pos (e1.mpr z2)]
        · rw [if_neg z2, if_neg (fun u => z2 (e1.mp u))]
    have i0 := fun B C who c4 fl => ih m m' (k + 1) B C who c4 fl (by omega) (by omega) (by omega) (by omega)
    have wk : cI ((k - lo : Nat) : Int) = cI (-1) ∨ ∃ j : Nat, j < hi - lo ∧ cI ((k - lo : Nat) : Int) = cI (j : Int) := Or.inr ⟨k - lo, by omega, rfl⟩
    rw [eM, eC]
    rcases hc with ⟨u1, u2, u3⟩ | ⟨u1, u2, u3⟩
    · subst u2
      by_cases z1 : D < 4
      · rw [if_pos z1, if_pos (show D < B by omega)]
        exact i0 D D _ _ _ (by omega) (Or.inl rfl) wk (Or.inr ⟨by omega, rfl, by rw [if_pos (show cI 0 = 0 from rfl)]⟩)
      · rw [if_neg z1]
        have cc : (if D = 4 then fSheet_nearest_h8 s m v (cI (lo : Int)) (cI (hi : Int)) (cI ((4 : Nat) : Int)) (cI (-1)) (cI ((k + 1 : Nat) : Int)) else fSheet_nearest_h8 s m v (cI (lo : Int)) (cI (hi : Int)) (cI ((4 : Nat) : Int)) c4 (cI ((k + 1 : Nat) : Int))) = fSheet_nearest_h8 s m v (cI (lo : Int)) (cI (hi : Int)) (cI ((4 : Nat) : Int)) (cI (-1)) (cI ((k + 1 : Nat) : Int)) := by rw [u3, ite_self]
        rw [cc]
        by_cases z2 : D < B
        · rw [if_pos z2]
          exact i0 D 4 _ _ _ (by omega) (Or.inl rfl) wk (Or.inl ⟨by omega, rfl, rfl⟩)
        · rw [if_neg z2]
          by_cases z3 : D = B
          · rw [if_pos z3]
            exact i0 B 4 _ _ _ hB (Or.inr rfl) hw (Or.inl ⟨u1, rfl, rfl⟩)
          · rw [if_neg z3]
            exact i0 B 4 _ _ _ hB hf hw (Or.inl ⟨u1, rfl, rfl⟩)
    · subst u2
      by_cases z1 : D < C
      · rw [if_pos z1, if_pos z1]
        exact i0 D D _ _ _ (by omega) (Or.inl rfl) wk (Or.inr ⟨by omega, rfl, by rw [if_pos (show cI 0 = 0 from rfl)]⟩)
      · rw [if_neg z1, if_neg z1]
        by_cases z3 : D = C
        · rw [if_pos z3, if_pos z3]
          exact i0 C C _ _ _ hB (Or.inr rfl) hw (Or.inr ⟨u1, rfl, by rw [if_neg (show ¬ cI 1 = 0 by decide)]⟩)
        · rw [if_neg z3, if_neg z3]
          exact i0 C C _ _ _ hB hf hw (Or.inr ⟨u1, rfl, u3⟩)
/-- the nearest sign among lo … hi − 1, if one alone is near enough -/
theorem e_nst {s t : ev_M} {v : Int32} {lo hi : Nat} (hS : Sym s t) (hv : v.toBitVec.toNat < 2 ^ 15) (hl : lo ≤ hi) (hh : hi ≤ 36) : ∃ q : Int32, fSheet_nearest s v (cI (lo : Int)) (cI (hi : Int)) = some q ∧ fM_nearest t v (cI (lo : Int)) (cI (hi : Int)) = some q ∧ (q = cI (-1) ∨ ∃ j : Nat, j < hi - lo ∧ q = cI (j : Int)) :=
  nst_lp hS hv hh (hi - lo) 1048576 1048576 lo 16 4 (cI (-1)) (cI (-1)) (cI 0) (by omega) (Nat.le_refl _) (by omega) (by omega) (by decide) (Or.inl rfl) (Or.inl rfl) (Or.inl ⟨by decide, rfl, rfl⟩)
