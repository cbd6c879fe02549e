/-! ===== LEVEL 3: a block of the disk is right: class and reference ===== -/
/-- the sum over the bytes b … b + i - 1 -/
def fdS (f : Nat → Int32) (b : Nat) : Nat → Int32
  | 0 => cI 0
  | i + 1 => (((fdS f b i ^^^ (f (b + i) &&& cI 255)) <<< (cI 3 &&& 31)) ||| (iushr (fdS f b i ^^^ (f (b + i) &&& cI 255)) (cI 29))) * (cI (-2048144777))
theorem fdS_cg {f g : Nat → Int32} {b c : Nat} : ∀ i, (∀ j, j < i → f (b + j) = g (c + j)) → fdS f b i = fdS g c i
  | 0, _ => rfl
  | i + 1, h => by
    simp only [fdS]
    rw [fdS_cg i (fun j hj => h j (by omega)), h i (Nat.lt_succ_self _)]
section
variable {s t : ev_M}
theorem sum10 {b : Nat} (hb : b + 252 ≤ 38400) : fLog_sumOf_10 s (cI (b : Int)) = some (fdS (s.1 10) b 252) := by
  have key : ∀ (r m i : Nat), i + r = 252 → r < m → fLog_sumOf_10_h4 s m (cI (b : Int)) (fdS (s.1 10) b i) (cI ((b + i : Nat) : Int)) = some (fdS (s.1 10) b 252) := by
    intro r
    induction r with
    | zero =>
      intro m i hi hm
      obtain ⟨m, rfl⟩ : ∃ k, m = k + 1 := ⟨m - 1, by omega⟩
      obtain rfl : i = 252 := by omega
      rw [fLog_sumOf_10_h4, show cI (b : Int) + cI 252 = cI ((b + 252 : Nat) : Int) from q_ad (b := 252) (by omega), if_neg (by rw [lt_i]; exact Int.lt_irrefl _)]
    | succ r ih =>
      intro m i hi hm
      obtain ⟨m, rfl⟩ : ∃ k, m = k + 1 := ⟨m - 1, by omega⟩
      rw [fLog_sumOf_10_h4, show cI (b : Int) + cI 252 = cI ((b + 252 : Nat) : Int) from q_ad (b := 252) (by omega), if_pos ((q_lt (by omega) (by omega)).mpr (by omega)), if_pos (by rw [lt_i, q_ti (by omega), show (cI 38400).toInt = 38400 from rfl]; omega), if_pos (q_in (by omega) (by decide)), q_ix (by omega), ltI_eq, ltI_eq, q_s (by omega)]
      exact ih m (i + 1) (by omega) (by omega)
  exact key 252 1048576 0 (by decide) (by decide)
theorem sum551 {b : Nat} (hb : b + 252 ≤ 38656) : fM_sum_551 t (cI (b : Int)) = some (fdS (t.1 551) b 252) := by
  have key : ∀ (r m i : Nat), i + r = 252 → r < m → fM_sum_551_h4 t m (cI (b : Int)) (fdS (t.1 551) b i) (cI ((b + i : Nat) : Int)) = some (fdS (t.1 551) b 252) := by
    intro r
    induction r with
    | zero =>
      intro m i hi hm
      obtain ⟨m, rfl⟩ : ∃ k, m = k + 1 := ⟨m - 1, by omega⟩
      obtain rfl : i = 252 := by omega
      rw [fM_sum_551_h4, show cI (b : Int) + cI 252 = cI ((b + 252 : Nat) : Int) from q_ad (b := 252) (by omega), if_neg (by rw [lt_i]; exact Int.lt_irrefl _)]
    | succ r ih =>
      intro m i hi hm
      obtain ⟨m, rfl⟩ : ∃ k, m = k + 1 := ⟨m - 1, by omega⟩
      rw [fM_sum_551_h4, show cI (b : Int) + cI 252 = cI ((b + 252 : Nat) : Int) from q_ad (b := 252) (by omega), if_pos ((q_lt (by omega) (by omega)).mpr (by omega)), if_pos (q_in (by omega) (by decide)), q_ix (by omega), ltI_eq, ltI_eq, q_s (by omega)]
      exact ih m (i + 1) (by omega) (by omega)
  exact key 252 1048576 0 (by decide) (by decide)
/-- a byte as a number -/
theorem by_n (x : Int32) : ∃ n : Nat, n < 256 ∧ x &&& cI 255 = cI (n : Int) := by
  have lt : (x &&& cI 255).toBitVec.toNat < 256 := by
    rw [Int32.toBitVec_and, BitVec.toNat_and, show (cI 255).toBitVec.toNat = 255 from rfl]
    exact Nat.lt_of_le_of_lt Nat.and_le_right (by decide)
  exact ⟨_, lt, q_bv rfl (by omega)⟩
theorem sl_or {x y : Int32} {n : Nat} (hn : n < 31) : (x ||| y) <<< (cI (n : Int) &&& 31) = (x <<< (cI (n : Int) &&& 31)) ||| (y <<< (cI (n : Int) &&& 31)) := by
  refine Int32.toBitVec_inj.mp ?_
  simp only [Int32.toBitVec_shiftLeft, Int32.toBitVec_or, BitVec.shiftLeft_eq', BitVec.shiftLeft_or_distrib]
theorem sl_n : ∀ n : Nat, n < 31 → ((cI (n : Int) &&& 31).toBitVec.smod 32).toNat = n := by decide +kernel
theorem sl_sl {x : Int32} {n k : Nat} (h : n + k < 31) : (x <<< (cI (n : Int) &&& 31)) <<< (cI (k : Int) &&& 31) = x <<< (cI ((n + k : Nat) : Int) &&& 31) := by
  refine Int32.toBitVec_inj.mp ?_
  simp only [Int32.toBitVec_shiftLeft, BitVec.shiftLeft_eq', sl_n n (by omega), sl_n k (by omega), sl_n (n + k) h, BitVec.shiftLeft_add]
theorem sl_0 {k : Nat} (h : k < 31) : cI 0 <<< (cI (k : Int) &&& 31) = cI 0 := by
  refine Int32.toBitVec_inj.mp ?_
  simp only [Int32.toBitVec_shiftLeft, BitVec.shiftLeft_eq', sl_n k h]
  show (0#32) <<< k = 0#32
  exact BitVec.zero_shiftLeft k
theorem or_0l {x : Int32} : cI 0 ||| x = x := by
  refine Int32.toBitVec_inj.mp ?_
  rw [Int32.toBitVec_or]
  show 0#32 ||| x.toBitVec = x.toBitVec
  exact BitVec.zero_or
theorem wd_4 {a b c d : Int32} : ((((((((cI 0 <<< (cI 8 &&& 31)) ||| a) <<< (cI 8 &&& 31)) ||| b) <<< (cI 8 &&& 31)) ||| c) <<< (cI 8 &&& 31)) ||| d) = (((a <<< (cI 24 &&& 31)) ||| (b <<< (cI 16 &&& 31))) ||| (c <<< (cI 8 &&& 31))) ||| d := by
  have e0 : cI 0 <<< (cI 8 &&& 31) = cI 0 := sl_0 (k := 8) (by decide)
  have o1 : ∀ x y : Int32, (x ||| y) <<< (cI 8 &&& 31) = (x <<< (cI 8 &&& 31)) ||| (y <<< (cI 8 &&& 31)) := fun x y => sl_or (n := 8) (by decide)
  have s1 : ∀ x : Int32, (x <<< (cI 8 &&& 31)) <<< (cI 8 &&& 31) = x <<< (cI 16 &&& 31) := fun x => sl_sl (n := 8) (k := 8) (by decide)
  have s2 : ∀ x : Int32, (x <<< (cI 16 &&& 31)) <<< (cI 8 &&& 31) = x <<< (cI 24 &&& 31) := fun x => sl_sl (n := 16) (k := 8) (by decide)
  rw [e0, or_0l]
  simp only [o1, s1, s2]
theorem at_C {k j : Nat} (hk : 1 ≤ k) (hk2 : k ≤ 150) (hj : j < 256) : fLog_byteAt s (cI (k : Int)) (cI (j : Int)) = some (s.1 10 ((k - 1) * 256 + j) &&& cI 255) := by
  have e : (cI (k : Int) - cI 1) * cI 256 + cI (j : Int) = cI (((k - 1) * 256 + j : Nat) : Int) := by
    have e1 : cI (k : Int) - cI 1 = cI ((k - 1 : Nat) : Int) := q_sb (b := 1) hk (by omega)
    have e2 : cI ((k - 1 : Nat) : Int) * cI 256 = cI (((k - 1) * 256 : Nat) : Int) := q_mul0 (b := 256) (by omega) (by decide) (by omega)
    rw [e1, e2, q_ad (by omega)]
  unfold fLog_byteAt
  rw [hasB, bd1_some, ite_bI, if_pos ⟨⟨by rw [q_ti (by omega), show (cI 1).toInt = 1 from rfl]; omega, by rw [q_ti (by omega), show (cI 150).toInt = 150 from rfl]; omega⟩, by rw [q_ti (by omega), show (cI 0).toInt = 0 from rfl]; omega, by rw [q_ti (by omega), show (cI 255).toInt = 255 from rfl]; omega⟩, e, if_pos (q_in (by omega) (by decide)), q_ix (by omega)]
theorem at_M (D : RDsk s t) {k j : Nat} (hk : 1 ≤ k) (hk2 : k ≤ 150) (hj : j < 256) : fM_at t (cI (k : Int)) (cI (j : Int)) = some (s.1 10 ((k - 1) * 256 + j) &&& cI 255) := by
  have e : cI 256 * cI (k : Int) + cI (j : Int) = cI ((256 * k + j : Nat) : Int) := by
    have e2 : cI 256 * cI (k : Int) = cI ((256 * k : Nat) : Int) := q_mul0 (a := 256) (by decide) (by omega) (by omega)
    rw [e2, q_ad (by omega)]
  have d := D.1 ((k - 1) * 256 + j) (by omega)
  rw [show (k - 1) * 256 + j + 256 = 256 * k + j by omega] at d
  unfold fM_at
  rw [e, if_pos (q_in (by omega) (by decide)), q_ix (by omega), d]
theorem last_ok {k : Nat} (hk : 1 ≤ k) (hk2 : k ≤ 150) : fLog_isLast s (cI (k : Int)) = some (if s.1 10 ((k - 1) * 256 + 2) &&& cI 255 = cI 1 then cI 1 else cI 0) := by
  have a : fLog_byteAt s (cI (k : Int)) (cI 2) = some (s.1 10 ((k - 1) * 256 + 2) &&& cI 255) := at_C (j := 2) hk hk2 (by decide)
  unfold fLog_isLast
  rw [a, bd1_some]
  by_cases z : s.1 10 ((k - 1) * 256 + 2) &&& cI 255 = cI 1
  · rw [if_pos z, if_pos z]
  · rw [if_neg z, if_neg z]
/-- class and reference agree whether a block is right -/
theorem right_ok (D : RDsk s t) {k : Nat} (hk : 1 ≤ k) (hk2 : k ≤ 150) : ∃ v : Int32, fLog_isRight s (cI (k : Int)) = some v ∧ fM_isRight t (cI (k : Int)) = some v ∧ (v = cI 0 ∨ (v = cI 1 ∧ ∃ n : Nat, 1 ≤ n ∧ n ≤ 248 ∧ s.1 10 ((k - 1) * 256 + 3) &&& cI 255 = cI (n : Int))) := by
  obtain ⟨a, ha, ea⟩ := by_n (s.1 10 ((k - 1) * 256 + 0))
  obtain ⟨b, hb, eb⟩ := by_n (s.1 10 ((k - 1) * 256 + 1))
  obtain ⟨c, hc, ec⟩ := by_n (s.1 10 ((k - 1) * 256 + 2))
  obtain ⟨n, hn, en⟩ := by_n (s.1 10 ((k - 1) * 256 + 3))
  have C0 : fLog_byteAt s (cI (k : Int)) (cI 0) = some (cI (a : Int)) := by have := at_C (s := s) (j := 0) hk hk2 (by decide); rw [ea] at this; exact this
  have C1 : fLog_byteAt s (cI (k : Int)) (cI 1) = some (cI (b : Int)) := by have := at_C (s := s) (j := 1) hk hk2 (by decide); rw [eb] at this; exact this
  have C2 : fLog_byteAt s (cI (k : Int)) (cI 2) = some (cI (c : Int)) := by have := at_C (s := s) (j := 2) hk hk2 (by decide); rw [ec] at this; exact this
  have C3 : fLog_byteAt s (cI (k : Int)) (cI 3) = some (cI (n : Int)) := by have := at_C (s := s) (j := 3) hk hk2 (by decide); rw [en] at this; exact this
  have M0 : fM_at t (cI (k : Int)) (cI 0) = some (cI (a : Int)) := by have := at_M D (j := 0) hk hk2 (by decide); rw [ea] at this; exact this
  have M1 : fM_at t (cI (k : Int)) (cI 1) = some (cI (b : Int)) := by have := at_M D (j := 1) hk hk2 (by decide); rw [eb] at this; exact this
  have M2 : fM_at t (cI (k : Int)) (cI 2) = some (cI (c : Int)) := by have := at_M D (j := 2) hk hk2 (by decide); rw [ec] at this; exact this
  have M3 : fM_at t (cI (k : Int)) (cI 3) = some (cI (n : Int)) := by have := at_M D (j := 3) hk hk2 (by decide); rw [en] at this; exact this
  obtain ⟨x, ex⟩ : ∃ x : Nat → Int32, x = fun j => s.1 10 ((k - 1) * 256 + j) &&& cI 255 := ⟨_, rfl⟩
  have Cx : ∀ j : Nat, j < 256 → fLog_byteAt s (cI (k : Int)) (cI (j : Int)) = some (x j) := fun j hj => by rw [ex]; exact at_C hk hk2 hj
  have Mx : ∀ j : Nat, j < 256 → fM_at t (cI (k : Int)) (cI (j : Int)) = some (x j) := fun j hj => by rw [ex]; exact at_M D hk hk2 hj
  obtain ⟨w, ew⟩ : ∃ w, w = (((x 252 <<< (cI 24 &&& 31)) ||| (x 253 <<< (cI 16 &&& 31))) ||| (x 254 <<< (cI 8 &&& 31))) ||| x 255 := ⟨_, rfl⟩
  -- the sums
  have sC : fLog_sumOf_10 s ((cI (k : Int) - cI 1) * cI 256) = some (fdS (s.1 10) ((k - 1) * 256) 252) := by
    have e1 : cI (k : Int) - cI 1 = cI ((k - 1 : Nat) : Int) := q_sb (b := 1) hk (by omega)
    have e2 : cI ((k - 1 : Nat) : Int) * cI 256 = cI (((k - 1) * 256 : Nat) : Int) := q_mul0 (b := 256) (by omega) (by decide) (by omega)
    rw [e1, e2]; exact sum10 (by omega)
  have sM : fM_sum_551 t (cI 256 * cI (k : Int)) = some (fdS (s.1 10) ((k - 1) * 256) 252) := by
    have e2 : cI 256 * cI (k : Int) = cI ((256 * k : Nat) : Int) := q_mul0 (a := 256) (by decide) (by omega) (by omega)
    rw [e2, sum551 (by omega), fdS_cg (g := s.1 10) (c := (k - 1) * 256) 252 (fun j hj => by
      have d := D.1 ((k - 1) * 256 + j) (by omega)
      rw [show (k - 1) * 256 + j + 256 = 256 * k + j by omega] at d
      exact d)]
  have b94 : fLog_isRight_b94 s (cI (k : Int)) = some (if w = fdS (s.1 10) ((k - 1) * 256) 252 then cI 1 else cI 0) := by
    have st : ∀ (m j : Nat) (y : Int32), j < 256 → fLog_isRight_h101 s (m + 1) (cI (k : Int)) y (cI (j : Int)) = fLog_isRight_h101 s m (cI (k : Int)) ((y <<< (cI 8 &&& 31)) ||| x j) (cI ((j + 1 : Nat) : Int)) := fun m j y hj => by
      rw [fLog_isRight_h101, if_pos (by rw [lt_i, q_ti (by omega), show (cI 256).toInt = 256 from rfl]; omega), Cx j hj, bd1_some, ltI_eq, q_s (by omega)]
    have e4 := (st 1048575 252 (cI 0) (by decide)).trans ((st 1048574 253 _ (by decide)).trans ((st 1048573 254 _ (by decide)).trans (st 1048572 255 _ (by decide))))
    rw [wd_4, ← ew] at e4
    have e5 : fLog_isRight_h101 s (1048571 + 1) (cI (k : Int)) w (cI ((256 : Nat) : Int)) = some (if w = fdS (s.1 10) ((k - 1) * 256) 252 then cI 1 else cI 0) := by
      rw [fLog_isRight_h101, if_neg (by decide), sC, bd1_some]
      by_cases z : w = fdS (s.1 10) ((k - 1) * 256) 252
      · rw [if_pos z, if_pos z]
      · rw [if_neg z, if_neg z]
    exact e4.trans e5
  have d5 : t.1 555 k = s.1 11 (k - 1) := by
    have := (D.2.2.1 (k - 1) (by omega)).1
    rw [show k - 1 + 1 = k by omega] at this
    exact this
  have m115 : ∀ y : Int32, fM_isRight_b115 t (cI (k : Int)) w y = if y = 0 then some (cI 0) else if s.1 11 (k - 1) = 0 then some (if w = fdS (s.1 10) ((k - 1) * 256) 252 then cI 1 else cI 0) else some (cI 0) := fun y => by
    unfold fM_isRight_b115
    rw [if_pos (q_in (by omega) (by decide)), q_ix (by omega), d5, sM, bd1_some]
    by_cases z : w = fdS (s.1 10) ((k - 1) * 256) 252
    · rw [if_pos z, if_pos z]
    · rw [if_neg z, if_neg z]
  -- the number of the block
  have sh : cI (a : Int) <<< (cI 8 &&& 31) = cI ((a * 256 : Nat) : Int) := by
    have : ∀ a : Nat, a < 256 → cI (a : Int) <<< (cI 8 &&& 31) = cI ((a * 256 : Nat) : Int) := by decide +kernel
    exact this a ha
  have orn : cI ((a * 256 : Nat) : Int) ||| cI (b : Int) = cI ((a * 256 + b : Nat) : Int) := by
    refine q_bv ?_ (by omega)
    rw [Int32.toBitVec_or, BitVec.toNat_or, cI_bv (by omega), cI_bv (by omega), show a * 256 = a <<< 8 by rw [Nat.shiftLeft_eq], ← Nat.shiftLeft_add_eq_or_of_lt (by omega)]
  have kC : (cI ((a * 256 : Nat) : Int) = cI (k : Int) - cI (b : Int)) ↔ a * 256 + b = k := by
    rw [eq_i, q_ti (by omega), sub_b (by rw [q_ti (by omega), q_ti (by omega)]; omega) (by rw [q_ti (by omega), q_ti (by omega)]; omega), q_ti (by omega), q_ti (by omega)]
    omega
  have kM : (cI ((a * 256 + b : Nat) : Int) = cI (k : Int)) ↔ a * 256 + b = k := by
    rw [eq_i, q_ti (by omega), q_ti (by omega)]
    omega
  have kr : ¬ ¬ InR (cI (k : Int)) (cI 1) (cI 150) := fun u => u ⟨by rw [q_ti (by omega), show (cI 1).toInt = 1 from rfl]; omega, by rw [q_ti (by omega), show (cI 150).toInt = 150 from rfl]; omega⟩
  have e1 : cI (k : Int) - cI 1 = cI ((k - 1 : Nat) : Int) := q_sb (b := 1) hk (by omega)
  have i1 : inb (cI ((k - 1 : Nat) : Int)) 150 = true := q_in (by omega) (by decide)
  have lst := last_ok (s := s) hk hk2
  rw [ec] at lst
  unfold fLog_isRight fM_isRight
  rw [outside_eq, bd1_some, ite_bI, if_neg kr, e1, if_pos i1, q_ix (by omega), C3, bd1_some, C0, bd1_some, C1, bd1_some, sh, C2, bd1_some, lst, bd1_some]
  rw [show fM_at t (cI (k : Int)) (cI 252) = some (x 252) from Mx 252 (by decide), bd1_some, show fM_at t (cI (k : Int)) (cI 253) = some (x 253) from Mx 253 (by decide), bd1_some, show fM_at t (cI (k : Int)) (cI 254) = some (x 254) from Mx 254 (by decide), bd1_some, show fM_at t (cI (k : Int)) (cI 255) = some (x 255) from Mx 255 (by decide), bd1_some, ← ew, ltI_eq, M3, bd1_some, M0, bd1_some, M1, bd1_some, sh, orn, M2, bd1_some, bd1_some, in_eq, bd1_some, ite_bI]
  unfold fM_isRight_b110 fM_isRight_b114
  rw [m115, m115, b94, outside_eq, bd1_some, ite_bI, if_neg (show ¬ cI 1 = 0 by decide), if_pos (show cI 0 = 0 from rfl)]
  have no : ∃ v : Int32, (some (cI 0) : Option Int32) = some v ∧ (some (cI 0) : Option Int32) = some v ∧ (v = cI 0 ∨ (v = cI 1 ∧ ∃ n : Nat, 1 ≤ n ∧ n ≤ 248 ∧ s.1 10 ((k - 1) * 256 + 3) &&& cI 255 = cI (n : Int))) := ⟨_, rfl, rfl, Or.inl rfl⟩
  have n8 : (cI (n : Int) = cI 248) ↔ n = 248 := by rw [eq_i, q_ti (by omega), show (cI 248).toInt = 248 from rfl]; omega
  have nR : InR (cI (n : Int)) (cI 1) (cI 248) ↔ 1 ≤ n ∧ n ≤ 248 := by
    unfold InR
    rw [q_ti (by omega), show (cI 1).toInt = 1 from rfl, show (cI 248).toInt = 248 from rfl]; omega
  have c1 : (cI (c : Int) = cI 1) ↔ c = 1 := by rw [eq_i, q_ti (by omega), show (cI 1).toInt = 1 from rfl]; omega
  have cl : cI (c : Int) ≤ cI 1 ↔ c ≤ 1 := by rw [le_i, q_ti (by omega), show (cI 1).toInt = 1 from rfl]; omega
  have c2 : cI (c : Int) < cI 2 ↔ c ≤ 1 := by rw [lt_i, q_ti (by omega), show (cI 2).toInt = 2 from rfl]; omega
  by_cases z1 : a * 256 + b = k
  rotate_left
  · rw [if_neg (fun u => z1 (kC.mp u)), if_neg (fun u => z1 (kM.mp u)), ite_self]
    exact no
  rw [if_pos (kC.mpr z1), if_pos (kM.mpr z1)]
  by_cases z2 : s.1 11 (k - 1) = 0
  rotate_left
  · rw [if_neg z2, if_neg z2]
    simp only [ite_self]
    exact no
  rw [if_pos z2, if_pos z2]
  by_cases z3 : c ≤ 1
  rotate_left
  · rw [if_neg (fun u => z3 (cl.mp u)), if_neg (fun u => z3 (c2.mp u)), ite_self]
    exact no
  rw [if_pos (cl.mpr z3), if_pos (c2.mpr z3)]
  have yes : 1 ≤ n → n ≤ 248 → ∃ v : Int32, (some (if w = fdS (s.1 10) ((k - 1) * 256) 252 then cI 1 else cI 0) : Option Int32) = some v ∧ (some (if w = fdS (s.1 10) ((k - 1) * 256) 252 then cI 1 else cI 0) : Option Int32) = some v ∧ (v = cI 0 ∨ (v = cI 1 ∧ ∃ n : Nat, 1 ≤ n ∧ n ≤ 248 ∧ s.1 10 ((k - 1) * 256 + 3) &&& cI 255 = cI (n : Int))) := fun h1 h2 => by
    refine ⟨_, rfl, rfl, ?_⟩
    by_cases z : w = fdS (s.1 10) ((k - 1) * 256) 252
    · rw [if_pos z]; exact Or.inr ⟨rfl, n, h1, h2, en⟩
    · rw [if_neg z]; exact Or.inl rfl
  by_cases z4 : c = 1
  · rw [if_pos (c1.mpr z4), if_neg (show ¬ cI 1 = 0 by decide)]
    by_cases z5 : 1 ≤ n ∧ n ≤ 248
    · rw [if_neg (fun u => u (nR.mpr z5)), if_pos (nR.mpr z5), if_pos (c1.mpr z4)]
      exact yes z5.1 z5.2
    · rw [if_pos (fun u => z5 (nR.mp u)), if_neg (fun u => z5 (nR.mp u))]
      exact no
  · rw [if_neg (fun u => z4 (c1.mp u)), if_pos (show cI 0 = 0 from rfl)]
    by_cases z5 : n = 248
    · rw [if_pos (n8.mpr z5), if_pos (nR.mpr (by omega)), if_neg (fun u => z4 (c1.mp u))]
      exact yes (by omega) (by omega)
    · rw [if_neg (fun u => z5 (n8.mp u)), if_neg (fun u => z4 (c1.mp u)), ite_self]
      exact no
/-- the question verify -/
theorem q_verify (h9 : t.1 549 5 = s.1 9 9) (h4 : t.1 549 4 = s.1 9 4) (g4 : Rg 0 (s.1 9 4) 150) (D : RDsk s t) : Ok (fPH_verify s) fun x => Ok (fM_verify t) fun z => x = z.2 := by
  have D' : RDsk s (wI t 549 0 (cI 0)) := RDsk_of D rfl rfl rfl rfl (wI_ne (by decide)) (wI_ne (by decide)) (by rw [wI_c, up1_ne (by decide)]) (by rw [wI_c, up1_ne (by decide)])
  have h4' : (wI t 549 0 (cI 0)).1 549 4 = s.1 9 4 := by rw [wI_c, up1_ne (by decide)]; exact h4
  unfold fPH_verify fM_verify
  rw [ltM_eq, q_z5, h9]
  generalize wI t 549 0 (cI 0) = t at *
  by_cases z : s.1 9 9 = 0
  rotate_left
  · rw [if_neg z, if_neg z, ok_some, ok_some]
  rw [if_pos z, if_pos z]
  obtain ⟨g1, g2⟩ := g4
  have nx := ix_toNat (s.1 9 4)
  have key : ∀ (r m m' k : Nat), k + r = ix (s.1 9 4) + 1 → r < m → r < m' → 1 ≤ k → ∃ v : Int32, fLog_firstBad_h2 s m (cI (k : Int)) = some v ∧ fM_verify_h17 m' t (cI (k : Int)) = some (t, v) := by
    intro r
    induction r with
    | zero =>
      intro m m' k hk hm hm' h1
      obtain ⟨m, rfl⟩ : ∃ k, m = k + 1 := ⟨m - 1, by omega⟩
      obtain ⟨m', rfl⟩ : ∃ k, m' = k + 1 := ⟨m' - 1, by omega⟩
      have nl : ¬ cI (k : Int) ≤ s.1 9 4 := by rw [le_i, q_ti (by omega)]; omega
      refine ⟨cI (-1), ?_, ?_⟩
      · rw [fLog_firstBad_h2, if_neg nl]
      · rw [fM_verify_h17, h4', if_neg nl]
        unfold fM_verify_b39
        rw [h4', if_neg nl]
    | succ r ih =>
      intro m m' k hk hm hm' h1
      obtain ⟨m, rfl⟩ : ∃ k, m = k + 1 := ⟨m - 1, by omega⟩
      obtain ⟨m', rfl⟩ : ∃ k, m' = k + 1 := ⟨m' - 1, by omega⟩
      have lt : cI (k : Int) ≤ s.1 9 4 := by rw [le_i, q_ti (by omega)]; omega
      obtain ⟨v, v1, v2, -⟩ := right_ok D' h1 (show k ≤ 150 by omega)
      by_cases y : v = 0
      · refine ⟨cI (k : Int), ?_, ?_⟩
        · rw [fLog_firstBad_h2, if_pos lt, v1, bd1_some, if_pos y]
        · rw [fM_verify_h17, h4', if_pos lt, v2, bd1_some, if_pos y]
          unfold fM_verify_b39
          rw [h4', if_pos lt]
      · obtain ⟨u, u1, u2⟩ := ih m m' (k + 1) (by omega) (by omega) (by omega) (by omega)
        refine ⟨u, ?_, ?_⟩
        · rw [fLog_firstBad_h2, if_pos lt, v1, bd1_some, if_neg y, q_s (by omega)]; exact u1
        · rw [fM_verify_h17, h4', if_pos lt, v2, bd1_some, if_neg y, q_s (by omega)]; exact u2
  obtain ⟨v, v1, v2⟩ := key (ix (s.1 9 4)) 1048576 1048576 1 (by omega) (by omega) (by omega) (Nat.le_refl _)
  have v1' : fLog_firstBad s = some v := v1
  have v2' : fM_verify_h17 1048576 t (cI 1) = some (t, v) := v2
  rw [v1', v2', bd1_some, ok_some, ok_some]
end
theorem lc_5 {L i : Nat} {m : ev_M} (H : II L i m) (hi : i ≤ 64) : LC_5 (II L (i + 1)) m := by
  unfold LC_5
  exact ii_ask H (fun q h => fr_fM_verify h) (by decide +kernel) (by decide +kernel) (by decide +kernel) (fun q hq hR => q_verify hR.2.2.1.2.1.1 hR.2.2.1.2.2.1.1 hR.2.2.1.2.2.1.2 hR.2.2.1.2.2.2.2.2.2.2) hi
