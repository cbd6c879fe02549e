/-! ===== LEVEL 3: the sheet: a line begun, a part kept ===== -/
theorem e_mnf {s : ev_M} {m f : Int32} : fMath_min s m f = some (if f < m then f else m) := by
  unfold fMath_min
  by_cases z : f < m
  · rw [if_pos z, if_neg (fun u => by rw [le_i] at u; rw [lt_i] at z; omega)]
  · rw [if_neg z, if_pos (by rw [lt_i] at z; rw [le_i]; omega)]
/-- the least of some, as the reference finds it -/
def mnC (f : Nat → Int32) (lo : Nat) : Nat → Int32
  | 0 => cI 4096
  | j + 1 => if f (lo + j) < mnC f lo j then f (lo + j) else mnC f lo j
theorem bl_ok {a p L : Nat} {s : ev_M} (ha : a < 200) (hL : L ≤ 9) (e13 : s.1 52 13 = cI (L : Int)) : fSheet_beginLine s (cI (p : Int)) (cI (a : Int)) = some (wI (wI (wI (wI (wI s 66 L (cI (p : Int))) 63 L (cI 0)) 64 L (s.1 57 a)) 65 L (s.1 56 a)) 52 13 (cI ((L + 1 : Nat) : Int))) := by
  have ab : inb (cI (a : Int)) 200 = true := q_in ha (by decide)
  have ax : ix (cI (a : Int)) = a := q_ix (by omega)
  have Lb : inb (cI (L : Int)) 10 = true := q_in (by omega) (by decide)
  have Lx : ix (cI (L : Int)) = L := q_ix (by omega)
  unfold fSheet_beginLine
  simp only [show 63 + ix (cI 3) = 66 from rfl, show 63 + ix (cI 0) = 63 from rfl, show 63 + ix (cI 1) = 64 from rfl, show 63 + ix (cI 2) = 65 from rfl, show 56 + ix (cI 1) = 57 from rfl, show 56 + ix (cI 0) = 56 from rfl]
  simp (disch := decide) only [ltM_eq, ix_0, ix_1, ix_2, ix_3, ix_4, ix_5, ix_6, ix_7, ix_8, ix_9, ix_10, ix_11, ix_12, ix_13, ix_14, ix_15, ix_16, ix_17, ix_18, ix_19, ix_20, ix_21, Nat.reduceAdd, wI_c, wI_ne, wL_1, lupd_ne, up1_eq, up1_ne, e13, if_pos Lb, if_pos ab, Lx, ax, q_s (show L < 99999 by omega)]
theorem kl_ok {w h n a p L cN : Nat} {g : Nat → Nat} {s t : ev_M} {x3 : Int32} {k7 : ev_M → Int32 → Option ev_M} (H : Lc w h n g s t) (Sy : Sym s t) (ha : a < n) (hp : p < 200) (hL : L ≤ 9) (e13 : s.1 52 13 = cI ((L + 1 : Nat) : Int)) (e63 : s.1 63 L = cI (cN : Int)) (hc : cN < 200) : ∃ s', fSheet_keepLines_b78 k7 s (cI (p : Int)) (cI (a : Int)) x3 = k7 s' (cI ((p + 1 : Nat) : Int)) ∧ (s'.1 63 L = cI ((cN + 1 : Nat) : Int) ∧ s'.1 64 L = (if s.1 57 a < s.1 64 L then s.1 57 a else s.1 64 L) ∧ s'.1 65 L = (if s.1 56 a < s.1 65 L then s.1 56 a else s.1 65 L)) ∧ (∀ c j, 63 ≤ c → c ≤ 65 → j ≠ L → s'.1 c j = s.1 c j) ∧ s'.1 66 = s.1 66 ∧ s'.1 52 13 = s.1 52 13 ∧ (s'.1 68 p = s.1 56 a ∧ s'.1 69 p = s.1 57 a ∧ s'.1 70 p = s.1 58 a ∧ s'.1 71 p = s.1 59 a ∧ (s'.1 72 p).toBitVec.toNat < 2 ^ 15 ∧ fSheet_cellsOf s (cI (a : Int)) = some (s'.1 72 p) ∧ fSheet_nearest s (s'.1 72 p) (cI 0) (cI 10) = some (s'.1 73 p) ∧ fSheet_nearest s (s'.1 72 p) (cI 10) (cI 36) = some (s'.1 74 p) ∧ s'.1 75 p = bwV s p a x3) ∧ (∀ c j, 68 ≤ c → c ≤ 75 → j ≠ p → s'.1 c j = s.1 c j) ∧ fr FkbC s s' := by
  have r3 := H.2.2.1.2.2.1
  have ab : inb (cI (a : Int)) 200 = true := q_in (by omega) (by decide)
  have ax : ix (cI (a : Int)) = a := q_ix (by omega)
  have Lb : inb (cI (L : Int)) 10 = true := q_in (by omega) (by decide)
  have Lx : ix (cI (L : Int)) = L := q_ix (by omega)
  have eL : cI ((L + 1 : Nat) : Int) - cI 1 = cI (L : Int) := (q_sb (a := L + 1) (b := 1) (by omega) (by omega)).trans (by rw [Nat.add_sub_cancel])
  obtain ⟨s6, e6⟩ : ∃ s6, s6 = wI (wI (wI s 63 L (cI ((cN + 1 : Nat) : Int))) 64 L (if s.1 57 a < s.1 64 L then s.1 57 a else s.1 64 L)) 65 L (if s.1 56 a < s.1 65 L then s.1 56 a else s.1 65 L) := ⟨_, rfl⟩
  have f6 : fr [(63, 65, 0)] s s6 := by rw [e6]; exact ((fr.rf.wI rfl).wI rfl).wI rfl
  have m6 : fr FkbC s s6 := by rw [e6]; exact ((fr.rf.wI rfl).wI rfl).wI rfl
  obtain ⟨s', b1, ⟨c1, c2, c3, c4, c5, c6, c7, c8, c9⟩, b3, b4⟩ := kb_ok (x3 := x3) (H.kC m6) (Sy.kC m6) ha hp
  have m7 : fr FkbC s6 s' := b4.mono (by decide +kernel)
  have nc : ∀ lo hi : Nat, lo ≤ hi → hi ≤ 36 → fSheet_nearest s6 (s'.1 72 p) (cI (lo : Int)) (cI (hi : Int)) = fSheet_nearest s (s'.1 72 p) (cI (lo : Int)) (cI (hi : Int)) := fun lo hi h1 h2 => ns_cg Sy (Sy.kC m6) c5 h1 h2
  refine ⟨s', ?_, ⟨?_, ?_, ?_⟩, fun c j h1 h2 hj => ?_, ?_, ?_, ⟨?_, ?_, ?_, ?_, c5, ?_, ?_, ?_, ?_⟩, fun c j h1 h2 hj => ?_, m6.tr m7⟩
  · rw [← q_s (show p < 99999 by omega)]
    unfold fSheet_keepLines_b78
    simp only [show 63 + ix (cI 0) = 63 from rfl, show 63 + ix (cI 1) = 64 from rfl, show 63 + ix (cI 2) = 65 from rfl, show 56 + ix (cI 1) = 57 from rfl, show 56 + ix (cI 0) = 56 from rfl, e13, eL, ltI_eq, if_pos Lb, if_pos ab, Lx, ax, e_mnf, bd1_some, ltM_eq]
    simp (disch := decide) only [ix_0, ix_1, ix_2, ix_3, ix_4, ix_5, ix_6, ix_7, ix_8, ix_9, ix_10, ix_11, ix_12, ix_13, ix_14, ix_15, ix_16, ix_17, ix_18, ix_19, ix_20, ix_21, Nat.reduceAdd, wI_c, wI_ne, wL_1, lupd_ne, up1_eq, up1_ne, e63, q_s (show cN < 99999 by omega)]
    rw [← e6, b1, bd1_some]
  · rw [(b4.1 63 L rfl).1, e6]; simp (disch := decide) only [ix_0, ix_1, ix_2, ix_3, ix_4, ix_5, ix_6, ix_7, ix_8, ix_9, ix_10, ix_11, ix_12, ix_13, ix_14, ix_15, ix_16, ix_17, ix_18, ix_19, ix_20, ix_21, Nat.reduceAdd, wI_c, wI_ne, wL_1, lupd_ne, up1_eq, up1_ne]
  · rw [(b4.1 64 L rfl).1, e6]; simp (disch := decide) only [ix_0, ix_1, ix_2, ix_3, ix_4, ix_5, ix_6, ix_7, ix_8, ix_9, ix_10, ix_11, ix_12, ix_13, ix_14, ix_15, ix_16, ix_17, ix_18, ix_19, ix_20, ix_21, Nat.reduceAdd, wI_c, wI_ne, wL_1, lupd_ne, up1_eq, up1_ne]
  · rw [(b4.1 65 L rfl).1, e6]; simp (disch := decide) only [ix_0, ix_1, ix_2, ix_3, ix_4, ix_5, ix_6, ix_7, ix_8, ix_9, ix_10, ix_11, ix_12, ix_13, ix_14, ix_15, ix_16, ix_17, ix_18, ix_19, ix_20, ix_21, Nat.reduceAdd, wI_c, wI_ne, wL_1, lupd_ne, up1_eq, up1_ne]
  · have z : s'.1 c j = s6.1 c j := by
      have : c = 63 ∨ c = 64 ∨ c = 65 := by omega
      rcases this with u | u | u <;> subst u <;> exact (b4.1 _ j rfl).1
    rw [z, e6]
    simp only [wI_1, if_neg hj, ite_self]
  · have z : s'.1 66 = s6.1 66 := funext fun k => (b4.1 66 k rfl).1
    rw [z]
    exact funext fun k => (f6.1 66 k rfl).1
  · rw [(b4.1 52 13 rfl).1]
    exact (f6.1 52 13 rfl).1
  · rw [c1]; exact (f6.1 56 a rfl).1
  · rw [c2]; exact (f6.1 57 a rfl).1
  · rw [c3]; exact (f6.1 58 a rfl).1
  · rw [c4]; exact (f6.1 59 a rfl).1
  · rw [← c6]; exact (kb_cg H m6 ha).symm
  · rw [← c7]; exact (nc 0 10 (by decide) (by decide)).symm
  · rw [← c8]; exact (nc 10 36 (by decide) (by decide)).symm
  · rw [c9]
    unfold bwV
    rw [(f6.1 56 a rfl).1, (f6.1 68 (p - 1) rfl).1, (f6.1 70 (p - 1) rfl).1, (f6.1 71 (p - 1) rfl).1]
  · rw [b3 c j h1 h2 hj]
    have : c = 68 ∨ c = 69 ∨ c = 70 ∨ c = 71 ∨ c = 72 ∨ c = 73 ∨ c = 74 ∨ c = 75 := by omega
    rcases this with u | u | u | u | u | u | u | u <;> subst u <;> exact (f6.1 _ j rfl).1
/-- where the lines begin -/
theorem ff_mo {g : Nat → Nat} {n r r' : Nat} (h : r ≤ r') : cntE (blw g r) 1 n ≤ cntE (blw g r') 1 n := by
  induction n with
  | zero => exact Nat.le_refl _
  | succ k ih =>
    rw [cntE_s, cntE_s]
    unfold blw at ih ⊢
    have n01 : ¬ (0 : Int32) = 1 := by decide
    by_cases z : g k < r
    · rw [if_pos z, if_pos (show g k < r' by omega)]; omega
    · rw [if_neg z, if_neg n01]; omega
theorem bf_lt {g : Nat → Nat} {s : ev_M} {a : Nat} : ∀ k, cntE (bfR g s a) 1 k + (if a < k then 1 else 0) ≤ cntE (eqR g (g a)) 1 k
  | 0 => by rw [if_neg (Nat.not_lt_zero _)]; exact Nat.le_refl _
  | k + 1 => by
    have ih := bf_lt (g := g) (s := s) (a := a) k
    have n01 : ¬ (0 : Int32) = 1 := by decide
    rw [cntE_s, cntE_s]
    by_cases z : k = a
    · have e0 : bfR g s a k = 0 := by
        unfold bfR rcn
        rw [z, if_neg (fun u => by
          have := u.2
          rw [if_neg (by omega)] at this
          exact n01 this)]
      have e1 : eqR g (g a) k = 1 := by unfold eqR; rw [z, if_pos rfl]
      rw [e0, e1, if_neg n01, if_pos rfl, if_pos (show a < k + 1 by omega)]
      omega
    · have le : (if bfR g s a k = 1 then 1 else 0) ≤ (if eqR g (g a) k = 1 then 1 else 0 : Nat) := by
        by_cases y : bfR g s a k = 1
        · have : g k = g a := by
            unfold bfR at y
            by_cases v : g k = g a ∧ rcn (kyP s) a k = 1
            · exact v.1
            · rw [if_neg v] at y; exact absurd y n01
          have e1 : eqR g (g a) k = 1 := by unfold eqR; rw [if_pos this]
          rw [if_pos y, if_pos e1]; exact Nat.le_refl _
        · rw [if_neg y]; exact Nat.zero_le _
      by_cases x : a < k
      · rw [if_pos x] at ih
        rw [if_pos (show a < k + 1 by omega)]
        omega
      · rw [if_neg x] at ih
        rw [if_neg (show ¬ a < k + 1 by omega)]
        omega
/-- a part stands within its line -/
theorem pos_iv {w h n a : Nat} {g : Nat → Nat} {s t : ev_M} (H : Lc w h n g s t) (ha : a < n) : cntE (blw g (g a)) 1 n ≤ pos n s a ∧ pos n s a < cntE (blw g (g a + 1)) 1 n := by
  have e := rc_sum H ha n (Nat.le_refl _)
  have b := bf_lt (g := g) (s := s) (a := a) n
  rw [if_pos ha] at b
  have f := ff_s (g := g) (r := g a) n
  show _ ≤ cntE (rcn (kyP s) a) 1 n ∧ cntE (rcn (kyP s) a) 1 n < _
  omega
