/-! ===== LEVEL 3: a line leaves ===== -/
theorem cb_C {s : ev_M} {x1 : Int32} (h0 : 0 ≤ (s.1 449 6).toInt) (h80 : (s.1 449 6).toInt ≤ 80) : ∀ (r m k : Nat) (x2 : Int32), k + r = ix (s.1 449 6) → r < m → x2.toInt = (cntE (s.1 463) x1 k : Int) → ∃ v, fLines_carriedBy_h4 s m x1 x2 (cI (k : Int)) = some v ∧ v.toInt = (cntE (s.1 463) x1 (ix (s.1 449 6)) : Int)
  | 0, m, k, x2, hk, hm, hx => by
    obtain ⟨m, rfl⟩ : ∃ k, m = k + 1 := ⟨m - 1, by omega⟩
    have bb := ix_toNat (s.1 449 6)
    refine ⟨x2, ?_, by rw [hx, show k = ix (s.1 449 6) by omega]⟩
    rw [fLines_carriedBy_h4, if_neg (by rw [lt_i, k_ti (by omega)]; omega)]
  | r + 1, m, k, x2, hk, hm, hx => by
    obtain ⟨m, rfl⟩ : ∃ k, m = k + 1 := ⟨m - 1, by omega⟩
    have bb := ix_toNat (s.1 449 6)
    have lt : cI (k : Int) < s.1 449 6 := by rw [lt_i, k_ti (by omega)]; omega
    have kb : inb (cI (k : Int)) 80 = true := k_in (by omega) (by decide)
    have kx : ix (cI (k : Int)) = k := k_ix (by omega)
    have cl := cntE_le (f := s.1 463) (x := x1) k
    have cs : cntE (s.1 463) x1 (k + 1) = cntE (s.1 463) x1 k + (if s.1 463 k = x1 then 1 else 0) := rfl
    rw [fLines_carriedBy_h4, if_pos lt]
    simp (disch := decide) only [if_pos kb, kx, ix_0, ix_1, ix_2, ix_3, ix_4, ix_5, ix_6, ix_7, ix_8, ix_9, ix_10, ix_11, ix_12, ix_13, ix_14, ix_15, ix_16, ix_17, ix_18, ix_19, ix_20, ix_21, Nat.reduceAdd, wI_c, wI_ne, wL_1, lupd_ne, up1_eq, up1_ne, fLines_carriedBy_b27]
    rw [k_s (by omega)]
    by_cases z : s.1 463 k = x1
    · rw [if_pos z]
      rw [if_pos z] at cs
      exact cb_C h0 h80 r m (k + 1) (x2 + cI 1) (by omega) (by omega) (by rw [inc_i (by omega)]; omega)
    · rw [if_neg z]
      rw [if_neg z] at cs
      exact cb_C h0 h80 r m (k + 1) x2 (by omega) (by omega) (by omega)
theorem cb_M {s t : ev_M} {l : Nat} {X : Int} (hB : RBg s t) (hX : 0 ≤ X ∧ X ≤ 20) (hl : l < 20) : ∀ (r m k : Nat) (x2 : Int32), k + r = ix (s.1 449 6) → r < m → x2.toInt = X - (cntE (s.1 463) (cI (l : Int)) k : Int) → ∃ v, fM_departs_h9 m t (cI (l : Int)) x2 (cI (k : Int)) = fM_departs_h56 1048576 t (cI (l : Int)) v (cI 0) (cI 0) ∧ v.toInt = X - (cntE (s.1 463) (cI (l : Int)) (ix (s.1 449 6)) : Int)
  | 0, m, k, x2, hk, hm, hx => by
    obtain ⟨m, rfl⟩ : ∃ k, m = k + 1 := ⟨m - 1, by omega⟩
    obtain ⟨⟨n1, n2, n3⟩, -⟩ := id hB
    have bb := ix_toNat (s.1 449 6)
    refine ⟨x2, ?_, by rw [hx, show k = ix (s.1 449 6) by omega]⟩
    rw [fM_departs_h9, n1, if_neg (by rw [lt_i, k_ti (by omega)]; omega)]
  | r + 1, m, k, x2, hk, hm, hx => by
    obtain ⟨m, rfl⟩ : ∃ k, m = k + 1 := ⟨m - 1, by omega⟩
    obtain ⟨⟨n1, n2, n3⟩, g1, g2, g3, g4, g5, -⟩ := id hB
    have bb := ix_toNat (s.1 449 6)
    have lt : cI (k : Int) < s.1 449 6 := by rw [lt_i, k_ti (by omega)]; omega
    have kb : inb (cI (k : Int)) 80 = true := k_in (by omega) (by decide)
    have kx : ix (cI (k : Int)) = k := k_ix (by omega)
    have hk' : k < ix (s.1 449 6) := by omega
    have cl := cntE_le (f := s.1 463) (x := cI (l : Int)) k
    have cs : cntE (s.1 463) (cI (l : Int)) (k + 1) = cntE (s.1 463) (cI (l : Int)) k + (if s.1 463 k = cI (l : Int) then 1 else 0) := rfl
    rw [fM_departs_h9, n1, if_pos lt]
    simp (disch := decide) only [if_pos kb, kx, g1 k hk', g3 k hk', fM_departs_b44, fM_departs_b43]
    rw [k_s (by omega)]
    by_cases z : s.1 463 k = cI (l : Int)
    · have z2 : s.1 459 k = cI 2 := by
        apply Classical.byContradiction
        intro w
        have := ((g5 k hk').1 w).2.1
        rw [z] at this
        exact neg1_ne (n := l) (by omega) this.symm
      rw [if_pos z] at cs
      rw [if_pos z2, if_pos z]
      exact cb_M hB hX hl r m (k + 1) (x2 - cI 1) (by omega) (by omega) (by rw [sub_b (by rw [show (cI 1).toInt = 1 from rfl]; omega) (by rw [show (cI 1).toInt = 1 from rfl]; omega), show (cI 1).toInt = 1 from rfl]; omega)
    · rw [if_neg z] at cs
      rw [if_neg z, ite_self]
      exact cb_M hB hX hl r m (k + 1) x2 (by omega) (by omega) (by omega)
theorem h_a {a b : Nat} {x y : Int} (w : a ≤ b + 1) (h : (b : Int) + x ≤ y) (p : 0 < x) : (a : Int) ≤ y := by omega
theorem h_b {a b : Nat} {x y : Int} (w : a ≤ b + 1) (h : (b : Int) + x ≤ y) : (a : Int) + (x - 1) ≤ y := by omega
theorem h_c {a b : Nat} {y : Int} (w : a ≤ b) (h : (b : Int) ≤ y) : (a : Int) ≤ y := by omega
/-- a bag waits where the line leaves -/
def wtB (s : ev_M) (l q : Nat) : Prop := s.1 459 q = cI 1 ∧ s.1 460 q = s.1 451 l
theorem wt_M {s t : ev_M} {l : Nat} {x2 : Int32} (hB : RBg s t) (hl : l < 20) (h6 : t.1 611 l = s.1 451 l) : ∀ (r m k : Nat) (x3 : Int32), k + r = ix (s.1 449 6) → r < m → (x3 = cI 0 ∨ x3 = cI 1) → (x3 = cI 0 ↔ ∀ q, q < k → ¬ wtB s l q) → ∃ v, (v = cI 0 ∨ v = cI 1) ∧ (v = cI 0 ↔ ∀ q, q < ix (s.1 449 6) → ¬ wtB s l q) ∧ fM_departs_h56 m t (cI (l : Int)) x2 x3 (cI (k : Int)) = if v = 0 then fM_departs_h125 1048576 t (cI (l : Int)) x2 v (cI 0) else bd1 (fM_findWays t (s.1 451 l)) fun s7 => fM_departs_h125 1048576 s7 (cI (l : Int)) x2 v (cI 0)
  | 0, m, k, x3, hk, hm, h01, hx => by
    obtain ⟨m, rfl⟩ : ∃ k, m = k + 1 := ⟨m - 1, by omega⟩
    obtain ⟨⟨n1, n2, n3⟩, -⟩ := id hB
    have bb := ix_toNat (s.1 449 6)
    have lb : inb (cI (l : Int)) 20 = true := k_in (by omega) (by decide)
    refine ⟨x3, h01, by rw [show ix (s.1 449 6) = k by omega]; exact hx, ?_⟩
    rw [fM_departs_h56, n1, if_neg (by rw [lt_i, k_ti (by omega)]; omega)]
    simp only [if_pos lb, fM_departs_b122, k_ix (show l < 1000 by omega), h6]
  | r + 1, m, k, x3, hk, hm, h01, hx => by
    obtain ⟨m, rfl⟩ : ∃ k, m = k + 1 := ⟨m - 1, by omega⟩
    obtain ⟨⟨n1, n2, n3⟩, g1, g2, g3, g4, g5, -⟩ := id hB
    have bb := ix_toNat (s.1 449 6)
    have lt : cI (k : Int) < s.1 449 6 := by rw [lt_i, k_ti (by omega)]; omega
    have kb : inb (cI (k : Int)) 80 = true := k_in (by omega) (by decide)
    have kx : ix (cI (k : Int)) = k := k_ix (by omega)
    have hk' : k < ix (s.1 449 6) := by omega
    have lb : inb (cI (l : Int)) 20 = true := k_in (by omega) (by decide)
    rw [fM_departs_h56, n1, if_pos lt]
    simp (disch := decide) only [if_pos kb, kx, if_pos lb, k_ix (show l < 1000 by omega), h6, g1 k hk', fM_departs_b96, fM_departs_b100, fM_departs_b101]
    rw [k_s (by omega)]
    have n10 : ¬ cI 1 = cI 0 := by decide
    by_cases z : x3 = 0
    · rw [if_pos z]
      have z9 : x3 = cI 0 := z
      have z8 := hx.mp z9
      by_cases u : s.1 459 k = cI 1
      · have u2 := ((g5 k hk').1 (by rw [u]; decide)).1
        rw [if_pos u, u2]
        by_cases w : s.1 460 k = s.1 451 l
        · rw [if_pos w]
          exact wt_M hB hl h6 r m (k + 1) (cI 1) (by omega) (by omega) (Or.inr rfl) ⟨fun v => absurd v n10, fun v => absurd ⟨u, w⟩ (v k (by omega))⟩
        · rw [if_neg w]
          refine wt_M hB hl h6 r m (k + 1) (cI 0) (by omega) (by omega) (Or.inl rfl) ⟨fun _ q hq v => ?_, fun _ => rfl⟩
          by_cases y : q = k
          · rw [y] at v; exact w v.2
          · exact z8 q (by omega) v
      · rw [if_neg u]
        refine wt_M hB hl h6 r m (k + 1) (cI 0) (by omega) (by omega) (Or.inl rfl) ⟨fun _ q hq v => ?_, fun _ => rfl⟩
        by_cases y : q = k
        · rw [y] at v; exact u v.1
        · exact z8 q (by omega) v
    · rw [if_neg z]
      refine wt_M hB hl h6 r m (k + 1) (cI 1) (by omega) (by omega) (Or.inr rfl) ⟨fun v => absurd v n10, fun v => ?_⟩
      exact absurd (hx.mpr (fun q hq => v q (by omega))) z
theorem ld_M0 {t : ev_M} {x1 x2 x4 : Int32} {m : Nat} : fM_departs_h125 (m + 1) t x1 x2 (cI 0) x4 = fM_departs_b240 t x1 := by
  rw [fM_departs_h125]
  simp only [show cI 0 = 0 from rfl, if_true, ite_self]
/-- no room left: no bag more goes -/
theorem ld_M1 {s t : ev_M} {l : Nat} {x2 : Int32} (hB : RBg s t) (hl : l < 20) (h30 : (s.1 30 2).toInt ≤ 12) (hx : x2 ≤ 0) : ∀ (r m k : Nat), k + r = ix (s.1 449 6) → r < m → fM_departs_h125 m t (cI (l : Int)) x2 (cI 1) (cI (k : Int)) = fM_departs_b240 t (cI (l : Int))
  | 0, m, k, hk, hm => by
    obtain ⟨m, rfl⟩ : ∃ k, m = k + 1 := ⟨m - 1, by omega⟩
    obtain ⟨⟨n1, n2, n3⟩, -⟩ := id hB
    have bb := ix_toNat (s.1 449 6)
    rw [fM_departs_h125, n1, if_neg (by rw [lt_i, k_ti (by omega)]; omega)]
  | r + 1, m, k, hk, hm => by
    obtain ⟨m, rfl⟩ : ∃ k, m = k + 1 := ⟨m - 1, by omega⟩
    obtain ⟨⟨n1, n2, n3⟩, g1, g2, g3, g4, g5, b1, b2, b3, b4⟩ := id hB
    have bb := ix_toNat (s.1 449 6)
    have lt : cI (k : Int) < s.1 449 6 := by rw [lt_i, k_ti (by omega)]; omega
    have kb : inb (cI (k : Int)) 80 = true := k_in (by omega) (by decide)
    have kx : ix (cI (k : Int)) = k := k_ix (by omega)
    have hk' : k < ix (s.1 449 6) := by omega
    have lb : inb (cI (l : Int)) 20 = true := k_in (by omega) (by decide)
    have eb : inb (s.1 461 k) 12 = true := inb_iff.mpr ⟨(b3 k hk').1, by have := (b3 k hk').2; omega⟩
    rw [fM_departs_h125, n1, if_pos lt]
    simp (disch := decide) only [if_pos kb, kx, if_pos lb, g1 k hk', g2 k hk', if_pos eb, if_neg (show ¬ cI 1 = 0 by decide), fM_departs_b185, fM_departs_b186, fM_departs_b234, if_pos (show cI 0 = 0 from rfl), if_pos hx, ite_self]
    rw [k_s (by omega)]
    exact ld_M1 hB hl h30 hx r m (k + 1) (by omega) (by omega)
/-- no bag waits: the class loads none -/
theorem ld_C0 {s : ev_M} {l : Nat} (h0 : 0 ≤ (s.1 449 6).toInt) (h80 : (s.1 449 6).toInt ≤ 80) (hl : l < 20) (hw : ∀ q, q < ix (s.1 449 6) → ¬ wtB s l q) {x2 : Int32} : ∀ (r m k : Nat), k + r = ix (s.1 449 6) → r < m → fLines_load_h29 m s (cI (l : Int)) x2 (cI (k : Int)) = some s
  | 0, m, k, hk, hm => by
    obtain ⟨m, rfl⟩ : ∃ k, m = k + 1 := ⟨m - 1, by omega⟩
    have bb := ix_toNat (s.1 449 6)
    rw [fLines_load_h29, if_neg (by rw [lt_i, k_ti (by omega)]; omega)]
  | r + 1, m, k, hk, hm => by
    obtain ⟨m, rfl⟩ : ∃ k, m = k + 1 := ⟨m - 1, by omega⟩
    have bb := ix_toNat (s.1 449 6)
    have lt : cI (k : Int) < s.1 449 6 := by rw [lt_i, k_ti (by omega)]; omega
    have kb : inb (cI (k : Int)) 80 = true := k_in (by omega) (by decide)
    have kx : ix (cI (k : Int)) = k := k_ix (by omega)
    have lb : inb (cI (l : Int)) 20 = true := k_in (by omega) (by decide)
    have ih := ld_C0 h0 h80 hl hw (x2 := x2) r m (k + 1) (by omega) (by omega)
    have hwk := hw k (by omega)
    rw [fLines_load_h29, if_pos lt]
    simp (disch := decide) only [if_pos kb, kx, if_pos lb, k_ix (show l < 1000 by omega), ix_0, ix_1, ix_2, ix_3, ix_4, ix_5, ix_6, ix_7, ix_8, ix_9, ix_10, ix_11, ix_12, ix_13, ix_14, ix_15, ix_16, ix_17, ix_18, ix_19, ix_20, ix_21, Nat.reduceAdd, wI_c, wI_ne, wL_1, lupd_ne, up1_eq, up1_ne, fLines_load_b76, fLines_load_b77, fLines_load_b158, if_pos (show cI 0 = 0 from rfl), if_neg (show ¬ cI 1 = 0 by decide), k_s (show k < 999 by omega), ih]
    by_cases u : s.1 459 k = cI 1
    · rw [if_pos u, if_neg (fun w => hwk ⟨u, w⟩), ite_self]
    · rw [if_neg u, ite_self]
theorem RBg.lod {s t : ev_M} {b l : Nat} {m : Int32} (h : RBg s t) (hl : l < ix (s.1 449 4)) (h4 : (s.1 449 4).toInt ≤ 20) (h30 : 0 ≤ (s.1 30 2).toInt) : RBg (avC s b (cI 2) (cI (-1)) (cI (l : Int)) m) (wI (wI (wI t 618 b (cI 2)) 621 b (cI (l : Int))) 622 b m) := by
  obtain ⟨n1, g1, g2, g3, g4, g5, b1, b2, b3, b4⟩ := h
  have ll := ix_toNat (s.1 449 4)
  unfold RBg avC
  simp (disch := decide) only [ix_0, ix_1, ix_2, ix_3, ix_4, ix_5, ix_6, ix_7, ix_8, ix_9, ix_10, ix_11, ix_12, ix_13, ix_14, ix_15, ix_16, ix_17, ix_18, ix_19, ix_20, ix_21, Nat.reduceAdd, wI_c, wI_ne, wL_1, lupd_ne, up1_eq, up1_ne]
  refine ⟨n1, g1.up, g2, g3.up, g4.up, fun q hq => ?_, b1.set (by decide), b2.set ⟨by decide, by show (-1 : Int) ≤ _; omega⟩, b3, b4.set ⟨by rw [k_ti (by omega)]; omega, by rw [k_ti (by omega)]; omega⟩⟩
  by_cases z : q = b
  · rw [z]
    simp only [up1_eq]
    exact ⟨fun w => absurd rfl w, fun _ => ⟨trivial, by rw [k_ti (by omega)]; omega, by rw [k_ti (by omega)]; omega⟩⟩
  · simp only [up1_ne z]
    exact g5 q hq
theorem ld_lp {k l : Nat} : ∀ (r m m' b : Nat) (s t : ev_M) (x2 : Int32), b + r = ix (s.1 449 6) → r < m → r < m' → RLw k s t → RBg s t → RAv s t → t.1 549 22 = s.1 15 1 → 0 ≤ (s.1 15 1).toInt → (s.1 15 1).toInt ≤ 1000000000 → 0 ≤ (s.1 30 2).toInt → (s.1 30 2).toInt ≤ 12 → l < ix (s.1 449 4) → Sw (ix (s.1 30 2)) s t → (0 < x2.toInt → (cntE (s.1 463) (cI (l : Int)) (ix (s.1 449 6)) : Int) + x2.toInt ≤ (s.1 455 l).toInt) → ∃ s' t', fLines_load_h29 m s (cI (l : Int)) x2 (cI (b : Int)) = some s' ∧ fM_departs_h125 m' t (cI (l : Int)) x2 (cI 1) (cI (b : Int)) = fM_departs_b240 t' (cI (l : Int)) ∧ RBg s' t' ∧ RAv s' t' ∧ fr FavC s s' ∧ fr FavM t t'
  | 0, m, m', b, s, t, x2, hb, hm, hm', hL, hB, hA, hT, hT0, hT1, h0, h30, hl, hS, hC => by
    obtain ⟨m, rfl⟩ : ∃ k, m = k + 1 := ⟨m - 1, by omega⟩
    obtain ⟨m', rfl⟩ : ∃ k, m' = k + 1 := ⟨m' - 1, by omega⟩
    obtain ⟨⟨n1, n2, n3⟩, -⟩ := id hB
    have bb := ix_toNat (s.1 449 6)
    have nl : ¬ cI (b : Int) < s.1 449 6 := by rw [lt_i, k_ti (by omega)]; omega
    refine ⟨s, t, ?_, ?_, hB, hA, fr.rf, fr.rf⟩
    · rw [fLines_load_h29, if_neg nl]
    · rw [fM_departs_h125, n1, if_neg nl]
  | r + 1, m, m', b, s, t, x2, hb, hm, hm', hL, hB, hA, hT, hT0, hT1, h0, h30, hl, hS, hC => by
    obtain ⟨m, rfl⟩ : ∃ k, m = k + 1 := ⟨m - 1, by omega⟩
    obtain ⟨m', rfl⟩ : ∃ k, m' = k + 1 := ⟨m' - 1, by omega⟩
    obtain ⟨⟨n1, n2, n3⟩, g1, g2, g3, g4, g5, b1, b2, b3, b4⟩ := id hB
    obtain ⟨⟨l1, l2, l3⟩, f1, f2, f3, f4, f5, f6, f7, e1, e2, e3, e4, -⟩ := id hL
    have bb := ix_toNat (s.1 449 6)
    have ll := ix_toNat (s.1 449 4)
    have lt : cI (b : Int) < s.1 449 6 := by rw [lt_i, k_ti (by omega)]; omega
    have ib : inb (cI (b : Int)) 80 = true := k_in (by omega) (by decide)
    have xb : ix (cI (b : Int)) = b := k_ix (by omega)
    have hb' : b < ix (s.1 449 6) := by omega
    have lb : inb (cI (l : Int)) 20 = true := k_in (by omega) (by decide)
    have xl : ix (cI (l : Int)) = l := k_ix (by omega)
    obtain ⟨en1, en2⟩ := b3 b hb'
    have eb : inb (s.1 461 b) 12 = true := inb_iff.mpr ⟨en1, by omega⟩
    have ee : t.1 676 (ix (s.1 461 b)) = s.1 547 (ix (s.1 461 b)) := hS.2.1 _ (by rw [ix_toNat, ix_toNat]; omega)
    by_cases x0 : x2 ≤ 0
    · refine ⟨s, t, ?_, ld_M1 hB (by omega) h30 x0 (r + 1) (m' + 1) b hb (by omega), hB, hA, fr.rf, fr.rf⟩
      rw [fLines_load_h29, if_pos lt, if_pos x0]
    by_cases z : (s.1 459 b = cI 1 ∧ s.1 460 b = s.1 451 l) ∧ s.1 547 (ix (s.1 461 b)) = cI (l : Int)
    · obtain ⟨⟨z1, z2⟩, z3⟩ := z
      have u2 := ((g5 b hb').1 (by rw [z1]; decide)).1
      obtain ⟨tk1, tk2⟩ := e4 l hl
      obtain ⟨v, ev⟩ : ∃ v, v = s.1 15 1 + s.1 454 l := ⟨_, rfl⟩
      have vb : v.toInt = (s.1 15 1).toInt + (s.1 454 l).toInt := by rw [ev]; exact add_b (by omega) (by omega)
      have w1 : fr FavC s (avC s b (cI 2) (cI (-1)) (cI (l : Int)) v) := avC_fr
      have w2 : fr FavM t (wI (wI (wI t 618 b (cI 2)) 621 b (cI (l : Int))) 622 b v) := ((fr.rf.wI rfl).wI rfl).wI rfl
      have e449 := (w1.1 449 6 rfl).1
      have e4494 := (w1.1 449 4 rfl).1
      have e15 := (w1.1 15 1 rfl).1
      have e30 := (w1.1 30 2 rfl).1
      have e455 : (avC s b (cI 2) (cI (-1)) (cI (l : Int)) v).1 455 = s.1 455 := funext fun i => (w1.1 455 i rfl).1
      have c463 : (avC s b (cI 2) (cI (-1)) (cI (l : Int)) v).1 463 = up1 (s.1 463) b (cI (l : Int)) := by unfold avC; simp (disch := decide) only [ix_0, ix_1, ix_2, ix_3, ix_4, ix_5, ix_6, ix_7, ix_8, ix_9, ix_10, ix_11, ix_12, ix_13, ix_14, ix_15, ix_16, ix_17, ix_18, ix_19, ix_20, ix_21, Nat.reduceAdd, wI_c, wI_ne, wL_1, lupd_ne, up1_eq, up1_ne]
      have x2p : 0 < x2.toInt := by rw [le_i, show (0 : Int32).toInt = 0 from rfl] at x0; omega
      have hC := hC x2p
      have x2d : (x2 + cI (-1)).toInt = x2.toInt - 1 := dec_i (by omega)
      have c459 : (avC s b (cI 2) (cI (-1)) (cI (l : Int)) v).1 459 = up1 (s.1 459) b (cI 2) := by unfold avC; simp (disch := decide) only [ix_0, ix_1, ix_2, ix_3, ix_4, ix_5, ix_6, ix_7, ix_8, ix_9, ix_10, ix_11, ix_12, ix_13, ix_14, ix_15, ix_16, ix_17, ix_18, ix_19, ix_20, ix_21, Nat.reduceAdd, wI_c, wI_ne, wL_1, lupd_ne, up1_eq, up1_ne]
      have c464 : (avC s b (cI 2) (cI (-1)) (cI (l : Int)) v).1 464 = up1 (s.1 464) b v := by unfold avC; simp (disch := decide) only [ix_0, ix_1, ix_2, ix_3, ix_4, ix_5, ix_6, ix_7, ix_8, ix_9, ix_10, ix_11, ix_12, ix_13, ix_14, ix_15, ix_16, ix_17, ix_18, ix_19, ix_20, ix_21, Nat.reduceAdd, wI_c, wI_ne, wL_1, lupd_ne, up1_eq, up1_ne]
      obtain ⟨s', t', v1, v2, v3, v4, v5, v6⟩ := ld_lp r m m' (b + 1) (avC s b (cI 2) (cI (-1)) (cI (l : Int)) v) (wI (wI (wI t 618 b (cI 2)) 621 b (cI (l : Int))) 622 b v) (x2 + cI (-1)) (by rw [e449]; omega) (by omega) (by omega) (hL.keep w1 w2 (by decide +kernel) (by decide +kernel)) (hB.lod hl l3 h0) (by
        unfold RAv
        rw [e449, e15, c459, c464, c463, e4494, e455]
        refine ⟨fun q h1 h2 => ?_, fun q h1 => ?_⟩
        · by_cases y : q = b
          · rw [y, up1_eq, vb]; exact ⟨by omega, by omega⟩
          · rw [up1_ne y] at h2 ⊢; exact hA.1 q h1 h2
        · by_cases y : q = l
          · rw [y]
            have w := cnt_u1 (f := s.1 463) (b := b) (v := cI (l : Int)) (x := cI (l : Int)) (ix (s.1 449 6))
            rw [if_pos hb'] at w
            exact h_a w hC x2p
          · have w := cnt_un (f := s.1 463) (b := b) (show ¬ cI (l : Int) = cI (q : Int) by rw [eq_i, k_ti (by omega), k_ti (by omega)]; omega) (ix (s.1 449 6))
            exact h_c w (hA.2 q h1)) (by rw [(w2.1 549 22 rfl).1, e15]; exact hT) (by rw [e15]; exact hT0) (by rw [e15]; exact hT1) (by rw [e30]; exact h0) (by rw [e30]; exact h30) (by rw [e4494]; exact hl) (by
        rw [e30]
        unfold Sw avC
        simp (disch := decide) only [ix_0, ix_1, ix_2, ix_3, ix_4, ix_5, ix_6, ix_7, ix_8, ix_9, ix_10, ix_11, ix_12, ix_13, ix_14, ix_15, ix_16, ix_17, ix_18, ix_19, ix_20, ix_21, Nat.reduceAdd, wI_c, wI_ne, wL_1, lupd_ne, up1_eq, up1_ne]
        exact hS) (fun u => by
        rw [e449, c463, e455]
        rw [x2d] at u ⊢
        have w := cnt_u1 (f := s.1 463) (b := b) (v := cI (l : Int)) (x := cI (l : Int)) (ix (s.1 449 6))
        rw [if_pos hb'] at w
        exact h_b w hC)
      refine ⟨s', t', ?_, ?_, v3, v4, w1.tr v5, w2.tr v6⟩
      · rw [← v1, ← k_s (by omega)]
        rw [fLines_load_h29, if_pos lt]
        simp (disch := decide) only [if_neg x0, if_pos ib, xb, if_pos lb, xl, ltM_eq, ix_0, ix_1, ix_2, ix_3, ix_4, ix_5, ix_6, ix_7, ix_8, ix_9, ix_10, ix_11, ix_12, ix_13, ix_14, ix_15, ix_16, ix_17, ix_18, ix_19, ix_20, ix_21, Nat.reduceAdd, wI_c, wI_ne, wL_1, lupd_ne, up1_eq, up1_ne, z1, z2, z3, if_true, fLines_load_b77, if_neg (show ¬ cI 1 = 0 by decide), if_pos eb, ← ev, fLines_load_b158]
        rfl
      · rw [← v2, ← k_s (by omega)]
        rw [fM_departs_h125, n1, if_pos lt, if_neg (show ¬ cI 1 = 0 by decide)]
        simp (disch := decide) only [if_pos ib, xb, if_pos lb, xl, ltM_eq, ix_0, ix_1, ix_2, ix_3, ix_4, ix_5, ix_6, ix_7, ix_8, ix_9, ix_10, ix_11, ix_12, ix_13, ix_14, ix_15, ix_16, ix_17, ix_18, ix_19, ix_20, ix_21, Nat.reduceAdd, wI_c, wI_ne, wL_1, lupd_ne, up1_eq, up1_ne, g1 b hb', g2 b hb', z1, u2, f1 l hl, z2, if_true, if_pos eb, ee, z3, fM_departs_b186, if_neg (show ¬ cI 1 = 0 by decide), if_neg x0, f4 l hl, hT, ← ev, fM_departs_b234]
    · obtain ⟨s', t', v1, v2, v3, v4, v5, v6⟩ := ld_lp r m m' (b + 1) s t x2 (by omega) (by omega) (by omega) hL hB hA hT hT0 hT1 h0 h30 hl hS hC
      refine ⟨s', t', ?_, ?_, v3, v4, v5, v6⟩
      · rw [← v1, ← k_s (by omega)]
        rw [fLines_load_h29, if_pos lt]
        simp (disch := decide) only [if_neg x0, if_pos ib, xb, if_pos lb, xl, ix_0, ix_1, ix_2, ix_3, ix_4, ix_5, ix_6, ix_7, ix_8, ix_9, ix_10, ix_11, ix_12, ix_13, ix_14, ix_15, ix_16, ix_17, ix_18, ix_19, ix_20, ix_21, Nat.reduceAdd, wI_c, wI_ne, wL_1, lupd_ne, up1_eq, up1_ne, fLines_load_b76, fLines_load_b77, if_neg (show ¬ cI 1 = 0 by decide), if_pos (show cI 0 = 0 from rfl), if_pos eb, fLines_load_b158]
        by_cases z1 : s.1 459 b = cI 1
        · rw [if_pos z1]
          by_cases z2 : s.1 460 b = s.1 451 l
          · rw [if_pos z2, if_neg (fun z3 => z ⟨⟨z1, z2⟩, z3⟩)]
          · rw [if_neg z2]
        · rw [if_neg z1]
      · rw [← v2, ← k_s (by omega)]
        rw [fM_departs_h125, n1, if_pos lt, if_neg (show ¬ cI 1 = 0 by decide)]
        simp (disch := decide) only [if_pos ib, xb, if_pos lb, xl, g1 b hb', g2 b hb', f1 l hl, if_pos eb, ee, fM_departs_b185, fM_departs_b186, if_pos (show cI 0 = 0 from rfl), if_neg (show ¬ cI 1 = 0 by decide), if_neg x0, fM_departs_b234]
        by_cases z1 : s.1 459 b = cI 1
        · have u2 := ((g5 b hb').1 (by rw [z1]; decide)).1
          rw [if_pos z1, u2]
          by_cases z2 : s.1 460 b = s.1 451 l
          · rw [if_pos z2, if_neg (fun z3 => z ⟨⟨z1, z2⟩, z3⟩)]
          · rw [if_neg z2]
        · rw [if_neg z1]
