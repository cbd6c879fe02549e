/-! ===== LEVEL 3: the sheet: the module of its lines and boxes ===== -/
theorem ne_cg {s s' : ev_M} (e : s'.1 1004 = s.1 1004) : ∀ (m : Nat) (x0 x1 x2 x3 x4 x5 : Int32), fSheet_nearest_h8 s' m x0 x1 x2 x3 x4 x5 = fSheet_nearest_h8 s m x0 x1 x2 x3 x4 x5
  | 0, _, _, _, _, _, _ => rfl
  | m + 1, x0, x1, x2, x3, x4, x5 => by
    rw [fSheet_nearest_h8, fSheet_nearest_h8, e]
    unfold fSheet_nearest_b63
    simp only [ne_cg e m]
    rfl
theorem ne_ct {s s' : ev_M} (e : s'.1 1004 = s.1 1004) (a b c : Int32) : fSheet_nearest s' a b c = fSheet_nearest s a b c := ne_cg e _ _ _ _ _ _ _
theorem mnC_cg {f f' : Nat → Int32} {lo : Nat} : ∀ k, (∀ j, j < k → f (lo + j) = f' (lo + j)) → mnC f lo k = mnC f' lo k
  | 0, _ => rfl
  | k + 1, h => by
    simp only [mnC]
    rw [mnC_cg k (fun j hj => h j (by omega)), h k (by omega)]
theorem rk_sur {g : Nat → Nat} {l : Nat} : ∀ K, l < rkN g K → ∃ r, r < K ∧ g r = r ∧ rkN g r = l
  | 0, h => absurd h (Nat.not_lt_zero _)
  | K + 1, h => by
    by_cases z : l < rkN g K
    · obtain ⟨r, h1, h2, h3⟩ := rk_sur K z
      exact ⟨r, by omega, h2, h3⟩
    · simp only [rkN] at h
      by_cases y : g K = K
      · rw [if_pos y] at h
        exact ⟨K, by omega, y, by omega⟩
      · rw [if_neg y] at h
        omega
theorem ff_nx {g : Nat → Nat} {n r x : Nat} (hg : ∀ p, p < n → g p ≤ p ∧ g (g p) = g p) (hx : r + 1 ≤ x) (e : rkN g x = rkN g (r + 1)) : Ff g n x = Ff g n (r + 1) :=
  ff_gap hg hx (fun j h1 h2 h3 => by
    have a := rkN_lt h2 h3
    have b := rkN_mo (g := g) (i := r + 1) j h1
    omega) n (Nat.le_refl _)
/-- the sheet's lines and boxes: class and reference -/
def RSh (s t : ev_M) : Prop := ∃ (L : Nat) (F : Nat → Nat), L ≤ 10 ∧ s.1 52 13 = cI (L : Int) ∧ t.1 549 51 = cI (L : Int) ∧ F 0 = 0 ∧ (∀ l, l < L → F l < F (l + 1)) ∧ F L ≤ 200 ∧ (∀ l, l ≤ L → t.1 577 l = cI (F l : Int)) ∧ (∀ l, l < L → s.1 66 l = cI (F l : Int) ∧ s.1 63 l = cI ((F (l + 1) - F l : Nat) : Int) ∧ s.1 64 l = mnC (t.1 579) (F l) (F (l + 1) - F l) ∧ s.1 65 l = mnC (t.1 578) (F l) (F (l + 1) - F l)) ∧ ∀ q, q < F L → s.1 68 q = t.1 578 q ∧ s.1 69 q = t.1 579 q ∧ s.1 70 q = t.1 580 q ∧ s.1 71 q = t.1 581 q ∧ s.1 72 q = t.1 582 q ∧ (t.1 582 q).toBitVec.toNat < 2 ^ 15 ∧ fSheet_nearest s (t.1 582 q) (cI 0) (cI 10) = some (s.1 73 q) ∧ fSheet_nearest s (t.1 582 q) (cI 10) (cI 36) = some (s.1 74 q) ∧ ((∃ l, l < L ∧ q = F l) ∧ s.1 75 q = cI 1 ∨ (¬ ∃ l, l < L ∧ q = F l) ∧ 0 < q ∧ s.1 75 q = if cI 5 * (t.1 578 q - t.1 578 (q - 1) - t.1 580 (q - 1)) < cI 2 * t.1 581 (q - 1) then cI 0 else cI 1)
theorem sh_mod {w h n K : Nat} {g : Nat → Nat} {S : List Nat} {s2 s' t1 t' : ev_M} (H : Lc w h n g s2 t1) (Z : Ks n g S s2 s' (Ff g n K) K) (Fq : Fl n K g s2 t') (hS : ∀ q, q < n → gF S q < n ∧ pos n s2 (gF S q) = q) : RSh s' t' := by
  have r3 := H.2.2.1.2.2.1
  have hg := fun p hp => (H.2.2.2.2.2.1 p hp).2
  obtain ⟨z1, z2, z3, z4, z5, z6⟩ := Z
  obtain ⟨f1, f2, f3, f4, f5⟩ := Fq
  have fn : ∀ r, Ff g n r ≤ n := fun r => cntE_le n
  have mo : ∀ r r', r ≤ r' → Ff g n r ≤ Ff g n r' := fun r r' hh => ff_mo (g := g) (n := n) hh
  have FL : ix (t'.1 577 (rkN g K)) = Ff g n K := by rw [f3]; exact q_ix (by have := fn K; unfold Ff at this; omega)
  have Fr : ∀ r, r < K → g r = r → ix (t'.1 577 (rkN g r)) = Ff g n r := fun r h1 h2 => by
    rw [f4 r h1 (by omega) h2]; exact q_ix (by have := fn r; unfold Ff at this; omega)
  have Fs : ∀ r, r < K → g r = r → ix (t'.1 577 (rkN g r + 1)) = Ff g n (r + 1) := fun r h1 h2 => by
    have e1 : rkN g (r + 1) = rkN g r + 1 := by simp only [rkN, if_pos h2]
    have le := rkN_mo (g := g) (i := r + 1) K h1
    by_cases y : rkN g r + 1 < rkN g K
    · obtain ⟨r', a1, a2, a3⟩ := rk_sur K y
      have lt : r + 1 ≤ r' := by
        apply Classical.byContradiction
        intro u
        have := rkN_mo (g := g) (i := r') r (by omega)
        omega
      rw [← a3, Fr r' a1 a2]
      exact ff_nx hg lt (by omega)
    · rw [show rkN g r + 1 = rkN g K by omega, FL]
      exact ff_nx hg h1 (by omega)
  have iv : ∀ a, a < n → Ff g n (g a) ≤ pos n s2 a ∧ pos n s2 a < Ff g n (g a + 1) := fun a ha => pos_iv (a := a) H ha
  have bx : ∀ q, q < Ff g n K → q < n ∧ g (gF S q) < K ∧ Bx s2 t' q (gF S q) := fun q hq => by
    have qn : q < n := by have := fn K; omega
    obtain ⟨h1, h2⟩ := hS q qn
    have i1 := iv _ h1
    have gK : g (gF S q) < K := by
      apply Classical.byContradiction
      intro u
      have := mo K (g (gF S q)) (by omega)
      omega
    have b := f5 _ h1 gK
    rw [h2] at b
    exact ⟨qn, gK, b⟩
  refine ⟨rkN g K, fun l => ix (t'.1 577 l), z3, z2, f1, ?_, fun l hl => ?_, ?_, fun l hl => ?_, fun l hl => ?_, fun q hq => ?_⟩
  · by_cases y : rkN g K = 0
    · have : Ff g n K = 0 := by
        have e : Ff g n K = Ff g n 0 := ff_gap hg (Nat.zero_le K) (fun j h1 h2 h3 => by have := rkN_lt h2 h3; omega) n (Nat.le_refl _)
        rw [e]
        exact cntE_0 n (fun j _ u => by
          unfold blw at u
          rw [if_neg (Nat.not_lt_zero _)] at u
          exact absurd u (by decide))
      rw [y] at FL
      show ix (t'.1 577 0) = 0
      omega
    · obtain ⟨r, a1, a2, a3⟩ := rk_sur (g := g) (l := 0) K (by omega)
      have e : Ff g n r = Ff g n 0 := ff_gap hg (Nat.zero_le r) (fun j h1 h2 h3 => by have := rkN_lt h2 h3; omega) n (Nat.le_refl _)
      have e0 : Ff g n 0 = 0 := cntE_0 n (fun j _ u => by
        unfold blw at u
        rw [if_neg (Nat.not_lt_zero _)] at u
        exact absurd u (by decide))
      have := Fr r a1 a2
      rw [a3] at this
      show ix (t'.1 577 0) = 0
      omega
  · obtain ⟨r, a1, a2, a3⟩ := rk_sur K hl
    have e1 := Fr r a1 a2
    have e2 := Fs r a1 a2
    rw [a3] at e1 e2
    have i1 := iv r (by omega)
    rw [a2] at i1
    show ix (t'.1 577 l) < ix (t'.1 577 (l + 1))
    omega
  · show ix (t'.1 577 (rkN g K)) ≤ 200
    rw [FL]; have := fn K; omega
  · show t'.1 577 l = cI (ix (t'.1 577 l) : Int)
    by_cases y : l = rkN g K
    · rw [y, FL]; exact f3
    · obtain ⟨r, a1, a2, a3⟩ := rk_sur (g := g) (l := l) K (by omega)
      rw [← a3, Fr r a1 a2]
      exact f4 r a1 (by omega) a2
  · obtain ⟨r, a1, a2, a3⟩ := rk_sur K hl
    have e1 := Fr r a1 a2
    have e2 := Fs r a1 a2
    rw [a3] at e1 e2
    have L := z6 r a1 (by omega) a2
    have m1 := mo (r + 1) K a1
    unfold Ln at L
    rw [Nat.min_eq_right m1, a3] at L
    obtain ⟨l1, l2, l3, l4⟩ := L
    show _ = cI (ix (t'.1 577 l) : Int) ∧ _ = cI ((ix (t'.1 577 (l + 1)) - ix (t'.1 577 l) : Nat) : Int) ∧ _ = mnC (t'.1 579) (ix (t'.1 577 l)) (ix (t'.1 577 (l + 1)) - ix (t'.1 577 l)) ∧ _ = mnC (t'.1 578) (ix (t'.1 577 l)) (ix (t'.1 577 (l + 1)) - ix (t'.1 577 l))
    rw [e1, e2]
    refine ⟨l1, l2, l3.trans (mnC_cg _ fun j hj => ?_), l4.trans (mnC_cg _ fun j hj => ?_)⟩
    · exact (bx _ (by omega)).2.2.2.1.symm
    · exact (bx _ (by omega)).2.2.1.symm
  · have hq2 : q < Ff g n K := by rw [← FL]; exact hq
    obtain ⟨qn, gK, b1, b2, b3, b4, b5, b6⟩ := bx q hq2
    obtain ⟨c1, c2, c3, c4, c5, c6, c7, c8, c9⟩ := z5 q hq2
    have e72 : s'.1 72 q = t'.1 582 q := by
      rw [c6] at b6
      exact Option.some.inj b6
    have k4 : s'.1 1004 = s2.1 1004 := funext fun k => (z1.1 1004 k rfl).1
    obtain ⟨h1, h2⟩ := hS q qn
    have i1 := iv _ h1
    rw [h2] at i1
    have gr : g (g (gF S q)) = g (gF S q) := (hg _ h1).2
    refine ⟨c1.trans b1.symm, c2.trans b2.symm, c3.trans b3.symm, c4.trans b4.symm, e72, b5, by rw [ne_ct k4, ← e72]; exact c7, by rw [ne_ct k4, ← e72]; exact c8, ?_⟩
    unfold bgV at c9
    by_cases y : q = 0 ∨ g (gF S q) ≠ g (gF S (q - 1))
    · rw [if_pos y] at c9
      refine Or.inl ⟨⟨rkN g (g (gF S q)), rkN_lt gK gr, ?_⟩, c9⟩
      show q = ix (t'.1 577 (rkN g (g (gF S q))))
      rw [Fr _ gK gr]
      rcases y with u | u
      · omega
      · by_cases q0 : q = 0
        · omega
        · obtain ⟨h3, h4⟩ := hS (q - 1) (by omega)
          have i2 := iv _ h3
          rw [h4] at i2
          by_cases v : g (gF S q) < g (gF S (q - 1))
          · have := mo (g (gF S q) + 1) (g (gF S (q - 1))) v
            omega
          · have := mo (g (gF S (q - 1)) + 1) (g (gF S q)) (by omega)
            omega
    · rw [if_neg y] at c9
      have q0 : ¬ q = 0 := fun u => y (Or.inl u)
      have ge : g (gF S q) = g (gF S (q - 1)) := Classical.byContradiction fun u => y (Or.inr u)
      obtain ⟨-, -, d1, d2, d3, d4, -⟩ := bx (q - 1) (by omega)
      refine Or.inr ⟨?_, by omega, ?_⟩
      · rintro ⟨l, hl, e⟩
        obtain ⟨r, a1, a2, a3⟩ := rk_sur K hl
        have e1 := Fr r a1 a2
        rw [a3] at e1
        have e2 : q = Ff g n r := e.trans e1
        obtain ⟨h3, h4⟩ := hS (q - 1) (by omega)
        have i2 := iv _ h3
        rw [h4, ← ge] at i2
        by_cases v : r ≤ g (gF S q)
        · have := mo r (g (gF S q)) v
          omega
        · have := mo (g (gF S q) + 1) r (by omega)
          omega
      · rw [c9, b1, d1, d3, d4]
