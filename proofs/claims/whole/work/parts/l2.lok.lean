/-! ===== LEVEL 3: the book's look-ups ===== -/
theorem cmp_0 {x y : Int64} : lg_cmp x y = 0 ↔ x = y := by
  unfold lg_cmp
  by_cases h : x > y
  · rw [if_pos h]
    exact ⟨fun u => absurd u (by decide), fun u => by rw [u] at h; exact absurd (Int64.lt_iff_toInt_lt.mp h) (by omega)⟩
  · rw [if_neg h]
    by_cases h2 : x = y
    · rw [if_pos h2]; exact ⟨fun _ => h2, fun _ => rfl⟩
    · rw [if_neg h2]; exact ⟨fun u => absurd u (by decide), fun u => absurd u h2⟩
section
variable {N : Nat} {mt : Nat → Prop}
theorem gl_F {H : Nat → Int32 → Option Int32} (hS : ∀ n q, q < N → (mt q → H (n + 1) (cI (q : Int)) = some (cI (q : Int))) ∧ (¬ mt q → H (n + 1) (cI (q : Int)) = H n (cI ((q + 1 : Nat) : Int)))) (hE : ∀ n, H (n + 1) (cI (N : Int)) = some (cI (-1))) : ∀ (r m k : Nat), k + r = N → r < m → ∃ v, H m (cI (k : Int)) = some v ∧ ((v = cI (-1) ∧ ∀ q, k ≤ q → q < N → ¬ mt q) ∨ ∃ q, k ≤ q ∧ q < N ∧ v = cI (q : Int) ∧ mt q)
  | 0, m, k, hk, hm => by
    obtain ⟨m, rfl⟩ : ∃ k, m = k + 1 := ⟨m - 1, by omega⟩
    refine ⟨cI (-1), by rw [show k = N by omega, hE], Or.inl ⟨rfl, fun q h1 h2 => by omega⟩⟩
  | r + 1, m, k, hk, hm => by
    obtain ⟨m, rfl⟩ : ∃ k, m = k + 1 := ⟨m - 1, by omega⟩
    obtain ⟨s1, s2⟩ := hS m k (by omega)
    rcases Classical.em (mt k) with z | z
    · exact ⟨cI (k : Int), s1 z, Or.inr ⟨k, Nat.le_refl _, by omega, rfl, z⟩⟩
    · obtain ⟨v, v1, v2⟩ := gl_F hS hE r m (k + 1) (by omega) (by omega)
      refine ⟨v, (s2 z).trans v1, ?_⟩
      rcases v2 with ⟨w1, w2⟩ | ⟨q, w1, w2⟩
      · refine Or.inl ⟨w1, fun q h1 h2 => ?_⟩
        by_cases y : q = k
        · rw [y]; exact z
        · exact w2 q (by omega) h2
      · exact Or.inr ⟨q, by omega, w2⟩
theorem gl_G {H : Nat → Int32 → Int32 → Option Int32} (hS : ∀ n x q, q < N → (mt q → H (n + 1) x (cI (q : Int)) = H n (cI (q : Int)) (cI ((q + 1 : Nat) : Int))) ∧ (¬ mt q → H (n + 1) x (cI (q : Int)) = H n x (cI ((q + 1 : Nat) : Int)))) (hE : ∀ n x, H (n + 1) x (cI (N : Int)) = some x) : ∀ (r m k : Nat) (x : Int32), k + r = N → r < m → ∃ v, H m x (cI (k : Int)) = some v ∧ ((v = x ∧ ∀ q, k ≤ q → q < N → ¬ mt q) ∨ ∃ q, k ≤ q ∧ q < N ∧ v = cI (q : Int) ∧ mt q)
  | 0, m, k, x, hk, hm => by
    obtain ⟨m, rfl⟩ : ∃ k, m = k + 1 := ⟨m - 1, by omega⟩
    refine ⟨x, by rw [show k = N by omega, hE], Or.inl ⟨rfl, fun q h1 h2 => by omega⟩⟩
  | r + 1, m, k, x, hk, hm => by
    obtain ⟨m, rfl⟩ : ∃ k, m = k + 1 := ⟨m - 1, by omega⟩
    obtain ⟨s1, s2⟩ := hS m x k (by omega)
    rcases Classical.em (mt k) with z | z
    · obtain ⟨v, v1, v2⟩ := gl_G hS hE r m (k + 1) (cI (k : Int)) (by omega) (by omega)
      refine ⟨v, (s1 z).trans v1, ?_⟩
      rcases v2 with ⟨w1, w2⟩ | ⟨q, w1, w2⟩
      · exact Or.inr ⟨k, Nat.le_refl _, by omega, w1, z⟩
      · exact Or.inr ⟨q, by omega, w2⟩
    · obtain ⟨v, v1, v2⟩ := gl_G hS hE r m (k + 1) x (by omega) (by omega)
      refine ⟨v, (s2 z).trans v1, ?_⟩
      rcases v2 with ⟨w1, w2⟩ | ⟨q, w1, w2⟩
      · refine Or.inl ⟨w1, fun q h1 h2 => ?_⟩
        by_cases y : q = k
        · rw [y]; exact z
        · exact w2 q (by omega) h2
      · exact Or.inr ⟨q, by omega, w2⟩
/-- first and last agree where there is at most one -/
theorem gl_FG {HC : Nat → Int32 → Option Int32} {HM : Nat → Int32 → Int32 → Option Int32} (hn : N < 1000) (hu : ∀ q q', q < N → q' < N → mt q → mt q' → q = q') (hS : ∀ n q, q < N → (mt q → HC (n + 1) (cI (q : Int)) = some (cI (q : Int))) ∧ (¬ mt q → HC (n + 1) (cI (q : Int)) = HC n (cI ((q + 1 : Nat) : Int)))) (hE : ∀ n, HC (n + 1) (cI (N : Int)) = some (cI (-1))) (hS' : ∀ n x q, q < N → (mt q → HM (n + 1) x (cI (q : Int)) = HM n (cI (q : Int)) (cI ((q + 1 : Nat) : Int))) ∧ (¬ mt q → HM (n + 1) x (cI (q : Int)) = HM n x (cI ((q + 1 : Nat) : Int)))) (hE' : ∀ n x, HM (n + 1) x (cI (N : Int)) = some x) : ∃ v, HC 1048576 (cI 0) = some v ∧ HM 1048576 (cI (-1)) (cI 0) = some v ∧ ((v = cI (-1) ∧ ∀ q, q < N → ¬ mt q) ∨ ∃ q, q < N ∧ v = cI (q : Int) ∧ mt q) := by
  obtain ⟨v, a1, a2⟩ := gl_F hS hE N 1048576 0 (by omega) (by omega)
  obtain ⟨v', b1, b2⟩ := gl_G hS' hE' N 1048576 0 (cI (-1)) (by omega) (by omega)
  have e : v = v' := by
    rcases a2 with ⟨w1, w2⟩ | ⟨q, w1, w2, w3, w4⟩
    · rcases b2 with ⟨u1, u2⟩ | ⟨q, u1, u2, u3, u4⟩
      · rw [w1, u1]
      · exact absurd u4 (w2 q u1 u2)
    · rcases b2 with ⟨u1, u2⟩ | ⟨q', u1, u2, u3, u4⟩
      · exact absurd w4 (u2 q w1 w2)
      · rw [w3, u3, hu q q' w2 u2 w4 u4]
  subst e
  refine ⟨v, a1, b1, ?_⟩
  rcases a2 with ⟨w1, w2⟩ | ⟨q, w1, w2⟩
  · exact Or.inl ⟨w1, fun q hq => w2 q (Nat.zero_le _) hq⟩
  · exact Or.inr ⟨q, w2⟩
end
section
variable {s t : ev_M}
theorem e_placeWith {c : Int32} (h : RPl s t) : ∃ v, fBook_placeOf s c = some v ∧ fM_placeWith t c = some v ∧ ((v = cI (-1) ∧ ∀ q, q < ix (s.1 30 2) → ¬ s.1 31 q = c) ∨ ∃ q, q < ix (s.1 30 2) ∧ v = cI (q : Int) ∧ s.1 31 q = c) := by
  obtain ⟨⟨n1, n2, n3⟩, g1, g2⟩ := h
  have nn := ix_toNat (s.1 30 2)
  have en : cI ((ix (s.1 30 2) : Nat) : Int) = s.1 30 2 := cI_ix n2
  refine gl_FG (N := ix (s.1 30 2)) (mt := fun q => s.1 31 q = c) (HC := fun n k => fBook_placeOf_h2 s n c k) (HM := fun n x k => fM_placeWith_h4 t n c x k) (by omega) (fun q q' h1 h2 e1 e2 => ?_) (fun n q hq => ?_) (fun n => ?_) (fun n x q hq => ?_) (fun n x => ?_)
  · rcases Nat.lt_trichotomy q q' with w | w | w
    · exact absurd (e1.trans e2.symm) (g2 q q' w h2)
    · exact w
    · exact absurd (e2.trans e1.symm) (g2 q' q w h1)
  · have lt : cI (q : Int) < s.1 30 2 := by rw [lt_i, k_ti (by omega)]; omega
    have qb : inb (cI (q : Int)) 12 = true := k_in (by omega) (by decide)
    have qx : ix (cI (q : Int)) = q := k_ix (by omega)
    refine ⟨fun z => ?_, fun z => ?_⟩
    · show fBook_placeOf_h2 s (n + 1) c (cI (q : Int)) = _
      rw [fBook_placeOf_h2, if_pos lt, if_pos qb, qx, if_pos z]
    · show fBook_placeOf_h2 s (n + 1) c (cI (q : Int)) = _
      rw [fBook_placeOf_h2, if_pos lt, if_pos qb, qx, if_neg z, k_s (by omega)]
  · show fBook_placeOf_h2 s (n + 1) c (cI _) = _
    rw [fBook_placeOf_h2, en, if_neg (by rw [lt_i]; exact Int.lt_irrefl _)]
  · have lt : cI (q : Int) < s.1 30 2 := by rw [lt_i, k_ti (by omega)]; omega
    have qb : inb (cI (q : Int)) 12 = true := k_in (by omega) (by decide)
    have qx : ix (cI (q : Int)) = q := k_ix (by omega)
    refine ⟨fun z => ?_, fun z => ?_⟩
    · show fM_placeWith_h4 t (n + 1) c x (cI (q : Int)) = _
      rw [fM_placeWith_h4, n1, if_pos lt, if_pos qb, qx, g1 q hq, if_pos z]
      unfold fM_placeWith_b27
      rw [k_s (by omega)]
    · show fM_placeWith_h4 t (n + 1) c x (cI (q : Int)) = _
      rw [fM_placeWith_h4, n1, if_pos lt, if_pos qb, qx, g1 q hq, if_neg z]
      unfold fM_placeWith_b27
      rw [k_s (by omega)]
  · show fM_placeWith_h4 t (n + 1) c x (cI _) = _
    rw [fM_placeWith_h4, n1, en, if_neg (by rw [lt_i]; exact Int.lt_irrefl _)]
theorem e_streetWith {p : Int32} {nm : Int64} (h : RSt s t) : ∃ v, fBook_streetOf s p nm = some v ∧ fM_streetWith t p nm = some v ∧ ((v = cI (-1) ∧ ∀ q, q < ix (s.1 30 4) → ¬ (s.1 36 q = p ∧ s.2.1 37 q = nm)) ∨ ∃ q, q < ix (s.1 30 4) ∧ v = cI (q : Int) ∧ (s.1 36 q = p ∧ s.2.1 37 q = nm)) := by
  obtain ⟨⟨n1, n2, n3⟩, g1, g2, g3, g4, g5, b1, b2, b3, b4, b5, b6⟩ := h
  have nn := ix_toNat (s.1 30 4)
  have en : cI ((ix (s.1 30 4) : Nat) : Int) = s.1 30 4 := cI_ix n2
  refine gl_FG (N := ix (s.1 30 4)) (mt := fun q => s.1 36 q = p ∧ s.2.1 37 q = nm) (HC := fun n k => fBook_streetOf_h3 s n p nm k) (HM := fun n x k => fM_streetWith_h6 t n p nm x k) (by omega) (fun q q' h1 h2 e1 e2 => ?_) (fun n q hq => ?_) (fun n => ?_) (fun n x q hq => ?_) (fun n x => ?_)
  · rcases Nat.lt_trichotomy q q' with w | w | w
    · exact absurd (e1.2.trans e2.2.symm) (b6 q q' w h2 (e1.1.trans e2.1.symm))
    · exact w
    · exact absurd (e2.2.trans e1.2.symm) (b6 q' q w h1 (e2.1.trans e1.1.symm))
  · have lt : cI (q : Int) < s.1 30 4 := by rw [lt_i, k_ti (by omega)]; omega
    have qb : inb (cI (q : Int)) 30 = true := k_in (by omega) (by decide)
    have qx : ix (cI (q : Int)) = q := k_ix (by omega)
    refine ⟨fun z => ?_, fun z => ?_⟩
    · show fBook_streetOf_h3 s (n + 1) p nm (cI (q : Int)) = _
      rw [fBook_streetOf_h3, if_pos lt, if_pos qb, qx, ix_3, if_pos z.1, if_pos qb, if_pos (cmp_0.mpr z.2)]
    · show fBook_streetOf_h3 s (n + 1) p nm (cI (q : Int)) = _
      rw [fBook_streetOf_h3, if_pos lt, if_pos qb, qx, ix_3]
      unfold fBook_streetOf_b40
      rw [k_s (by omega)]
      by_cases y : s.1 (33 + 3) q = p
      · rw [if_pos y, if_pos qb, if_neg (fun u => z ⟨y, cmp_0.mp u⟩)]
      · rw [if_neg y]
  · show fBook_streetOf_h3 s (n + 1) p nm (cI _) = _
    rw [fBook_streetOf_h3, en, if_neg (by rw [lt_i]; exact Int.lt_irrefl _)]
  · have lt : cI (q : Int) < s.1 30 4 := by rw [lt_i, k_ti (by omega)]; omega
    have qb : inb (cI (q : Int)) 30 = true := k_in (by omega) (by decide)
    have qx : ix (cI (q : Int)) = q := k_ix (by omega)
    refine ⟨fun z => ?_, fun z => ?_⟩
    · show fM_streetWith_h6 t (n + 1) p nm x (cI (q : Int)) = _
      rw [fM_streetWith_h6, n1, if_pos lt, if_pos qb, qx, g4 q hq, if_pos z.1, if_pos qb, g5 q hq, if_pos (cmp_0.mpr z.2)]
      unfold fM_streetWith_b45
      rw [k_s (by omega)]
    · show fM_streetWith_h6 t (n + 1) p nm x (cI (q : Int)) = _
      rw [fM_streetWith_h6, n1, if_pos lt, if_pos qb, qx, g4 q hq]
      unfold fM_streetWith_b43 fM_streetWith_b45
      rw [k_s (by omega)]
      by_cases y : s.1 36 q = p
      · rw [if_pos y, if_pos qb, g5 q hq, if_neg (fun u => z ⟨y, cmp_0.mp u⟩)]
      · rw [if_neg y]
  · show fM_streetWith_h6 t (n + 1) p nm x (cI _) = _
    rw [fM_streetWith_h6, n1, en, if_neg (by rw [lt_i]; exact Int.lt_irrefl _)]
theorem e_pointWith {a b : Int32} (h : RPo s t) : ∃ v, fBook_pointOf s a b = some v ∧ fM_pointWith t a b = some v ∧ ((v = cI (-1) ∧ ∀ q, q < ix (s.1 30 9) → ¬ (s.1 44 q = a ∧ s.1 45 q = b)) ∨ ∃ q, q < ix (s.1 30 9) ∧ v = cI (q : Int) ∧ (s.1 44 q = a ∧ s.1 45 q = b)) := by
  obtain ⟨⟨n1, n2, n3⟩, g1, g2, b1, b2, b3⟩ := h
  have nn := ix_toNat (s.1 30 9)
  have en : cI ((ix (s.1 30 9) : Nat) : Int) = s.1 30 9 := cI_ix n2
  refine gl_FG (N := ix (s.1 30 9)) (mt := fun q => s.1 44 q = a ∧ s.1 45 q = b) (HC := fun n k => fBook_pointOf_h2 s n a b k) (HM := fun n x k => fM_pointWith_h5 t n a b x k) (by omega) (fun q q' h1 h2 e1 e2 => ?_) (fun n q hq => ?_) (fun n => ?_) (fun n x q hq => ?_) (fun n x => ?_)
  · rcases Nat.lt_trichotomy q q' with w | w | w
    · exact absurd (e1.2.trans e2.2.symm) (b3 q q' w h2 (e1.1.trans e2.1.symm))
    · exact w
    · exact absurd (e2.2.trans e1.2.symm) (b3 q' q w h1 (e2.1.trans e1.1.symm))
  · have lt : cI (q : Int) < s.1 30 9 := by rw [lt_i, k_ti (by omega)]; omega
    have qb : inb (cI (q : Int)) 120 = true := k_in (by omega) (by decide)
    have qx : ix (cI (q : Int)) = q := k_ix (by omega)
    refine ⟨fun z => ?_, fun z => ?_⟩
    · show fBook_pointOf_h2 s (n + 1) a b (cI (q : Int)) = _
      rw [fBook_pointOf_h2, if_pos lt, if_pos qb, qx, ix_0, Nat.add_zero, if_pos z.1, if_pos qb, ix_1, if_pos z.2]
    · show fBook_pointOf_h2 s (n + 1) a b (cI (q : Int)) = _
      rw [fBook_pointOf_h2, if_pos lt, if_pos qb, qx, ix_0, Nat.add_zero, ix_1]
      unfold fBook_pointOf_b36
      rw [k_s (by omega)]
      by_cases y : s.1 44 q = a
      · rw [if_pos y, if_pos qb, if_neg (fun u => z ⟨y, u⟩)]
      · rw [if_neg y]
  · show fBook_pointOf_h2 s (n + 1) a b (cI _) = _
    rw [fBook_pointOf_h2, en, if_neg (by rw [lt_i]; exact Int.lt_irrefl _)]
  · have lt : cI (q : Int) < s.1 30 9 := by rw [lt_i, k_ti (by omega)]; omega
    have qb : inb (cI (q : Int)) 120 = true := k_in (by omega) (by decide)
    have qx : ix (cI (q : Int)) = q := k_ix (by omega)
    refine ⟨fun z => ?_, fun z => ?_⟩
    · show fM_pointWith_h5 t (n + 1) a b x (cI (q : Int)) = _
      rw [fM_pointWith_h5, n1, if_pos lt, if_pos qb, qx, g1 q hq, if_pos z.1, if_pos qb, g2 q hq, if_pos z.2]
      unfold fM_pointWith_b42
      rw [k_s (by omega)]
    · show fM_pointWith_h5 t (n + 1) a b x (cI (q : Int)) = _
      rw [fM_pointWith_h5, n1, if_pos lt, if_pos qb, qx, g1 q hq]
      unfold fM_pointWith_b41 fM_pointWith_b42
      rw [k_s (by omega)]
      by_cases y : s.1 44 q = a
      · rw [if_pos y, if_pos qb, g2 q hq, if_neg (fun u => z ⟨y, u⟩)]
      · rw [if_neg y]
  · show fM_pointWith_h5 t (n + 1) a b x (cI _) = _
    rw [fM_pointWith_h5, n1, en, if_neg (by rw [lt_i]; exact Int.lt_irrefl _)]
/-- a house lies on a side -/
def onS (h side : Int32) : Prop := side = 0 ∨ h.toInt % 2 = side.toInt % 2
theorem e_onSide {u : ev_M} {h side : Int32} (h0 : 0 ≤ h.toInt) (hs : 0 ≤ side.toInt ∧ side.toInt ≤ 2) : fBook_isOnSide u h side = some (cI 1) ∧ onS h side ∨ fBook_isOnSide u h side = some (cI 0) ∧ ¬ onS h side := by
  have e2 : (cI 2).toInt = 2 := rfl
  have ir := irem_toInt (x := h) (y := cI 2) h0 (by decide)
  have sb : (cI 2 - side).toInt = 2 - side.toInt := by rw [sub_b (by omega) (by omega), e2]
  have eq0 : side = 0 ↔ side.toInt = 0 := eq_i
  unfold fBook_isOnSide fBook_isOnSide_b13 onS
  by_cases z : side = 0
  · exact Or.inl ⟨by rw [if_pos z], Or.inl z⟩
  · rw [if_neg z, if_neg (show ¬ cI 2 = 0 by decide)]
    have z2 := fun u => z (eq0.mpr u)
    by_cases y : irem h (cI 2) = cI 2 - side
    · refine Or.inl ⟨by rw [if_pos y], Or.inr ?_⟩
      rw [eq_i, ir, sb, e2] at y
      omega
    · refine Or.inr ⟨by rw [if_neg y], fun u => ?_⟩
      rw [eq_i, ir, sb, e2] at y
      rcases u with u | u
      · exact z u
      · have : side.toInt ≠ 0 := z2
        omega
theorem e_has {u : ev_M} {side lo hi h : Int32} (h0 : 0 ≤ h.toInt) (hs : 0 ≤ side.toInt ∧ side.toInt ≤ 2) : (fM_has u side lo hi h = some (cI 1) ∧ InR h lo hi ∧ onS h side) ∨ (fM_has u side lo hi h = some (cI 0) ∧ ¬ (InR h lo hi ∧ onS h side)) := by
  have e2 : (cI 2).toInt = 2 := rfl
  have ir := irem_toInt (x := h) (y := cI 2) h0 (by decide)
  have is := irem_toInt (x := side) (y := cI 2) hs.1 (by decide)
  unfold fM_has fM_has_b22 onS
  rw [in_eq, bd1_some, ite_bI]
  by_cases z : InR h lo hi
  · rw [if_pos z]
    by_cases y : side = 0
    · exact Or.inl ⟨by rw [if_pos y], z, Or.inl y⟩
    · rw [if_neg y, if_neg (show ¬ cI 2 = 0 by decide), if_neg (show ¬ cI 2 = 0 by decide)]
      by_cases w : irem h (cI 2) = irem side (cI 2)
      · refine Or.inl ⟨by rw [if_pos w], z, Or.inr ?_⟩
        rw [eq_i, ir, is, e2] at w
        exact w
      · refine Or.inr ⟨by rw [if_neg w], fun u => ?_⟩
        rw [eq_i, ir, is, e2] at w
        rcases u.2 with u | u
        · exact y u
        · exact w u
  · exact Or.inr ⟨by rw [if_neg z], fun u => z u.1⟩
/-- a range holds a house of a street -/
def holds (s : ev_M) (a h : Int32) (q : Nat) : Prop := s.1 39 q = a ∧ InR h (s.1 41 q) (s.1 42 q) ∧ onS h (s.1 40 q)
theorem e_hasHouse {a h : Int32} (hR : RRn s t) (h0 : 0 ≤ h.toInt) : (fBook_hasHouse s a h = some (cI 1) ∧ fM_inRange t a h = some (cI 1) ∧ ∃ q, q < ix (s.1 30 7) ∧ holds s a h q) ∨ (fBook_hasHouse s a h = some (cI 0) ∧ fM_inRange t a h = some (cI 0) ∧ ∀ q, q < ix (s.1 30 7) → ¬ holds s a h q) := by
  obtain ⟨⟨n1, n2, n3⟩, g1, g2, g3, g4, b1, b2, b3, b4⟩ := hR
  have nn := ix_toNat (s.1 30 7)
  have en : cI ((ix (s.1 30 7) : Nat) : Int) = s.1 30 7 := cI_ix n2
  have hS : ∀ n q, q < ix (s.1 30 7) → (holds s a h q → fBook_hasHouse_h2 s (n + 1) a h (cI (q : Int)) = some (cI 1)) ∧ (¬ holds s a h q → fBook_hasHouse_h2 s (n + 1) a h (cI (q : Int)) = fBook_hasHouse_h2 s n a h (cI ((q + 1 : Nat) : Int))) := by
    intro n q hq
    have lt : cI (q : Int) < s.1 30 7 := by rw [lt_i, k_ti (by omega)]; omega
    have qb : inb (cI (q : Int)) 60 = true := k_in (by omega) (by decide)
    have qx : ix (cI (q : Int)) = q := k_ix (by omega)
    have os := e_onSide (u := s) (side := s.1 40 q) h0 (b2 q hq)
    refine ⟨fun z => ?_, fun z => ?_⟩
    · obtain ⟨z1, z2, z3⟩ := z
      rw [fBook_hasHouse_h2]
      simp (disch := decide) only [if_pos lt, if_pos qb, qx, ix_0, ix_1, ix_2, ix_3, ix_4, ix_5, ix_6, ix_7, ix_8, ix_9, ix_10, ix_11, ix_12, ix_13, ix_14, ix_15, ix_16, ix_17, ix_18, ix_19, ix_20, ix_21, Nat.reduceAdd, wI_c, wI_ne, wL_1, lupd_ne, up1_eq, up1_ne, Nat.add_zero, z1, if_true, outside_eq, bd1_some, ite_bI, fBook_hasHouse_b50, if_neg (show ¬ cI 1 = 0 by decide)]
      rw [if_neg (show ¬ ¬ InR h (s.1 41 q) (s.1 42 q) from fun u => u z2)]
      rcases os with ⟨o1, -⟩ | ⟨-, o2⟩
      · rw [o1, bd1_some, if_neg (show ¬ cI 1 = 0 by decide)]
      · exact absurd z3 o2
    · rw [fBook_hasHouse_h2]
      simp (disch := decide) only [if_pos lt, if_pos qb, qx, ix_0, ix_1, ix_2, ix_3, ix_4, ix_5, ix_6, ix_7, ix_8, ix_9, ix_10, ix_11, ix_12, ix_13, ix_14, ix_15, ix_16, ix_17, ix_18, ix_19, ix_20, ix_21, Nat.reduceAdd, wI_c, wI_ne, wL_1, lupd_ne, up1_eq, up1_ne, Nat.add_zero, outside_eq, bd1_some, ite_bI, fBook_hasHouse_b49, fBook_hasHouse_b50, if_neg (show ¬ cI 1 = 0 by decide), if_pos (show cI 0 = 0 from rfl), fBook_hasHouse_b74]
      rw [k_s (by omega)]
      by_cases z1 : s.1 39 q = a
      · rw [if_pos z1]
        by_cases z2 : InR h (s.1 41 q) (s.1 42 q)
        · rw [if_neg (fun u => u z2)]
          rcases os with ⟨-, o2⟩ | ⟨o1, -⟩
          · exact absurd ⟨z1, z2, o2⟩ z
          · rw [o1, bd1_some, if_pos (show cI 0 = 0 from rfl)]
        · rw [if_pos z2]
      · rw [if_neg z1]
  have hE : ∀ n, fBook_hasHouse_h2 s (n + 1) a h (cI ((ix (s.1 30 7) : Nat) : Int)) = some (cI 0) := by
    intro n
    rw [fBook_hasHouse_h2, en, if_neg (by rw [lt_i]; exact Int.lt_irrefl _)]
  -- the reference: from 0, and once 1 it stays
  have hM1 : ∀ (r m k : Nat), k + r = ix (s.1 30 7) → r < m → fM_inRange_h5 t m a h (cI 1) (cI (k : Int)) = some (cI 1) := by
    intro r
    induction r with
    | zero =>
      intro m k hk hm
      obtain ⟨m, rfl⟩ : ∃ k, m = k + 1 := ⟨m - 1, by omega⟩
      rw [show k = ix (s.1 30 7) by omega, fM_inRange_h5, n1, en, if_neg (by rw [lt_i]; exact Int.lt_irrefl _), if_pos (by decide)]
    | succ r ih =>
      intro m k hk hm
      obtain ⟨m, rfl⟩ : ∃ k, m = k + 1 := ⟨m - 1, by omega⟩
      have lt : cI (k : Int) < s.1 30 7 := by rw [lt_i, k_ti (by omega)]; omega
      rw [fM_inRange_h5, n1, if_pos lt, if_neg (show ¬ cI 1 = 0 by decide)]
      unfold fM_inRange_b57 fM_inRange_b62
      rw [k_s (by omega)]
      exact ih m (k + 1) (by omega) (by omega)
  have hM0 : ∀ (r m k : Nat), k + r = ix (s.1 30 7) → r < m → (fM_inRange_h5 t m a h (cI 0) (cI (k : Int)) = some (cI 1) ∧ ∃ q, k ≤ q ∧ q < ix (s.1 30 7) ∧ holds s a h q) ∨ (fM_inRange_h5 t m a h (cI 0) (cI (k : Int)) = some (cI 0) ∧ ∀ q, k ≤ q → q < ix (s.1 30 7) → ¬ holds s a h q) := by
    intro r
    induction r with
    | zero =>
      intro m k hk hm
      obtain ⟨m, rfl⟩ : ∃ k, m = k + 1 := ⟨m - 1, by omega⟩
      refine Or.inr ⟨?_, fun q h1 h2 => by omega⟩
      rw [show k = ix (s.1 30 7) by omega, fM_inRange_h5, n1, en, if_neg (by rw [lt_i]; exact Int.lt_irrefl _), if_pos (by decide)]
    | succ r ih =>
      intro m k hk hm
      obtain ⟨m, rfl⟩ : ∃ k, m = k + 1 := ⟨m - 1, by omega⟩
      have lt : cI (k : Int) < s.1 30 7 := by rw [lt_i, k_ti (by omega)]; omega
      have kb : inb (cI (k : Int)) 60 = true := k_in (by omega) (by decide)
      have kx : ix (cI (k : Int)) = k := k_ix (by omega)
      have hk' : k < ix (s.1 30 7) := by omega
      have hh := e_has (u := t) (side := s.1 40 k) (lo := s.1 41 k) (hi := s.1 42 k) h0 (b2 k hk')
      have k0 : fM_inRange_h5 t (m + 1) a h (cI 0) (cI (k : Int)) = if s.1 39 k = a then (bd1 (fM_has t (s.1 40 k) (s.1 41 k) (s.1 42 k) h) fun v1 => if v1 = 0 then fM_inRange_h5 t m a h (cI 0) (cI ((k + 1 : Nat) : Int)) else fM_inRange_h5 t m a h (cI 1) (cI ((k + 1 : Nat) : Int))) else fM_inRange_h5 t m a h (cI 0) (cI ((k + 1 : Nat) : Int)) := by
        rw [fM_inRange_h5, n1]
        simp only [if_pos lt, if_pos (show cI 0 = 0 from rfl), if_pos kb, kx, g1 k hk', g2 k hk', g3 k hk', g4 k hk', fM_inRange_b61, fM_inRange_b57, fM_inRange_b62, k_s (show k < 999 by omega)]
      by_cases z1 : s.1 39 k = a
      · rw [k0, if_pos z1]
        rcases hh with ⟨w1, w2⟩ | ⟨w1, w2⟩
        · rw [w1, bd1_some, if_neg (show ¬ cI 1 = 0 by decide)]
          exact Or.inl ⟨hM1 r m (k + 1) (by omega) (by omega), k, Nat.le_refl _, hk', z1, w2⟩
        · rw [w1, bd1_some, if_pos (show cI 0 = 0 from rfl)]
          rcases ih m (k + 1) (by omega) (by omega) with ⟨u1, q, u2, u3, u4⟩ | ⟨u1, u2⟩
          · exact Or.inl ⟨u1, q, by omega, u3, u4⟩
          · refine Or.inr ⟨u1, fun q h1 h2 h3 => ?_⟩
            by_cases y : q = k
            · rw [y] at h3; exact w2 h3.2
            · exact u2 q (by omega) h2 h3
      · rw [k0, if_neg z1]
        rcases ih m (k + 1) (by omega) (by omega) with ⟨u1, q, u2, u3, u4⟩ | ⟨u1, u2⟩
        · exact Or.inl ⟨u1, q, by omega, u3, u4⟩
        · refine Or.inr ⟨u1, fun q h1 h2 h3 => ?_⟩
          by_cases y : q = k
          · rw [y] at h3; exact z1 h3.1
          · exact u2 q (by omega) h2 h3
  rcases hM0 (ix (s.1 30 7)) 1048576 0 (by omega) (by omega) with ⟨u1, q, u2, u3, u4⟩ | ⟨u1, u2⟩
  · refine Or.inl ⟨?_, u1, q, u3, u4⟩
    exact gl_Z (N := ix (s.1 30 7)) (mt := holds s a h) (H := fun n k => fBook_hasHouse_h2 s n a h k) hS (ix (s.1 30 7)) 1048576 0 (by omega) (by omega) ⟨q, u2, u3, u4⟩
  · refine Or.inr ⟨?_, u1, fun q hq => u2 q (Nat.zero_le _) hq⟩
    exact gl_E (N := ix (s.1 30 7)) (mt := holds s a h) (H := fun n k => fBook_hasHouse_h2 s n a h k) hS hE (ix (s.1 30 7)) 1048576 0 (by omega) (by omega) (fun q h1 h2 => u2 q h1 h2)
end
