/-! ===== LEVEL 3: the acts put and key ===== -/
section
variable {t : ev_M}
theorem ibx_lp {l b y : Int32} (hy : y = cI (-1) ∨ Has y (t.1 549 58)) (h3 : (t.1 549 58).toInt ≤ 300) (hm : ∀ i, i < ix (t.1 549 58) → (t.1 597 i = l ∧ t.1 598 i = b ↔ y = cI (i : Int))) : ∀ (r n : Nat) (x j : Int32), 0 ≤ j.toInt → j.toInt + r = (t.1 549 58).toInt → r < n → x = (if 0 ≤ y.toInt ∧ y.toInt < j.toInt then y else cI (-1)) → fM_inBox_h5 t n l b x j = some y
  | 0, n, x, j, h0, h1, hn, hx => by
    obtain ⟨n, rfl⟩ : ∃ k, n = k + 1 := ⟨n - 1, by omega⟩
    have hj : ¬ j < t.1 549 58 := by rw [lt_i]; omega
    simp only [fM_inBox_h5, if_neg hj]
    rcases hy with q | q
    · rw [hx, q]
      split <;> rfl
    · rw [hx, if_pos ⟨q.1, by have := q.2; omega⟩]
  | r + 1, n, x, j, h0, h1, hn, hx => by
    obtain ⟨n, rfl⟩ : ∃ k, n = k + 1 := ⟨n - 1, by omega⟩
    have hj : j < t.1 549 58 := by rw [lt_i]; omega
    have hi : inb j 300 = true := inb_iff.mpr ⟨by omega, by omega⟩
    have et : (j + cI 1).toInt = j.toInt + 1 := inc_i (by omega)
    have jc : cI ((ix j : Nat) : Int) = j := cI_ix h0
    have jn : ix j < ix (t.1 549 58) := by rw [ix_toNat, ix_toNat]; omega
    have hm2 := hm (ix j) jn
    rw [jc] at hm2
    have ih := fun x => ibx_lp (l := l) (b := b) hy h3 hm r n x (j + cI 1) (by omega) (by omega) (by omega)
    rw [et] at ih
    by_cases a1 : t.1 597 (ix j) = l
    · by_cases a2 : t.1 598 (ix j) = b
      · have e := hm2.mp ⟨a1, a2⟩
        simp only [fM_inBox_h5, if_pos hj, if_pos hi, if_pos a1, if_pos a2, fM_inBox_b42]
        refine ih j ?_
        rw [e, if_pos ⟨h0, by omega⟩]
      · have e : ¬ y = j := fun q => a2 (hm2.mpr q).2
        have e2 : ¬ y.toInt = j.toInt := fun q => e (by rw [eq_i]; exact q)
        simp only [fM_inBox_h5, if_pos hj, if_pos hi, if_pos a1, if_neg a2, fM_inBox_b41, fM_inBox_b42]
        refine ih x ?_
        rw [hx]
        by_cases z : 0 ≤ y.toInt ∧ y.toInt < j.toInt
        · rw [if_pos z, if_pos ⟨z.1, by omega⟩]
        · rw [if_neg z, if_neg (fun w => z ⟨w.1, by omega⟩)]
    · have e : ¬ y = j := fun q => a1 (hm2.mpr q).1
      have e2 : ¬ y.toInt = j.toInt := fun q => e (by rw [eq_i]; exact q)
      simp only [fM_inBox_h5, if_pos hj, if_pos hi, if_neg a1, fM_inBox_b41, fM_inBox_b42]
      refine ih x ?_
      rw [hx]
      by_cases z : 0 ≤ y.toInt ∧ y.toInt < j.toInt
      · rw [if_pos z, if_pos ⟨z.1, by omega⟩]
      · rw [if_neg z, if_neg (fun w => z ⟨w.1, by omega⟩)]
end
section
variable {s t : ev_M}
/-- what lies in a box, class and reference -/
theorem RBx.at (h : RBx s t) {l b : Int32} (n1 : t.1 549 58 = s.1 100 5) (n2 : 0 ≤ (s.1 100 5).toInt) (n3 : (s.1 100 5).toInt ≤ 300) (hl : Has l (s.1 125 3)) (h8 : (s.1 125 3).toInt ≤ 8) (hb : Has b (s.1 127 (ix l))) : fM_inBox t l b = some (s.1 (130 + ix l) (ix b)) ∧ (s.1 (130 + ix l) (ix b) = cI (-1) ∨ Has (s.1 (130 + ix l) (ix b)) (s.1 100 5)) ∧ (∀ i, i < ix (s.1 100 5) → (t.1 597 i = l ∧ t.1 598 i = b ↔ s.1 (130 + ix l) (ix b) = cI (i : Int))) := by
  obtain ⟨q1, q2, q3⟩ := h
  have l8 : ix l < 8 := by have := hl.1; have := hl.2; rw [ix_toNat]; omega
  have w1 := q1 (ix l) (ix b) hl.ix hb.ix
  have w3 : ∀ i, i < ix (s.1 100 5) → (t.1 597 i = l ∧ t.1 598 i = b ↔ s.1 (130 + ix l) (ix b) = cI (i : Int)) := fun i hi => by
    have := q3 i (ix l) (ix b) hi hl.ix hb.ix
    rw [rows_at l8, cI_ix hl.1, cI_ix hb.1] at this
    exact this.symm
  rw [rows_at l8] at w1
  refine ⟨?_, w1, w3⟩
  show fM_inBox_h5 t 1048576 l b (cI (-1)) (cI 0) = _
  refine ibx_lp (by rw [n1]; exact w1) (by rw [n1]; exact n3) (by rw [n1]; exact w3) (ix (s.1 100 5)) 1048576 _ _ (by decide) (by rw [n1, ix_toNat, show (cI 0).toInt = 0 from rfl]; omega) (by rw [ix_toNat]; omega) ?_
  rw [if_neg (fun q => by have := q.2; rw [show (cI 0).toInt = 0 from rfl] at this; omega)]
theorem pb_lp (h : RBx s t) (hk : RLk s t) {i l : Int32} (n1 : t.1 549 58 = s.1 100 5) (n2 : 0 ≤ (s.1 100 5).toInt) (n3 : (s.1 100 5).toInt ≤ 300) (hl : Has l (s.1 125 3)) : ∀ (r n n' : Nat) (j : Int32), 0 ≤ j.toInt → j.toInt + r = (s.1 127 (ix l)).toInt → r < n → r < n' → ∃ b, fLock_boxWith_h2 s n l (cI (-1)) j = some b ∧ ((b = cI (-1) ∧ fM_doPut_h103 n' t i l j = fM_doPut_b131 t i l (s.1 127 (ix l))) ∨ (Has b (s.1 127 (ix l)) ∧ s.1 (130 + ix l) (ix b) = cI (-1) ∧ fM_doPut_h103 n' t i l j = fM_doPut_b131 t i l b))
  | 0, n, n', j, h0, h1, hn, hn' => by
    obtain ⟨n, rfl⟩ : ∃ k, n = k + 1 := ⟨n - 1, by omega⟩
    obtain ⟨n', rfl⟩ : ∃ k, n' = k + 1 := ⟨n' - 1, by omega⟩
    have h8 : (s.1 125 3).toInt ≤ 8 := hk.1.2.2
    have g2 : t.1 624 (ix l) = s.1 127 (ix l) := hk.2.2.1 _ hl.ix
    have hb : inb l 8 = true := hl.inb h8
    have hj : ¬ j < s.1 127 (ix l) := by rw [lt_i]; omega
    have je : j = s.1 127 (ix l) := by rw [eq_i]; omega
    refine ⟨cI (-1), ?_, Or.inl ⟨rfl, ?_⟩⟩
    · simp only [fLock_boxWith_h2, if_pos hb, if_neg hj]
    · simp only [fM_doPut_h103, if_pos hb, g2, if_neg hj]
      rw [je]
  | r + 1, n, n', j, h0, h1, hn, hn' => by
    obtain ⟨n, rfl⟩ : ∃ k, n = k + 1 := ⟨n - 1, by omega⟩
    obtain ⟨n', rfl⟩ : ∃ k, n' = k + 1 := ⟨n' - 1, by omega⟩
    have h8 : (s.1 125 3).toInt ≤ 8 := hk.1.2.2
    have g2 : t.1 624 (ix l) = s.1 127 (ix l) := hk.2.2.1 _ hl.ix
    have d2 := hk.2.2.2.2.2.1 _ hl.ix
    have hb : inb l 8 = true := hl.inb h8
    have hj : j < s.1 127 (ix l) := by rw [lt_i]; omega
    have hi : inb j 10 = true := inb_iff.mpr ⟨h0, by omega⟩
    have et : (j + cI 1).toInt = j.toInt + 1 := inc_i (by omega)
    have hJ : Has j (s.1 127 (ix l)) := ⟨h0, by omega⟩
    obtain ⟨w1, w2, -⟩ := h.at n1 n2 n3 hl h8 hJ
    by_cases a1 : s.1 (130 + ix l) (ix j) = cI (-1)
    · refine ⟨j, ?_, Or.inr ⟨hJ, a1, ?_⟩⟩
      · simp only [fLock_boxWith_h2, if_pos hb, if_pos hj, if_pos hi, if_pos a1]
      · simp only [fM_doPut_h103, if_pos hb, g2, if_pos hj, w1, bd1_some, if_pos a1]
    · obtain ⟨b, b1, b2⟩ := pb_lp h hk (i := i) n1 n2 n3 hl r n n' (j + cI 1) (by omega) (by omega) (by omega) (by omega)
      refine ⟨b, ?_, ?_⟩
      · simp only [fLock_boxWith_h2, if_pos hb, if_pos hj, if_pos hi, if_neg a1]
        exact b1
      · have e : fM_doPut_h103 (n' + 1) t i l j = fM_doPut_h103 n' t i l (j + cI 1) := by
          simp only [fM_doPut_h103, if_pos hb, g2, if_pos hj, w1, bd1_some, if_neg a1]
        rw [e]
        exact b2
/-- an item into a box -/
theorem RBx.put {s' t' : ev_M} {l b i : Int32} (h : RBx s t) (hl : Has l (s.1 125 3)) (h8 : (s.1 125 3).toInt ≤ 8) (hb : Has b (s.1 127 (ix l))) (hi : Has i (s.1 100 5)) (n3 : (s.1 100 5).toInt ≤ 300) (b10 : Bd (ix (s.1 125 3)) (s.1 127) 1 10) (hn : t.1 597 (ix i) = cI (-1)) (he : s.1 (130 + ix l) (ix b) = cI (-1)) (e1 : s'.1 125 3 = s.1 125 3) (e2 : s'.1 127 = s.1 127) (e3 : ∀ r, r < 8 → s'.1 (130 + r) = if r = ix l then up1 (s.1 (130 + ix l)) (ix b) i else s.1 (130 + r)) (e4 : s'.1 100 5 = s.1 100 5) (e5 : t'.1 597 = up1 (t.1 597) (ix i) l) (e6 : t'.1 598 = up1 (t.1 598) (ix i) b) : RBx s' t' := by
  obtain ⟨q1, q2, q3⟩ := h
  have l1 := hl.ix
  have i1 := hi.ix
  have n8 : ix (s.1 125 3) ≤ 8 := by rw [ix_toNat]; omega
  have n300 : ix (s.1 100 5) ≤ 300 := by rw [ix_toNat]; omega
  have lc : cI ((ix l : Nat) : Int) = l := cI_ix hl.1
  have bc : cI ((ix b : Nat) : Int) = b := cI_ix hb.1
  have ic : cI ((ix i : Nat) : Int) = i := cI_ix hi.1
  have er : ∀ r, r < 8 → rowsOf s' 130 8 r = if r = ix l then up1 (rowsOf s 130 8 r) (ix b) i else rowsOf s 130 8 r := fun r hr => by
    rw [rows_at hr, rows_at hr, e3 r hr]
    by_cases z : r = ix l
    · rw [if_pos z, if_pos z, z]
    · rw [if_neg z, if_neg z]
  have inj : ∀ a c : Nat, a < 2147483648 → c < 2147483648 → cI (a : Int) = cI (c : Int) → a = c := fun a c ha hc q => by
    have := congrArg Int32.toInt q
    rw [cI_toInt (by omega) (by omega), cI_toInt (by omega) (by omega)] at this
    omega
  unfold RBx
  rw [e1, e2, e4, e5, e6]
  refine ⟨fun r k hr hk => ?_, fun j hj => ?_, fun j r k hj hr hk => ?_⟩
  · rw [er r (by omega)]
    by_cases z : r = ix l
    · rw [if_pos z]
      by_cases y : k = ix b
      · rw [y, up1_eq]; exact Or.inr hi
      · rw [up1_ne y]; exact q1 r k hr hk
    · rw [if_neg z]; exact q1 r k hr hk
  · by_cases z : j = ix i
    · rw [z, up1_eq, up1_eq]; exact Or.inr ⟨hl, hb⟩
    · rw [up1_ne z, up1_ne z]; exact q2 j hj
  · rw [er r (by omega)]
    have k10 := b10 r hr
    have kk : k < 10 := by
      have : ix (s.1 127 r) = (s.1 127 r).toInt.toNat := ix_toNat _
      omega
    by_cases y : r = ix l ∧ k = ix b
    · obtain ⟨y1, y2⟩ := y
      rw [if_pos y1, y2, up1_eq, y1]
      by_cases z : j = ix i
      · rw [z, up1_eq, up1_eq, ic, lc, bc]
        exact ⟨fun _ => ⟨rfl, rfl⟩, fun _ => rfl⟩
      · rw [up1_ne z, up1_ne z]
        have q := q3 j r k hj hr hk
        rw [y1, y2, rows_at (by omega), he] at q
        constructor
        · intro w
          exact absurd (inj j (ix i) (by omega) (by omega) (by rw [ic]; exact w.symm)) z
        · intro w
          exact absurd (q.mpr w) (neg1_ne (by omega))
    · have e : (if r = ix l then up1 (rowsOf s 130 8 r) (ix b) i else rowsOf s 130 8 r) k = rowsOf s 130 8 r k := by
        by_cases z : r = ix l
        · rw [if_pos z, up1_ne (fun w => y ⟨z, w⟩)]
        · rw [if_neg z]
      rw [e]
      have q := q3 j r k hj hr hk
      by_cases z : j = ix i
      · rw [z] at q ⊢
        rw [up1_eq, up1_eq, q, hn]
        constructor
        · intro w; exact absurd w.1 (neg1_ne (by omega))
        · intro w
          rw [← lc, ← bc] at w
          exact absurd ⟨(inj _ _ (by omega) (by omega) w.1).symm, (inj _ _ (by have := hb.2; have := b10 _ l1; rw [ix_toNat]; omega) (by omega) w.2).symm⟩ y
      · rw [up1_ne z, up1_ne z]; exact q
/-- an item out of its box -/
theorem RBx.out {s' t' : ev_M} {l b i : Int32} (h : RBx s t) (hl : Has l (s.1 125 3)) (h8 : (s.1 125 3).toInt ≤ 8) (hb : Has b (s.1 127 (ix l))) (hi : Has i (s.1 100 5)) (n3 : (s.1 100 5).toInt ≤ 300) (b10 : Bd (ix (s.1 125 3)) (s.1 127) 1 10) (he : s.1 (130 + ix l) (ix b) = i) (e1 : s'.1 125 3 = s.1 125 3) (e2 : s'.1 127 = s.1 127) (e3 : ∀ r, r < 8 → s'.1 (130 + r) = if r = ix l then up1 (s.1 (130 + ix l)) (ix b) (cI (-1)) else s.1 (130 + r)) (e4 : s'.1 100 5 = s.1 100 5) (e5 : t'.1 597 = up1 (t.1 597) (ix i) (cI (-1))) (e6 : t'.1 598 = up1 (t.1 598) (ix i) (cI (-1))) : RBx s' t' := by
  obtain ⟨q1, q2, q3⟩ := h
  have l1 := hl.ix
  have i1 := hi.ix
  have n8 : ix (s.1 125 3) ≤ 8 := by rw [ix_toNat]; omega
  have n300 : ix (s.1 100 5) ≤ 300 := by rw [ix_toNat]; omega
  have lc : cI ((ix l : Nat) : Int) = l := cI_ix hl.1
  have bc : cI ((ix b : Nat) : Int) = b := cI_ix hb.1
  have ic : cI ((ix i : Nat) : Int) = i := cI_ix hi.1
  have er : ∀ r, r < 8 → rowsOf s' 130 8 r = if r = ix l then up1 (rowsOf s 130 8 r) (ix b) (cI (-1)) else rowsOf s 130 8 r := fun r hr => by
    rw [rows_at hr, rows_at hr, e3 r hr]
    by_cases z : r = ix l
    · rw [if_pos z, if_pos z, z]
    · rw [if_neg z, if_neg z]
  have inj : ∀ a c : Nat, a < 2147483648 → c < 2147483648 → cI (a : Int) = cI (c : Int) → a = c := fun a c ha hc q => by
    have := congrArg Int32.toInt q
    rw [cI_toInt (by omega) (by omega), cI_toInt (by omega) (by omega)] at this
    omega
  have hme := q3 (ix i) (ix l) (ix b) i1 l1 hb.ix
  rw [rows_at (by omega), he, ic, lc, bc] at hme
  obtain ⟨m1, m2⟩ := hme.mp rfl
  unfold RBx
  rw [e1, e2, e4, e5, e6]
  refine ⟨fun r k hr hk => ?_, fun j hj => ?_, fun j r k hj hr hk => ?_⟩
  · rw [er r (by omega)]
    by_cases z : r = ix l
    · rw [if_pos z]
      by_cases y : k = ix b
      · rw [y, up1_eq]; exact Or.inl rfl
      · rw [up1_ne y]; exact q1 r k hr hk
    · rw [if_neg z]; exact q1 r k hr hk
  · by_cases z : j = ix i
    · rw [z, up1_eq, up1_eq]; exact Or.inl ⟨rfl, rfl⟩
    · rw [up1_ne z, up1_ne z]; exact q2 j hj
  · rw [er r (by omega)]
    have k10 := b10 r hr
    have kk : k < 10 := by
      have : ix (s.1 127 r) = (s.1 127 r).toInt.toNat := ix_toNat _
      omega
    have b10' : ix b < 10 := by have := hb.2; have := hb.1; have := b10 _ l1; rw [ix_toNat]; omega
    have q := q3 j r k hj hr hk
    by_cases y : r = ix l ∧ k = ix b
    · obtain ⟨y1, y2⟩ := y
      rw [if_pos y1, y2, up1_eq]
      constructor
      · intro w; exact absurd w (neg1_ne (by omega))
      · intro w
        by_cases z : j = ix i
        · rw [z, up1_eq] at w; exact absurd w.1 (neg1_ne (by omega))
        · rw [up1_ne z, up1_ne z] at w
          rw [y1, y2, rows_at (by omega), he] at q
          rw [y1] at w
          have := q.mpr w
          exact absurd (inj _ _ (by omega) (by omega) (by rw [← this, ic])) z
    · have e : (if r = ix l then up1 (rowsOf s 130 8 r) (ix b) (cI (-1)) else rowsOf s 130 8 r) k = rowsOf s 130 8 r k := by
        by_cases z : r = ix l
        · rw [if_pos z, up1_ne (fun w => y ⟨z, w⟩)]
        · rw [if_neg z]
      rw [e]
      by_cases z : j = ix i
      · rw [z] at q ⊢
        rw [up1_eq, up1_eq, q, m1, m2]
        constructor
        · intro w
          rw [← lc, ← bc] at w
          exact absurd ⟨(inj _ _ (by omega) (by omega) w.1).symm, (inj _ _ (by omega) (by omega) w.2).symm⟩ y
        · intro w; exact absurd w.1 (neg1_ne (by omega))
      · rw [up1_ne z, up1_ne z]; exact q
end
