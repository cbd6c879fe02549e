/-! ===== LEVEL 3: the act unpack ===== -/
section
variable {t : ev_M}
/-- the best of the first j that are in a bag -/
def bst (f g : Nat → Int32) (a : Int32) (j : Nat) (x : Int32) : Prop := (x = cI (-1) ∧ ∀ i, i < j → ¬ f i = a) ∨ ∃ b, b < j ∧ x = cI (b : Int) ∧ f b = a ∧ ∀ i, i < j → f i = a → (g b).toInt ≤ (g i).toInt
theorem first_lp {k76 : ev_M → Int32 → Int32 → Int32 → Option (ev_M × Int32)} {a nn kk : Int32} {e : Nat} (h3 : (t.1 549 58).toInt ≤ 300) (he : e < ix (t.1 549 58)) (hf : t.1 593 e = a) (hm : ∀ i, i < ix (t.1 549 58) → t.1 593 i = a → i ≠ e → (t.1 594 e).toInt < (t.1 594 i).toInt) : ∀ (r n : Nat) (x j : Int32), 0 ≤ j.toInt → j.toInt + r = (t.1 549 58).toInt → r < n → bst (t.1 593) (t.1 594) a (ix j) x → fM_doOpen_h87 k76 n t a nn kk x j = if inb a 80 = true then bd1 (fM_comesIn t (cI (e : Int)) (t.1 620 (ix a))) fun s3 => k76 s3 a nn (kk + cI 1) else none
  | 0, n, x, j, h0, h1, hn, hx => by
    obtain ⟨n, rfl⟩ : ∃ k, n = k + 1 := ⟨n - 1, by omega⟩
    have hj : ¬ j < t.1 549 58 := by rw [lt_i]; omega
    have ej : ix j = ix (t.1 549 58) := by rw [ix_toNat, ix_toNat]; omega
    rw [ej] at hx
    have ex : x = cI (e : Int) := by
      rcases hx with ⟨-, q⟩ | ⟨b, b1, b2, b3, b4⟩
      · exact absurd hf (q e he)
      · by_cases z : b = e
        · rw [b2, z]
        · have := hm b b1 b3 z
          have := b4 e he hf
          omega
    subst ex
    simp only [fM_doOpen_h87, if_neg hj]
  | r + 1, n, x, j, h0, h1, hn, hx => by
    obtain ⟨n, rfl⟩ : ∃ k, n = k + 1 := ⟨n - 1, by omega⟩
    have hj : j < t.1 549 58 := by rw [lt_i]; omega
    have hi : inb j 300 = true := inb_iff.mpr ⟨by omega, by omega⟩
    have ei : ix (j + cI 1) = ix j + 1 := ix_inc h0 (by omega)
    have et : (j + cI 1).toInt = j.toInt + 1 := inc_i (by omega)
    have jc : cI ((ix j : Nat) : Int) = j := cI_ix h0
    have ih := fun x => first_lp (k76 := k76) (nn := nn) (kk := kk) h3 he hf hm r n x (j + cI 1) (by omega) (by omega) (by omega)
    rw [ei] at ih
    by_cases a1 : t.1 593 (ix j) = a
    · rcases hx with ⟨q, q2⟩ | ⟨b, b1, b2, b3, b4⟩
      · simp only [fM_doOpen_h87, if_pos hj, if_pos hi, if_pos a1, if_pos q, fM_doOpen_b130, fM_doOpen_b137]
        refine ih j (Or.inr ⟨ix j, by omega, jc.symm, a1, fun i hi2 hf2 => ?_⟩)
        by_cases z : i = ix j
        · rw [z]; exact Int.le_refl _
        · exact absurd hf2 (q2 i (by omega))
      · have hj3 : ix j < 300 := by rw [ix_toNat]; omega
        have xn : ¬ x = cI (-1) := by rw [b2]; exact cI_n1 (by omega)
        have xi : inb x 300 = true := inb_iff.mpr ⟨by rw [b2, cI_toInt (by omega) (by omega)]; omega, by rw [b2, cI_toInt (by omega) (by omega)]; omega⟩
        have ex : ix x = b := by rw [b2, ix_n b (by omega)]
        by_cases a2 : t.1 594 (ix j) < t.1 594 b
        · simp only [fM_doOpen_h87, if_pos hj, if_pos hi, if_pos a1, if_neg xn, if_pos xi, ex, if_pos a2, fM_doOpen_b130, fM_doOpen_b137]
          rw [lt_i] at a2
          refine ih j (Or.inr ⟨ix j, by omega, jc.symm, a1, fun i hi2 hf2 => ?_⟩)
          by_cases z : i = ix j
          · rw [z]; exact Int.le_refl _
          · have := b4 i (by omega) hf2; omega
        · simp only [fM_doOpen_h87, if_pos hj, if_pos hi, if_pos a1, if_neg xn, if_pos xi, ex, if_neg a2, fM_doOpen_b135, fM_doOpen_b137]
          rw [lt_i] at a2
          refine ih x (Or.inr ⟨b, by omega, b2, b3, fun i hi2 hf2 => ?_⟩)
          by_cases z : i = ix j
          · rw [z]; omega
          · exact b4 i (by omega) hf2
    · simp only [fM_doOpen_h87, if_pos hj, if_pos hi, if_neg a1, fM_doOpen_b135, fM_doOpen_b137]
      refine ih x ?_
      rcases hx with ⟨q, q2⟩ | ⟨b, b1, b2, b3, b4⟩
      · refine Or.inl ⟨q, fun i hi2 => ?_⟩
        by_cases z : i = ix j
        · rw [z]; exact a1
        · exact q2 i (by omega)
      · refine Or.inr ⟨b, by omega, b2, b3, fun i hi2 hf2 => ?_⟩
        by_cases z : i = ix j
        · rw [z] at hf2; exact absurd hf2 a1
        · exact b4 i (by omega) hf2
end
/-- the bags while one is emptied: of its list l the first k are gone in the reference -/
def RBm (a : Nat) (l : List Nat) (k : Nat) (s t : ev_M) : Prop := Bd (ix (s.1 100 5)) (t.1 593) (-1) ((s.1 449 6).toInt - 1) ∧ (∀ r, r < ix (s.1 449 6) → r ≠ a → ∃ l, Hol (rowsOf s 466 80 r) (s.1 462 r) l ∧ l.length ≤ 40 ∧ l.Pairwise (fun a b => (t.1 594 a).toInt < (t.1 594 b).toInt) ∧ ∀ i, i ∈ l ↔ i < ix (s.1 100 5) ∧ t.1 593 i = cI (r : Int)) ∧ Hol (rowsOf s 466 80 a) (s.1 462 a) l ∧ l.Pairwise (fun a b => (t.1 594 a).toInt < (t.1 594 b).toInt) ∧ ∀ i, i ∈ l.drop k ↔ i < ix (s.1 100 5) ∧ t.1 593 i = cI (a : Int)
theorem RBm.step {a k : Nat} {l : List Nat} {s t s' t' : ev_M} (h : RBm a l k s t) (hk : k < l.length) (ha : a < ix (s.1 449 6)) (h80 : (s.1 449 6).toInt ≤ 80) (e1 : s'.1 100 5 = s.1 100 5) (e2 : s'.1 449 6 = s.1 449 6) (e3 : rowsOf s' 466 80 = rowsOf s 466 80) (e4 : s'.1 462 = s.1 462) (e5 : t'.1 593 = up1 (t.1 593) l[k] (cI (-1))) (e6 : t'.1 594 = t.1 594) : RBm a l (k + 1) s' t' := by
  obtain ⟨q1, q2, q3, q4, q5⟩ := h
  have hd : l.drop k = l[k] :: l.drop (k + 1) := (List.drop_eq_getElem_cons hk)
  have nd := lt_nodup (q4.sublist (List.drop_sublist k l))
  rw [hd] at nd q5
  obtain ⟨nd1, nd2⟩ := List.nodup_cons.mp nd
  have ek := (q5 l[k]).mp (List.mem_cons.mpr (Or.inl rfl))
  have en : ix (s.1 449 6) = (s.1 449 6).toInt.toNat := ix_toNat _
  unfold RBm
  rw [e1, e2, e3, e4, e5, e6]
  refine ⟨q1.set ⟨by decide, by show (-1 : Int) ≤ _; omega⟩, fun r hr hne => ?_, q3, q4, fun i => ?_⟩
  · obtain ⟨l2, p1, p2, p3, p4⟩ := q2 r hr hne
    refine ⟨l2, p1, p2, p3, fun i => ?_⟩
    by_cases z : i = l[k]
    · rw [z, up1_eq, p4]
      constructor
      · intro w
        have w2 := w.2.symm.trans ek.2
        have w3 := congrArg Int32.toInt w2
        rw [cI_toInt (by omega) (by omega), cI_toInt (by omega) (by omega)] at w3
        omega
      · intro w
        exact absurd w.2 (neg1_ne (by omega))
    · rw [up1_ne z]; exact p4 i
  · by_cases z : i = l[k]
    · rw [z, up1_eq]
      constructor
      · intro w; exact absurd w nd1
      · intro w; exact absurd w.2 (neg1_ne (by omega))
    · rw [up1_ne z, ← q5 i]
      exact ⟨fun w => List.mem_cons.mpr (Or.inr w), fun w => (List.mem_cons.mp w).resolve_left z⟩
section
variable {s t : ev_M} {n k : Nat}
theorem REv.mono {m : Nat} (h : REv n s t) (hm : n ≤ m) : REv m s t := ⟨⟨h.1.1, h.1.2.1, by have := h.1.2.2; omega⟩, h.2⟩
theorem RNt.mono {m : Nat} (h : RNt n s t) (hm : n ≤ m) : RNt m s t := ⟨⟨h.1.1, h.1.2.1, by have := h.1.2.2; omega⟩, h.2⟩
theorem RCo.mono {m : Nat} (h : RCo n s t) (hm : n ≤ m) : RCo m s t := ⟨⟨⟨h.1.1.1, by have := h.1.1.2; omega⟩, h.1.2.1, by have := h.1.2.2; omega⟩, h.2⟩
theorem RXq.mono {m : Nat} (h : RXq n s t) (hm : n ≤ m) : RXq m s t := ⟨h.1, h.2.1, h.2.2.1.mono hm, h.2.2.2⟩
theorem RN.mono {m : Nat} (h : RN n s t) (hm : n ≤ m) : RN m s t := ⟨h.1.mono hm, h.2.mono hm⟩
theorem RV.mono {m : Nat} (h : RV n s t) (hm : n ≤ m) : RV m s t := ⟨h.1.mono hm, h.2.1.mono hm, h.2.2⟩
theorem RRw.lv (h : RRw s t) (h2 : t.1 595 k = cI (-1)) : RRw s (lvS t k) := by
  have e3 : (lvS t k).1 595 = t.1 595 := by unfold lvS; simp (disch := decide) only [ix_0, ix_1, ix_2, ix_3, ix_4, ix_5, ix_6, ix_7, ix_8, ix_9, ix_10, ix_11, ix_12, ix_13, ix_14, ix_15, ix_16, ix_17, ix_18, ix_19, ix_20, ix_21, Nat.reduceAdd, wI_c, wI_ne, wL_1, lupd_ne, up1_eq, up1_ne]; exact up1_id h2
  have e4 : (lvS t k).1 596 = t.1 596 := by unfold lvS; simp (disch := decide) only [ix_0, ix_1, ix_2, ix_3, ix_4, ix_5, ix_6, ix_7, ix_8, ix_9, ix_10, ix_11, ix_12, ix_13, ix_14, ix_15, ix_16, ix_17, ix_18, ix_19, ix_20, ix_21, Nat.reduceAdd, wI_c, wI_ne, wL_1, lupd_ne, up1_eq, up1_ne]
  unfold RRw at h ⊢; rw [e3, e4]; exact h
theorem RBx.lv (h : RBx s t) (hk : k < ix (s.1 100 5)) (h3 : t.1 597 k = cI (-1)) : RBx s (lvS t k) := by
  have h4 : t.1 598 k = cI (-1) := by
    rcases h.2.1 k hk with z | z
    · exact z.2
    · have := z.1.1
      rw [h3] at this
      exact absurd this (by decide)
  have e5 : (lvS t k).1 597 = t.1 597 := by unfold lvS; simp (disch := decide) only [ix_0, ix_1, ix_2, ix_3, ix_4, ix_5, ix_6, ix_7, ix_8, ix_9, ix_10, ix_11, ix_12, ix_13, ix_14, ix_15, ix_16, ix_17, ix_18, ix_19, ix_20, ix_21, Nat.reduceAdd, wI_c, wI_ne, wL_1, lupd_ne, up1_eq, up1_ne]; exact up1_id h3
  have e6 : (lvS t k).1 598 = t.1 598 := by unfold lvS; simp (disch := decide) only [ix_0, ix_1, ix_2, ix_3, ix_4, ix_5, ix_6, ix_7, ix_8, ix_9, ix_10, ix_11, ix_12, ix_13, ix_14, ix_15, ix_16, ix_17, ix_18, ix_19, ix_20, ix_21, Nat.reduceAdd, wI_c, wI_ne, wL_1, lupd_ne, up1_eq, up1_ne]; exact up1_id h4
  unfold RBx at h ⊢; rw [e5, e6]; exact h
end
theorem unpk_lp {a nn : Int32} {l : List Nat} (hl : l.length ≤ 40) (hnn : nn.toInt = (l.length : Int)) : ∀ (r m m' n k : Nat) (s t : ev_M) (kk : Int32), k + r = l.length → kk.toInt = (k : Int) → r < m → r < m' → n + r < 2147483646 → RXq n s t → RN n s t → RBm (ix a) l k s t → RRw s t → RBx s t → RCu s t → RTim s t → RPl s t → Has a (s.1 449 6) → (s.1 449 6).toInt ≤ 80 → 0 ≤ (s.1 125 3).toInt → t.1 620 (ix a) = s.1 461 (ix a) → 0 ≤ (s.1 461 (ix a)).toInt → (s.1 461 (ix a)).toInt ≤ (s.1 30 2).toInt - 1 → ∃ s' t', fLines_emptyBag_h69 m s a nn kk = some (wI (wI s' 462 (ix a) (cI 0)) 459 (ix a) (cI 3), nn) ∧ fM_doOpen_h76 m' t a nn kk = some (t', nn) ∧ RXq (n + r) s' t' ∧ RN (n + r) s' t' ∧ RBm (ix a) l l.length s' t' ∧ RRw s' t' ∧ RBx s' t' ∧ fr F_Items_comeInAt s s' ∧ fr F_M_comesIn t t'
  | 0, m, m', n, k, s, t, kk, hk, hkk, hm, hm', hn, q, e, b, rw1, bx, hcu, ht, hp, ha, h80, z2, e620, p0, p1 => by
    obtain ⟨m, rfl⟩ : ∃ k, m = k + 1 := ⟨m - 1, by omega⟩
    obtain ⟨m', rfl⟩ : ∃ k, m' = k + 1 := ⟨m' - 1, by omega⟩
    have hb : inb a 80 = true := ha.inb h80
    have hj : ¬ kk < nn := by rw [lt_i]; omega
    have ek : k = l.length := by omega
    subst ek
    refine ⟨s, t, ?_, ?_, q, e, b, rw1, bx, fr.rf, fr.rf⟩
    · simp only [fLines_emptyBag_h69, if_neg hj, if_pos hb, ltM_eq, ix_0, ix_3, Nat.add_zero, Nat.reduceAdd]
    · simp only [fM_doOpen_h76, if_neg hj]
  | r + 1, m, m', n, k, s, t, kk, hk, hkk, hm, hm', hn, q, e, b, rw1, bx, hcu, ht, hp, ha, h80, z2, e620, p0, p1 => by
    obtain ⟨m, rfl⟩ : ∃ k, m = k + 1 := ⟨m - 1, by omega⟩
    obtain ⟨m', rfl⟩ : ∃ k, m' = k + 1 := ⟨m' - 1, by omega⟩
    obtain ⟨⟨n1, n2, n3⟩, -⟩ := id q.1
    have hb : inb a 80 = true := ha.inb h80
    have hj : kk < nn := by rw [lt_i]; omega
    have kl : k < l.length := by omega
    have hd : l.drop k = l[k] :: l.drop (k + 1) := List.drop_eq_getElem_cons kl
    have em := (b.2.2.2.2 l[k]).mp (by rw [hd]; exact List.mem_cons.mpr (Or.inl rfl))
    rw [cI_ix ha.1] at em
    have a80 : ix a < 80 := by have := ha.1; have := ha.2; rw [ix_toNat]; omega
    have i3 : ix (s.1 100 5) ≤ 300 := by rw [ix_toNat]; omega
    have ekk : ix kk = k := by rw [ix_toNat]; omega
    have ec : s.1 (466 + ix a) (ix kk) = cI ((l[k] : Nat) : Int) := by
      have := b.2.2.1.2 k kl
      rw [rows_at a80] at this
      rw [ekk]; exact this
    have bk : inb kk 40 = true := inb_iff.mpr ⟨by omega, by omega⟩
    have ei : ix (cI ((l[k] : Nat) : Int)) = l[k] := ix_n _ (by omega)
    have hi : Has (cI ((l[k] : Nat) : Int)) (s.1 100 5) := by
      have w := em.1
      rw [ix_toNat] at w
      exact ⟨by rw [cI_toInt (by omega) (by omega)]; omega, by rw [cI_toInt (by omega) (by omega)]; omega⟩
    have st2 : s.1 102 l[k] = cI 2 := Classical.byContradiction (fun z => by
      have := (q.2.2.2 l[k] em.1).1 z
      rw [em.2] at this
      have := ha.1
      rw [‹a = cI (-1)›] at this
      exact absurd this (by decide))
    have sx := q.2.2.2 l[k] em.1
    have t595 := sx.2.1 (by rw [st2]; decide)
    have t597 := (sx.2.2.1 (by rw [st2]; decide)).2
    obtain ⟨s1, t1, v1, v2, v3, v4, v5, v6, v7, -⟩ := go_in0 (i := cI ((l[k] : Nat) : Int)) (p := s.1 461 (ix a)) q e hcu ht (by omega) hi (by have := ha.1; have := ha.2; omega) z2 ⟨by omega, p1⟩
    rw [ei] at v7
    have w593 : t1.1 593 = up1 (t.1 593) l[k] (cI (-1)) := by
      rw [(nof_c v7 (L := [(593, 0)]) (by decide +kernel) (c := 593) rfl).1]
      unfold lvS
      simp (disch := decide) only [ix_0, ix_1, ix_2, ix_3, ix_4, ix_5, ix_6, ix_7, ix_8, ix_9, ix_10, ix_11, ix_12, ix_13, ix_14, ix_15, ix_16, ix_17, ix_18, ix_19, ix_20, ix_21, Nat.reduceAdd, wI_c, wI_ne, wL_1, lupd_ne, up1_eq, up1_ne]
    have w594 : t1.1 594 = t.1 594 := by
      rw [(nof_c v7 (L := [(594, 0)]) (by decide +kernel) (c := 594) rfl).1]
      unfold lvS
      simp (disch := decide) only [ix_0, ix_1, ix_2, ix_3, ix_4, ix_5, ix_6, ix_7, ix_8, ix_9, ix_10, ix_11, ix_12, ix_13, ix_14, ix_15, ix_16, ix_17, ix_18, ix_19, ix_20, ix_21, Nat.reduceAdd, wI_c, wI_ne, wL_1, lupd_ne, up1_eq, up1_ne]
    have x100 : s1.1 100 5 = s.1 100 5 := (v5.1 100 5 (by decide +kernel)).1
    have x449 : s1.1 449 = s.1 449 := fr_ge v5 (N := 200) (by decide +kernel) (by decide)
    have x461 : s1.1 461 = s.1 461 := fr_ge v5 (N := 200) (by decide +kernel) (by decide)
    have x462 : s1.1 462 = s.1 462 := fr_ge v5 (N := 200) (by decide +kernel) (by decide)
    have x125 : s1.1 125 = s.1 125 := fr_ge v5 (N := 125) (by decide +kernel) (by decide)
    have x30 : s1.1 30 = s.1 30 := (nof_c v5 (L := [(30, 0)]) (by decide +kernel) (c := 30) rfl).1
    have y620 : t1.1 620 = t.1 620 := (nof_c v6 (L := [(620, 0)]) (by decide +kernel) (c := 620) rfl).1
    have bs : RBm (ix a) l (k + 1) s1 t1 := b.step kl ha.ix h80 x100 (by rw [x449]) (rows_eq (fun r hr => fr_ge v5 (N := 200) (by decide +kernel) (by omega))) x462 w593 w594
    obtain ⟨s', t', u1, u2, u3, u4, u5, u6, u7, u8, u9⟩ := unpk_lp hl hnn r m m' (n + 1) (k + 1) s1 t1 (kk + cI 1) (by omega) (by rw [inc_i (by omega)]; omega) (by omega) (by omega) (by omega) v3 v4 bs ((rw1.lv t595).keep v5 v7 (by decide +kernel) (by decide +kernel)) ((bx.lv em.1 t597).keep v5 v7 (by decide +kernel) (by decide +kernel)) (hcu.keep v5 v6 (by decide +kernel) (by decide +kernel)) (ht.keep v5 v6 (by decide +kernel) (by decide +kernel)) (hp.keep v5 v6 (by decide +kernel) (by decide +kernel)) (by rw [x449]; exact ha) (by rw [x449]; exact h80) (by rw [x125]; exact z2) (by rw [y620, x461]; exact e620) (by rw [x461]; exact p0) (by rw [x461, x30]; exact p1)
    have en : n + 1 + r = n + (r + 1) := by omega
    rw [en] at u3 u4
    refine ⟨s', t', ?_, ?_, u3, u4, u5, u6, u7, v5.tr u8, v6.tr u9⟩
    · simp only [fLines_emptyBag_h69, if_pos hj, if_pos hb, if_pos bk, ix_2, Nat.reduceAdd, ec, v1, bd1_some]
      exact u1
    · have f := first_lp (t := t) (k76 := fM_doOpen_h76 m') (a := a) (nn := nn) (kk := kk) (e := l[k]) (by rw [n1]; exact n3) (by rw [n1]; exact em.1) em.2 (fun i hi2 hf hne => by
        rw [n1] at hi2
        have mi := (b.2.2.2.2 i).mpr ⟨hi2, by rw [cI_ix ha.1]; exact hf⟩
        have pw := b.2.2.2.1.sublist (List.drop_sublist k l)
        rw [hd] at mi pw
        rcases List.mem_cons.mp mi with z | z
        · exact absurd z hne
        · exact (List.pairwise_cons.mp pw).1 i z) (ix (s.1 100 5)) 1048576 (cI (-1)) (cI 0) (by decide) (by rw [n1, ix_toNat, show (cI 0).toInt = 0 from rfl]; omega) (by omega) (Or.inl ⟨rfl, fun i hi2 => absurd hi2 (Nat.not_lt_zero _)⟩)
      simp only [fM_doOpen_h76, if_pos hj]
      rw [f, if_pos hb, e620, v2, bd1_some]
      exact u2
section
variable {s t : ev_M} {F : Bool} {A : Nat → Nat → Int32} {n : Nat}
theorem a_unpack {a : Int32} (hA : AdmC s F A) (hM : FulM t F) (h0 : t.1 549 15 = 0) (h : RV n s t) (hB : RBg s t) (hcu : RCu s t) (ht : RTim s t) (hp : RPl s t) (hl : RLk s t) (hn9 : n + 40 < 2147483646) : Ok (fLines_emptyBag s a) fun x => Ok (fM_doOpen t a) fun y => AP (fun s' t' => (RV n s' t' ∧ RBg s' t') ∧ s' = s) (fun s' t' => (RV (n + 40) s' t' ∧ RBg s' t') ∧ s'.1 459 = up1 (s.1 459) (ix a) (cI 3)) F A s x y := by
  obtain ⟨⟨n1, n2, n3⟩, -⟩ := id h.1.1
  obtain ⟨⟨m1, m2, m3⟩, g1, g2, g3, g4, k1, b1, b2, b3, b4⟩ := id hB
  have hn : (fun s' t' => (RV n s' t' ∧ RBg s' t') ∧ s' = s) s (wI t 549 15 (cI 1)) := ⟨⟨h.no, hB.keep rf_fr no_fr rfl rfl⟩, rfl⟩
  by_cases h1 : Has a (s.1 449 6)
  rotate_left
  · exact sim_no (c := cI (-101)) (by simp only [fLines_emptyBag, fM_doOpen_b40, fM_doOpen_b137, fM_doOpen_b130, fM_doOpen_b135, fM_doOpen, e_hasBag m2, e_isBag (by rw [m1]; exact m2), m1, ltM_eq, ltI_eq, ltL_eq, bd1_some, bd2_some, ite_bI, if_true, if_false, ite_true, ite_false, eq_self, not_true_eq_false, not_false_eq_true, i10, outside_eq, in_eq, no_eq, eq_false h1]) (by simp only [fLines_emptyBag, fM_doOpen_b40, fM_doOpen_b137, fM_doOpen_b130, fM_doOpen_b135, fM_doOpen, e_hasBag m2, e_isBag (by rw [m1]; exact m2), m1, ltM_eq, ltI_eq, ltL_eq, bd1_some, bd2_some, ite_bI, if_true, if_false, ite_true, ite_false, eq_self, not_true_eq_false, not_false_eq_true, i10, outside_eq, in_eq, no_eq, eq_false h1]) hn
  have hb : inb a 80 = true := h1.inb m3
  have w := h1.ix
  have e1 := g1 _ w
  have e2 := g2 _ w
  have d3 := b3 _ w
  by_cases h3 : s.1 459 (ix a) = cI 1
  rotate_left
  · exact sim_no (c := cI (-103)) (by unfold fLines_emptyBag; generalize fLines_emptyBag_h69 1048576 = H; simp only [e_hasBag m2, eq_true h1, ltM_eq, bd1_some, bd2_some, ite_bI, if_true, if_false, ite_true, ite_false, eq_self, not_true_eq_false, not_false_eq_true, i10, hb, ix_0, ix_1, ix_2, ix_3, ix_4, ix_5, ix_6, ix_7, ix_8, ix_9, ix_10, ix_11, ix_12, ix_13, ix_14, ix_15, ix_16, ix_17, ix_18, ix_19, ix_20, ix_21, Nat.reduceAdd, wI_c, wI_ne, wL_1, lupd_ne, up1_eq, up1_ne, eq_false h3]) (by unfold fM_doOpen; generalize fM_doOpen_h76 1048576 = H; simp only [fLines_emptyBag, fM_doOpen_b40, fM_doOpen_b137, fM_doOpen_b130, fM_doOpen_b135, fM_doOpen, e_hasBag m2, e_isBag (by rw [m1]; exact m2), m1, ltM_eq, ltI_eq, ltL_eq, bd1_some, bd2_some, ite_bI, if_true, if_false, ite_true, ite_false, eq_self, not_true_eq_false, not_false_eq_true, i10, outside_eq, in_eq, no_eq, eq_true h1, hb, e1, eq_false h3]) hn
  have e619 : t.1 619 (ix a) = s.1 460 (ix a) := ((k1 _ w).1 (by rw [h3]; decide)).1
  by_cases h4 : s.1 460 (ix a) = s.1 461 (ix a)
  rotate_left
  · exact sim_no (c := cI (-103)) (by unfold fLines_emptyBag; generalize fLines_emptyBag_h69 1048576 = H; simp only [e_hasBag m2, eq_true h1, ltM_eq, bd1_some, bd2_some, ite_bI, if_true, if_false, ite_true, ite_false, eq_self, not_true_eq_false, not_false_eq_true, i10, hb, ix_0, ix_1, ix_2, ix_3, ix_4, ix_5, ix_6, ix_7, ix_8, ix_9, ix_10, ix_11, ix_12, ix_13, ix_14, ix_15, ix_16, ix_17, ix_18, ix_19, ix_20, ix_21, Nat.reduceAdd, wI_c, wI_ne, wL_1, lupd_ne, up1_eq, up1_ne, eq_true h3, eq_false h4]) (by unfold fM_doOpen; generalize fM_doOpen_h76 1048576 = H; simp only [fLines_emptyBag, fM_doOpen_b40, fM_doOpen_b137, fM_doOpen_b130, fM_doOpen_b135, fM_doOpen, e_hasBag m2, e_isBag (by rw [m1]; exact m2), m1, ltM_eq, ltI_eq, ltL_eq, bd1_some, bd2_some, ite_bI, if_true, if_false, ite_true, ite_false, eq_self, not_true_eq_false, not_false_eq_true, i10, outside_eq, in_eq, no_eq, eq_true h1, hb, e1, e619, e2, eq_true h3, eq_false h4]) hn
  by_cases hF : F = true
  · subst hF
    exact sim_no (c := cI (-104)) (by unfold fLines_emptyBag; generalize fLines_emptyBag_h69 1048576 = H; simp only [e_hasBag m2, eq_true h1, ltM_eq, bd1_some, bd2_some, ite_bI, if_true, if_false, ite_true, ite_false, eq_self, not_true_eq_false, not_false_eq_true, i10, hb, ix_0, ix_1, ix_2, ix_3, ix_4, ix_5, ix_6, ix_7, ix_8, ix_9, ix_10, ix_11, ix_12, ix_13, ix_14, ix_15, ix_16, ix_17, ix_18, ix_19, ix_20, ix_21, Nat.reduceAdd, wI_c, wI_ne, wL_1, lupd_ne, up1_eq, up1_ne, eq_true h3, eq_true h4, hA.no]) (by unfold fM_doOpen; generalize fM_doOpen_h76 1048576 = H; simp only [fLines_emptyBag, fM_doOpen_b40, fM_doOpen_b137, fM_doOpen_b130, fM_doOpen_b135, fM_doOpen, e_hasBag m2, e_isBag (by rw [m1]; exact m2), m1, ltM_eq, ltI_eq, ltL_eq, bd1_some, bd2_some, ite_bI, if_true, if_false, ite_true, ite_false, eq_self, not_true_eq_false, not_false_eq_true, i10, outside_eq, in_eq, no_eq, eq_true h1, hb, e1, e619, e2, eq_true h3, eq_true h4, hM.no]) hn
  have hF2 : F = false := by cases F <;> simp_all
  subst hF2
  have f2 : fr [(618, 618, 0)] t (wI t 618 (ix a) (cI 3)) := fr.rf.wI rfl
  have hV : RV n (lupd A s) (wI t 618 (ix a) (cI 3)) := h.kp lupd_fr f2 (by decide +kernel) (by decide +kernel)
  have u462 : (lupd A s).1 462 = s.1 462 := lupd_ne (Or.inr (by decide))
  have u461 : (lupd A s).1 461 = s.1 461 := lupd_ne (Or.inr (by decide))
  have u449 : (lupd A s).1 449 = s.1 449 := lupd_ne (Or.inr (by decide))
  have u125 : (lupd A s).1 125 = s.1 125 := lupd_ne (Or.inr (by decide))
  have u100 : (lupd A s).1 100 = s.1 100 := lupd_ne (Or.inr (by decide))
  have u30 : (lupd A s).1 30 = s.1 30 := lupd_ne (Or.inr (by decide))
  obtain ⟨l, l1, l2, l3, l4⟩ := hV.2.2.2.1.2 (ix a) (by rw [u449]; exact w)
  have ec := (hV.2.2.2.1.cnt (b := a) (by rw [wI_ne (by decide), u100]; exact n1) (by rw [u100]; exact n2) (by rw [u100]; exact n3) (by rw [u449]; exact h1)).1
  rw [u462] at l1 ec
  have bm : RBm (ix a) l 0 (lupd A s) (wI t 618 (ix a) (cI 3)) := ⟨hV.2.2.2.1.1, fun r hr _ => hV.2.2.2.1.2 r hr, by rw [u462]; exact l1, l3, l4⟩
  obtain ⟨s', t', v1, v2, v3, v4, v5, v6, v7, v8, v9⟩ := unpk_lp (a := a) (nn := s.1 462 (ix a)) l2 l1.1 l.length 1048576 1048576 n 0 (lupd A s) (wI t 618 (ix a) (cI 3)) (cI 0) (by omega) (by decide) (by omega) (by omega) (by omega) hV.1 hV.2.1 bm hV.2.2.1 hV.2.2.2.2 (hcu.keep lupd_fr f2 (by decide +kernel) (by decide +kernel)) (ht.keep lupd_fr f2 (by decide +kernel) (by decide +kernel)) (hp.keep lupd_fr f2 (by decide +kernel) (by decide +kernel)) (by rw [u449]; exact h1) (by rw [u449]; exact m3) (by rw [u125]; exact hl.1.2.1) (by rw [wI_ne (by decide), u461]; exact e2) (by rw [u461]; exact d3.1) (by rw [u461, u30]; exact d3.2)
  have x449 : s'.1 449 = s.1 449 := (fr_ge v8 (N := 200) (by decide +kernel) (by decide)).trans u449
  have x100 : s'.1 100 5 = s.1 100 5 := by rw [(v8.1 100 5 (by decide +kernel)).1, u100]
  have fE : fr [(462, 462, 0), (459, 459, 0)] s' (wI (wI s' 462 (ix a) (cI 0)) 459 (ix a) (cI 3)) := (fr.rf.wI rfl).wI rfl
  have hBc : RBc (wI (wI s' 462 (ix a) (cI 0)) 459 (ix a) (cI 3)) t' := by
    obtain ⟨y1, y2, y3, y4, y5⟩ := v5
    have er : rowsOf (wI (wI s' 462 (ix a) (cI 0)) 459 (ix a) (cI 3)) 466 80 = rowsOf s' 466 80 := rows_eq (fun r hr => by rw [wI_ne (by omega), wI_ne (by omega)])
    unfold RBc
    rw [er]
    simp (disch := decide) only [ix_0, ix_1, ix_2, ix_3, ix_4, ix_5, ix_6, ix_7, ix_8, ix_9, ix_10, ix_11, ix_12, ix_13, ix_14, ix_15, ix_16, ix_17, ix_18, ix_19, ix_20, ix_21, Nat.reduceAdd, wI_c, wI_ne, wL_1, lupd_ne, up1_eq, up1_ne]
    refine ⟨y1, fun r hr => ?_⟩
    by_cases z : r = ix a
    · rw [z, up1_eq]
      refine ⟨[], ⟨rfl, fun k hk => absurd hk (Nat.not_lt_zero _)⟩, by decide, List.Pairwise.nil, fun i => ?_⟩
      rw [← y5 i, List.drop_length]
    · rw [up1_ne z]
      exact y2 r hr z
  have hBg : RBg (wI (wI s' 462 (ix a) (cI 0)) 459 (ix a) (cI 3)) t' := by
    have hh : RBg (wI (lupd A s) 459 (ix a) (cI 3)) (wI t 618 (ix a) (cI 3)) := by
      unfold RBg
      simp (disch := decide) only [ix_0, ix_1, ix_2, ix_3, ix_4, ix_5, ix_6, ix_7, ix_8, ix_9, ix_10, ix_11, ix_12, ix_13, ix_14, ix_15, ix_16, ix_17, ix_18, ix_19, ix_20, ix_21, Nat.reduceAdd, wI_c, wI_ne, wL_1, lupd_ne, up1_eq, up1_ne]
      refine ⟨⟨m1, m2, m3⟩, g1.set rfl, g2, g3, g4, fun i hi => ?_, b1.set (by decide), b2, b3, b4⟩
      by_cases z : i = ix a
      · rw [z, up1_eq]
        exact ⟨fun _ => (k1 _ w).1 (by rw [h3]; decide), fun q => absurd q (by decide)⟩
      · rw [up1_ne z]
        exact k1 i hi
    have fX : fr ((462, 462, 0) :: F_Items_comeInAt) (lupd A s) (wI s' 462 (ix a) (cI 0)) := (v8.mono (by decide +kernel)).wI rfl
    exact hh.keep fX.two v9 (by decide +kernel) (by decide +kernel)
  have kc : fLines_emptyBag s a = fLines_emptyBag_h69 1048576 (lupd A s) a (s.1 462 (ix a)) (cI 0) := by
    unfold fLines_emptyBag
    generalize fLines_emptyBag_h69 1048576 = H
    simp only [e_hasBag m2, ltM_eq, bd1_some, bd2_some, ite_bI, if_true, if_false, ite_true, ite_false, eq_self, not_true_eq_false, not_false_eq_true, i10, hb, ix_0, ix_1, ix_2, ix_3, Nat.add_zero, Nat.reduceAdd, eq_true h1, eq_true h3, eq_true h4, hA.yes, u462]
    rfl
  have km : fM_doOpen t a = fM_doOpen_h76 1048576 (wI t 618 (ix a) (cI 3)) a (s.1 462 (ix a)) (cI 0) := by
    unfold fM_doOpen
    generalize fM_doOpen_h76 1048576 = H
    simp only [e_isBag (show 0 ≤ (t.1 549 101).toInt by rw [m1]; exact m2), m1, ltM_eq, ltI_eq, ltL_eq, bd1_some, bd2_some, ite_bI, if_true, if_false, ite_true, ite_false, eq_self, not_true_eq_false, not_false_eq_true, i10, hb, eq_true h1, e1, e619, e2, eq_true h3, eq_true h4, hM.yes, ec]
  rw [kc, km, v1, v2, ok_some, ok_some]
  refine ⟨rfl, Or.inr ⟨?_, rfl, ?_, ⟨⟨(v3.mono (by omega)).keep fE rf_fr (by decide +kernel) (by decide +kernel), (v4.mono (by omega)).keep fE rf_fr (by decide +kernel) (by decide +kernel), v6.keep fE rf_fr (by decide +kernel) (by decide +kernel), hBc, v7.keep fE rf_fr (by decide +kernel) (by decide +kernel)⟩, hBg⟩, ?_⟩⟩
  · rw [(v9.1 549 15 (by decide +kernel)).1, wI_ne (by decide)]; exact h0
  · exact ((lgS.fr v8 (by decide +kernel) (by decide +kernel)).wI (by decide) (by decide)).wI (by decide) (by decide)
  · rw [wI_c, wI_ne (by decide), show s'.1 459 = s.1 459 from (nof_c v8 (L := [(459, 0)]) (by decide +kernel) (c := 459) rfl).1.trans (lupd_ne (Or.inr (by decide)))]
end
