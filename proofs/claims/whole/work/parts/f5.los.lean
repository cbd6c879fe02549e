/-! ===== LEVEL 3: the act lose ===== -/
/-- a list without a number -/
def wof (k : Nat) (l : List Nat) : List Nat := l.filter (fun i => decide (i ≠ k))
theorem wof_le {k : Nat} {l : List Nat} : (wof k l).length ≤ l.length := List.length_filter_le _ _
theorem wof_eq {k a : Nat} {l : List Nat} (h : a = k) : wof k (l ++ [a]) = wof k l := by
  unfold wof
  rw [List.filter_append]
  simp [h]
theorem wof_ne {k a : Nat} {l : List Nat} (h : ¬ a = k) : wof k (l ++ [a]) = wof k l ++ [a] := by
  unfold wof
  rw [List.filter_append]
  simp [h]
theorem wof_mem {k a : Nat} {l : List Nat} : a ∈ wof k l ↔ a ∈ l ∧ a ≠ k := by
  unfold wof
  rw [List.mem_filter, decide_eq_true_iff]
theorem wo_466 {x : Int32} {l : List Nat} {k : Nat} {r : Nat} (hl : l.length ≤ 40) (hx : x.toInt = (l.length : Int)) (hb : ∀ z, z ∈ l → z < 300) (hk : k < 300) : ∀ (e m p : Nat) (s : ev_M) (q j : Int32), p + e = l.length → j.toInt = (p : Int) → e < m → q.toInt = ((wof k (l.take p)).length : Int) → (∀ i (h : i < (wof k (l.take p)).length), s.1 (466 + r) i = cI (((wof k (l.take p))[i] : Nat) : Int)) → (∀ i (h : i < l.length), p ≤ i → s.1 (466 + r) i = cI ((l[i] : Nat) : Int)) → ∃ s' v, fPH_without_466_h5 m s r x (cI (k : Int)) q j = some (s', v) ∧ Hol (s'.1 (466 + r)) v (wof k l) ∧ (∀ c, c ≠ 466 + r → s'.1 c = s.1 c) ∧ s'.2 = s.2
  | 0, m, p, s, q, j, h0, h1, hm, hq, ha, hc => by
    obtain ⟨m, rfl⟩ : ∃ k, m = k + 1 := ⟨m - 1, by omega⟩
    have hj : ¬ j < x := by rw [lt_i]; omega
    have ep : l.take p = l := List.take_of_length_le (by omega)
    rw [ep] at hq ha
    refine ⟨s, q, ?_, ⟨hq, ha⟩, fun _ _ => rfl, rfl⟩
    simp only [fPH_without_466_h5, if_neg hj]
  | e + 1, m, p, s, q, j, h0, h1, hm, hq, ha, hc => by
    obtain ⟨m, rfl⟩ : ∃ k, m = k + 1 := ⟨m - 1, by omega⟩
    have hj : j < x := by rw [lt_i]; omega
    have hpl : p < l.length := by omega
    have hjN : j < cI 40 := by rw [lt_i, show (cI 40).toInt = 40 from rfl]; omega
    have hi : inb j 40 = true := inb_iff.mpr ⟨by omega, by omega⟩
    have ej : ix j = p := by rw [ix_toNat]; omega
    have et : (j + cI 1).toInt = ((p + 1 : Nat) : Int) := by rw [inc_i (by omega)]; omega
    have hv := hc p hpl (Nat.le_refl _)
    have lz : l[p] < 300 := hb _ (List.getElem_mem hpl)
    have tk : l.take (p + 1) = l.take p ++ [l[p]] := (List.take_append_getElem hpl).symm
    have le : (wof k (l.take p)).length ≤ p := Nat.le_trans wof_le (List.length_take_le _ _)
    by_cases z : l[p] = k
    · have zz : s.1 (466 + r) (ix j) = cI (k : Int) := by rw [ej, hv, z]
      have f : wof k (l.take (p + 1)) = wof k (l.take p) := by
        rw [tk]; exact wof_eq z
      obtain ⟨s', v, r1, r2, r3, r4⟩ := wo_466 (r := r) hl hx hb hk e m (p + 1) s q (j + cI 1) (by omega) et (by omega) (by rw [f]; exact hq) (by rw [f]; exact ha) (fun i hi2 hp => hc i hi2 (by omega))
      refine ⟨s', v, ?_, r2, r3, r4⟩
      simp only [fPH_without_466_h5, fPH_without_466_b36, if_pos hj, if_pos hjN, if_pos hi, if_pos zz]
      exact r1
    · have zz : ¬ s.1 (466 + r) (ix j) = cI (k : Int) := by
        rw [ej, hv]
        intro w
        have w2 := congrArg Int32.toInt w
        rw [cI_toInt (by omega) (by omega), cI_toInt (by omega) (by omega)] at w2
        omega
      have f : wof k (l.take (p + 1)) = wof k (l.take p) ++ [l[p]] := by
        rw [tk]; exact wof_ne z
      have eq : ix q = (wof k (l.take p)).length := by rw [ix_toNat]; omega
      have hiq : inb q 40 = true := inb_iff.mpr ⟨by omega, by omega⟩
      obtain ⟨s', v, r1, r2, r3, r4⟩ := wo_466 (r := r) hl hx hb hk e m (p + 1) (wI s (466 + r) (ix q) (s.1 (466 + r) (ix j))) (q + cI 1) (j + cI 1) (by omega) et (by omega) (by rw [f, inc_i (by omega), List.length_append, List.length_singleton]; omega) (fun i hi2 => by
        have hf : (wof k (l.take (p + 1)))[i] = (wof k (l.take p) ++ [l[p]])[i]'(by rw [← f]; exact hi2) := by simp only [f]
        rw [hf]
        rw [wI_c]
        by_cases w : i = ix q
        · subst w
          rw [up1_eq, ej, hv]
          rw [List.getElem_append_right (by omega)]
          simp
        · have hi3 : i < (wof k (l.take p)).length := by rw [f, List.length_append, List.length_singleton] at hi2; omega
          rw [up1_ne w, ha i hi3, List.getElem_append_left hi3]) (fun i hi2 hp => by
        rw [wI_c, up1_ne (by omega)]
        exact hc i hi2 (by omega))
      refine ⟨s', v, ?_, r2, fun c hcc => ?_, ?_⟩
      · simp only [fPH_without_466_h5, fPH_without_466_b36, if_pos hj, if_pos hjN, if_pos hi, if_neg zz, if_pos hiq, ltM_eq]
        exact r1
      · rw [r3 c hcc, wI_ne hcc]
      · rw [r4]; rfl
/-- an item taken out of a row -/
theorem e_wo_466 {x : Int32} {l : List Nat} {k : Nat} {r : Nat} {s : ev_M} (hl : l.length ≤ 40) (hb : ∀ z, z ∈ l → z < 300) (hk : k < 300) (h : Hol (s.1 (466 + r)) x l) : ∃ s' v, fPH_without_466 s r x (cI (k : Int)) = some (s', v) ∧ Hol (s'.1 (466 + r)) v (wof k l) ∧ (∀ c, c ≠ 466 + r → s'.1 c = s.1 c) ∧ s'.2 = s.2 :=
  wo_466 hl h.1 hb hk l.length 1048576 0 s (cI 0) (cI 0) (by omega) (by decide) (by omega) (by rw [List.take_zero]; rfl) (fun i hi => absurd hi (by rw [List.take_zero]; exact Nat.not_lt_zero _)) (fun i hi _ => h.2 i hi)
theorem wo_160 {x : Int32} {l : List Nat} {k : Nat} {r : Nat} (hl : l.length ≤ 300) (hx : x.toInt = (l.length : Int)) (hb : ∀ z, z ∈ l → z < 300) (hk : k < 300) : ∀ (e m p : Nat) (s : ev_M) (q j : Int32), p + e = l.length → j.toInt = (p : Int) → e < m → q.toInt = ((wof k (l.take p)).length : Int) → (∀ i (h : i < (wof k (l.take p)).length), s.1 (160 + r) i = cI (((wof k (l.take p))[i] : Nat) : Int)) → (∀ i (h : i < l.length), p ≤ i → s.1 (160 + r) i = cI ((l[i] : Nat) : Int)) → ∃ s' v, fPH_without_160_h5 m s r x (cI (k : Int)) q j = some (s', v) ∧ Hol (s'.1 (160 + r)) v (wof k l) ∧ (∀ c, c ≠ 160 + r → s'.1 c = s.1 c) ∧ s'.2 = s.2
  | 0, m, p, s, q, j, h0, h1, hm, hq, ha, hc => by
    obtain ⟨m, rfl⟩ : ∃ k, m = k + 1 := ⟨m - 1, by omega⟩
    have hj : ¬ j < x := by rw [lt_i]; omega
    have ep : l.take p = l := List.take_of_length_le (by omega)
    rw [ep] at hq ha
    refine ⟨s, q, ?_, ⟨hq, ha⟩, fun _ _ => rfl, rfl⟩
    simp only [fPH_without_160_h5, if_neg hj]
  | e + 1, m, p, s, q, j, h0, h1, hm, hq, ha, hc => by
    obtain ⟨m, rfl⟩ : ∃ k, m = k + 1 := ⟨m - 1, by omega⟩
    have hj : j < x := by rw [lt_i]; omega
    have hpl : p < l.length := by omega
    have hjN : j < cI 300 := by rw [lt_i, show (cI 300).toInt = 300 from rfl]; omega
    have hi : inb j 300 = true := inb_iff.mpr ⟨by omega, by omega⟩
    have ej : ix j = p := by rw [ix_toNat]; omega
    have et : (j + cI 1).toInt = ((p + 1 : Nat) : Int) := by rw [inc_i (by omega)]; omega
    have hv := hc p hpl (Nat.le_refl _)
    have lz : l[p] < 300 := hb _ (List.getElem_mem hpl)
    have tk : l.take (p + 1) = l.take p ++ [l[p]] := (List.take_append_getElem hpl).symm
    have le : (wof k (l.take p)).length ≤ p := Nat.le_trans wof_le (List.length_take_le _ _)
    by_cases z : l[p] = k
    · have zz : s.1 (160 + r) (ix j) = cI (k : Int) := by rw [ej, hv, z]
      have f : wof k (l.take (p + 1)) = wof k (l.take p) := by
        rw [tk]; exact wof_eq z
      obtain ⟨s', v, r1, r2, r3, r4⟩ := wo_160 (r := r) hl hx hb hk e m (p + 1) s q (j + cI 1) (by omega) et (by omega) (by rw [f]; exact hq) (by rw [f]; exact ha) (fun i hi2 hp => hc i hi2 (by omega))
      refine ⟨s', v, ?_, r2, r3, r4⟩
      simp only [fPH_without_160_h5, fPH_without_160_b36, if_pos hj, if_pos hjN, if_pos hi, if_pos zz]
      exact r1
    · have zz : ¬ s.1 (160 + r) (ix j) = cI (k : Int) := by
        rw [ej, hv]
        intro w
        have w2 := congrArg Int32.toInt w
        rw [cI_toInt (by omega) (by omega), cI_toInt (by omega) (by omega)] at w2
        omega
      have f : wof k (l.take (p + 1)) = wof k (l.take p) ++ [l[p]] := by
        rw [tk]; exact wof_ne z
      have eq : ix q = (wof k (l.take p)).length := by rw [ix_toNat]; omega
      have hiq : inb q 300 = true := inb_iff.mpr ⟨by omega, by omega⟩
      obtain ⟨s', v, r1, r2, r3, r4⟩ := wo_160 (r := r) hl hx hb hk e m (p + 1) (wI s (160 + r) (ix q) (s.1 (160 + r) (ix j))) (q + cI 1) (j + cI 1) (by omega) et (by omega) (by rw [f, inc_i (by omega), List.length_append, List.length_singleton]; omega) (fun i hi2 => by
        have hf : (wof k (l.take (p + 1)))[i] = (wof k (l.take p) ++ [l[p]])[i]'(by rw [← f]; exact hi2) := by simp only [f]
        rw [hf]
        rw [wI_c]
        by_cases w : i = ix q
        · subst w
          rw [up1_eq, ej, hv]
          rw [List.getElem_append_right (by omega)]
          simp
        · have hi3 : i < (wof k (l.take p)).length := by rw [f, List.length_append, List.length_singleton] at hi2; omega
          rw [up1_ne w, ha i hi3, List.getElem_append_left hi3]) (fun i hi2 hp => by
        rw [wI_c, up1_ne (by omega)]
        exact hc i hi2 (by omega))
      refine ⟨s', v, ?_, r2, fun c hcc => ?_, ?_⟩
      · simp only [fPH_without_160_h5, fPH_without_160_b36, if_pos hj, if_pos hjN, if_pos hi, if_neg zz, if_pos hiq, ltM_eq]
        exact r1
      · rw [r3 c hcc, wI_ne hcc]
      · rw [r4]; rfl
/-- an item taken out of a row -/
theorem e_wo_160 {x : Int32} {l : List Nat} {k : Nat} {r : Nat} {s : ev_M} (hl : l.length ≤ 300) (hb : ∀ z, z ∈ l → z < 300) (hk : k < 300) (h : Hol (s.1 (160 + r)) x l) : ∃ s' v, fPH_without_160 s r x (cI (k : Int)) = some (s', v) ∧ Hol (s'.1 (160 + r)) v (wof k l) ∧ (∀ c, c ≠ 160 + r → s'.1 c = s.1 c) ∧ s'.2 = s.2 :=
  wo_160 hl h.1 hb hk l.length 1048576 0 s (cI 0) (cI 0) (by omega) (by decide) (by omega) (by rw [List.take_zero]; rfl) (fun i hi => absurd hi (by rw [List.take_zero]; exact Nat.not_lt_zero _)) (fun i hi _ => h.2 i hi)
theorem flt_id {l : List Nat} {k : Nat} (h : k ∉ l) : wof k l = l :=
  List.filter_eq_self.mpr (fun a ha => decide_eq_true (fun z => h (z ▸ ha)))
section
variable {s t : ev_M}
theorem RBc.lst (h : RBc s t) (n3 : (s.1 100 5).toInt ≤ 300) {r : Nat} (hr : r < ix (s.1 449 6)) : ∃ l, Hol (rowsOf s 466 80 r) (s.1 462 r) l ∧ l.length ≤ 40 ∧ l.Pairwise (fun a b => (t.1 594 a).toInt < (t.1 594 b).toInt) ∧ (∀ i, i ∈ l ↔ i < ix (s.1 100 5) ∧ t.1 593 i = cI (r : Int)) ∧ ∀ z, z ∈ l → z < 300 := by
  obtain ⟨l, h1, h2, h3, h4⟩ := h.2 r hr
  refine ⟨l, h1, h2, h3, h4, fun z hz => ?_⟩
  have := ((h4 z).mp hz).1
  rw [ix_toNat] at this
  omega
/-- an item out of its bag, if it is in one -/
theorem drop_b {i : Int32} (h : RBc s t) (hB : RBg s t) (n3 : (s.1 100 5).toInt ≤ 300) (hi : Has i (s.1 100 5)) (he : s.1 111 (ix i) = t.1 593 (ix i)) : ∃ s', fLines_drop s i = some s' ∧ fr [(462, 462, 0), (466, 545, 0)] s s' ∧ ∀ t', t'.1 593 = up1 (t.1 593) (ix i) (cI (-1)) → t'.1 594 = t.1 594 → RBc s' t' := by
  obtain ⟨⟨m1, m2, m3⟩, -⟩ := id hB
  have hb : inb i 300 = true := hi.inb n3
  have w := hi.ix
  have ic : cI ((ix i : Nat) : Int) = i := cI_ix hi.1
  have i300 : ix i < 300 := by have := hi.1; have := hi.2; rw [ix_toNat]; omega
  have n80 : ix (s.1 449 6) ≤ 80 := by rw [ix_toNat]; omega
  by_cases z : Has (s.1 111 (ix i)) (s.1 449 6)
  rotate_left
  · have q1 := h.1 _ w
    have e1 : t.1 593 (ix i) = cI (-1) := by
      rw [← he] at q1 ⊢
      have : ¬ 0 ≤ (s.1 111 (ix i)).toInt := fun y => z ⟨y, by omega⟩
      rw [eq_i, show (cI (-1)).toInt = -1 from rfl]; omega
    refine ⟨s, ?_, fr.rf, fun t' e2 e3 => ?_⟩
    · simp only [fLines_drop, if_pos hb, ix_9, Nat.reduceAdd, ltI_eq, e_hasBag m2, bd1_some, bI_f z, if_true]
    · rw [up1_id e1] at e2
      unfold RBc at h ⊢
      rw [e2, e3]; exact h
  have v := z.ix
  have hc : inb (s.1 111 (ix i)) 80 = true := z.inb m3
  have xc : cI ((ix (s.1 111 (ix i)) : Nat) : Int) = s.1 111 (ix i) := cI_ix z.1
  obtain ⟨l, h1, h2, h3, h4, h5⟩ := h.lst n3 v
  rw [rows_at (by omega)] at h1
  obtain ⟨s1, vv, r1, r2, r3, r4⟩ := e_wo_466 (k := ix i) h2 h5 i300 h1
  rw [ic] at r1
  have f1 : fr [(466, 545, 0)] s s1 := by
    refine ⟨fun c k hc2 => ⟨?_, by rw [r4]⟩, by rw [r4]⟩
    by_cases y : c = 466 + ix (s.1 111 (ix i))
    · have := inF_row (F := [(466, 545, 0)]) (c := c) (k := k) (lo := 466) (hi := 545) rfl (by omega) (by omega)
      rw [this] at hc2
      cases hc2
    · rw [r3 c y]
  have f2 : fr [(462, 462, 0), (466, 545, 0)] s (wI s1 462 (ix (s.1 111 (ix i))) vv) := (f1.mono (by decide +kernel)).wI rfl
  refine ⟨wI s1 462 (ix (s.1 111 (ix i))) vv, ?_, f2, fun t' e2 e3 => ?_⟩
  · simp only [fLines_drop, if_pos hb, ix_9, ix_3, Nat.reduceAdd, ltI_eq, e_hasBag m2, bd1_some, bI_t z, if_neg (show ¬ (1 : Int32) = 0 by decide), if_pos hc, r1, bd2_some, ltM_eq]
  · have x449 : (wI s1 462 (ix (s.1 111 (ix i))) vv).1 449 6 = s.1 449 6 := (f2.1 449 6 (by decide +kernel)).1
    have x100 : (wI s1 462 (ix (s.1 111 (ix i))) vv).1 100 5 = s.1 100 5 := (f2.1 100 5 (by decide +kernel)).1
    have x462 : (wI s1 462 (ix (s.1 111 (ix i))) vv).1 462 = up1 (s.1 462) (ix (s.1 111 (ix i))) vv := by rw [wI_c, r3 462 (by omega)]
    unfold RBc
    rw [x449, x100, x462, e2, e3]
    refine ⟨h.1.set ⟨by decide, by show (-1 : Int) ≤ _; omega⟩, fun r hr => ?_⟩
    by_cases y : r = ix (s.1 111 (ix i))
    · subst y
      rw [up1_eq, rows_at (by omega), wI_ne (by omega)]
      refine ⟨_, r2, Nat.le_trans wof_le h2, h3.filter _, fun j => ?_⟩
      rw [wof_mem, h4 j]
      by_cases x : j = ix i
      · rw [x, up1_eq]
        constructor
        · intro q; exact absurd rfl q.2
        · intro q; exact absurd q.2 (neg1_ne (by omega))
      · rw [up1_ne x]
        exact ⟨fun q => q.1, fun q => ⟨q, x⟩⟩
    · obtain ⟨l2, p1, p2, p3, p4⟩ := h.2 r hr
      rw [up1_ne y, rows_at (by omega), wI_ne (by omega), r3 (466 + r) (by omega)]
      rw [rows_at (by omega)] at p1
      refine ⟨l2, p1, p2, p3, fun j => ?_⟩
      rw [p4 j]
      by_cases x : j = ix i
      · rw [x, up1_eq]
        constructor
        · intro q
          have q2 := q.2
          rw [← he, ← xc] at q2
          have q3 := congrArg Int32.toInt q2
          rw [cI_toInt (by omega) (by omega), cI_toInt (by omega) (by omega)] at q3
          omega
        · intro q; exact absurd q.2 (neg1_ne (by omega))
      · rw [up1_ne x]
end
