/-! ===== LEVEL 3: rows: how many, and which ===== -/
section
variable {t : ev_M}
theorem rsz_lp {a : Int32} : ∀ (r n : Nat) (x j : Int32), 0 ≤ j.toInt → j.toInt + r = (t.1 549 58).toInt → (t.1 549 58).toInt ≤ 300 → x.toInt = cntE (t.1 595) a (ix j) → r < n → ∃ y, fM_rowSize_h4 t n a x j = some y ∧ y.toInt = cntE (t.1 595) a (ix (t.1 549 58))
  | 0, n, x, j, h0, h1, h2, hx, hn => by
    obtain ⟨n, rfl⟩ : ∃ k, n = k + 1 := ⟨n - 1, by omega⟩
    have e : ix j = ix (t.1 549 58) := by rw [ix_toNat, ix_toNat]; omega
    refine ⟨x, ?_, by rw [hx, e]⟩
    unfold fM_rowSize_h4
    rw [if_neg (show ¬ j < t.1 549 58 by rw [lt_i]; omega)]
  | r + 1, n, x, j, h0, h1, h2, hx, hn => by
    obtain ⟨n, rfl⟩ : ∃ k, n = k + 1 := ⟨n - 1, by omega⟩
    have hi : inb j 300 = true := inb_iff.mpr ⟨h0, by omega⟩
    have ei : ix (j + cI 1) = ix j + 1 := ix_inc h0 (by omega)
    have et : (j + cI 1).toInt = j.toInt + 1 := inc_i (by omega)
    have hl := cntE_le (f := t.1 595) (x := a) (ix j)
    have hj : ix j ≤ 300 := by rw [ix_toNat]; omega
    unfold fM_rowSize_h4 fM_rowSize_b29
    rw [if_pos (show j < t.1 549 58 by rw [lt_i]; omega), if_pos hi]
    by_cases g : t.1 595 (ix j) = a
    · rw [if_pos g]
      refine rsz_lp r n _ _ (by omega) (by omega) h2 ?_ (by omega)
      rw [ei, inc_i (by omega), hx]
      simp only [cntE, if_pos g]
      omega
    · rw [if_neg g]
      refine rsz_lp r n _ _ (by omega) (by omega) h2 ?_ (by omega)
      rw [ei, hx]
      simp only [cntE, if_neg g]
      omega
/-- what comes before an item in its row -/
def bfr (t : ev_M) (a : Int32) (c : Nat) (q : Nat) : Int32 := if t.1 595 q = a ∧ t.1 596 q < t.1 596 c then 1 else 0
theorem rin_lp {a x c : Int32} {k2 : Int32 → Int32 → Int32 → Option Int32} (hc : inb c 300 = true) (h2 : (t.1 549 58).toInt ≤ 300) : ∀ (r n : Nat) (y j : Int32), 0 ≤ j.toInt → j.toInt + r = (t.1 549 58).toInt → y.toInt = cntE (bfr t a (ix c)) 1 (ix j) → r < n → fM_rowAt_h26 t k2 n a x c y j = if cI (cntE (bfr t a (ix c)) 1 (ix (t.1 549 58)) : Int) = x then some c else k2 a x (c + cI 1)
  | 0, n, y, j, h0, h1, hy, hn => by
    obtain ⟨n, rfl⟩ : ∃ k, n = k + 1 := ⟨n - 1, by omega⟩
    have e : ix j = ix (t.1 549 58) := by rw [ix_toNat, ix_toNat]; omega
    have hl := cntE_le (f := bfr t a (ix c)) (x := 1) (ix j)
    have hj3 : ix j ≤ 300 := by rw [ix_toNat]; omega
    have hj : ¬ j < t.1 549 58 := by rw [lt_i]; omega
    have hl2 := cntE_le (f := bfr t a (ix c)) (x := 1) (ix (t.1 549 58))
    have ey : cI (cntE (bfr t a (ix c)) 1 (ix (t.1 549 58)) : Int) = y := by rw [eq_i, cI_toInt (by omega) (by omega), hy, e]
    rw [ey]
    simp only [fM_rowAt_h26, if_neg hj, fM_rowAt_b87]
  | r + 1, n, y, j, h0, h1, hy, hn => by
    obtain ⟨n, rfl⟩ : ∃ k, n = k + 1 := ⟨n - 1, by omega⟩
    have hj : j < t.1 549 58 := by rw [lt_i]; omega
    have hi : inb j 300 = true := inb_iff.mpr ⟨h0, by omega⟩
    have ei : ix (j + cI 1) = ix j + 1 := ix_inc h0 (by omega)
    have et : (j + cI 1).toInt = j.toInt + 1 := inc_i (by omega)
    have hl := cntE_le (f := bfr t a (ix c)) (x := 1) (ix j)
    have hj3 : ix j ≤ 300 := by rw [ix_toNat]; omega
    have ih := fun y => rin_lp (a := a) (x := x) (k2 := k2) hc h2 r n y (j + cI 1) (by omega) (by omega)
    rw [ei] at ih
    simp only [cntE] at ih
    by_cases g1 : t.1 595 (ix j) = a
    · by_cases g2 : t.1 596 (ix j) < t.1 596 (ix c)
      · simp only [fM_rowAt_h26, if_pos hj, if_pos hi, if_pos g1, if_pos hc, if_pos g2, fM_rowAt_b71]
        refine ih _ ?_ (by omega)
        rw [inc_i (by omega), hy, if_pos (show bfr t a (ix c) (ix j) = 1 from if_pos ⟨g1, g2⟩)]
        omega
      · simp only [fM_rowAt_h26, if_pos hj, if_pos hi, if_pos g1, if_pos hc, if_neg g2, fM_rowAt_b69, fM_rowAt_b71]
        refine ih _ ?_ (by omega)
        rw [hy, if_neg (show ¬ bfr t a (ix c) (ix j) = 1 from by unfold bfr; rw [if_neg (fun z => g2 z.2)]; decide)]
        omega
    · simp only [fM_rowAt_h26, if_pos hj, if_pos hi, if_neg g1, fM_rowAt_b69, fM_rowAt_b71]
      refine ih _ ?_ (by omega)
      rw [hy, if_neg (show ¬ bfr t a (ix c) (ix j) = 1 from by unfold bfr; rw [if_neg (fun z => g1 z.1)]; decide)]
      omega
/-- in a sorted row so many come before the k-th -/
theorem bfr_at {a : Int32} {l : List Nat} (hp : l.Pairwise (fun a b => (t.1 596 a).toInt < (t.1 596 b).toInt)) (hm : ∀ i, i ∈ l ↔ i < ix (t.1 549 58) ∧ t.1 595 i = a) {k : Nat} (hk : k < l.length) : cntE (bfr t a l[k]) 1 (ix (t.1 549 58)) = k := by
  have pg := List.pairwise_iff_getElem.mp hp
  have := cnt_list (f := bfr t a l[k]) (x := 1) (ix (t.1 549 58)) (l.take k) (List.Nodup.sublist (List.take_sublist _ _) (lt_nodup hp)) (fun i => by
    constructor
    · intro h
      obtain ⟨j, hj, e⟩ := List.mem_iff_getElem.mp h
      have hj2 : j < k := by
        have := List.length_take_le k l
        omega
      have e2 : i = l[j] := by rw [← e, List.getElem_take]
      have mi := (hm i).mp (by rw [e2]; exact List.getElem_mem _)
      refine ⟨mi.1, if_pos ⟨mi.2, ?_⟩⟩
      rw [lt_i, e2]
      exact pg j k (by omega) hk hj2
    · rintro ⟨h1, h2⟩
      unfold bfr at h2
      by_cases z : t.1 595 i = a ∧ t.1 596 i < t.1 596 l[k]
      · obtain ⟨j, hj, e⟩ := List.mem_iff_getElem.mp ((hm i).mpr ⟨h1, z.1⟩)
        have z2 := lt_i.mp z.2
        have hjk : j < k := by
          apply Classical.byContradiction
          intro w
          by_cases w2 : j = k
          · subst w2; rw [e] at z2; omega
          · have := pg k j hk hj (by omega)
            rw [e] at this
            omega
        exact List.mem_iff_getElem.mpr ⟨j, by rw [List.length_take]; omega, by rw [List.getElem_take]; exact e⟩
      · rw [if_neg z] at h2
        exact absurd h2 (by decide))
  rw [← this, List.length_take]
  omega
/-- what is at a place of a sorted row -/
def ratI (l : List Nat) (x : Int32) : Int32 := if h : 0 ≤ x.toInt ∧ ix x < l.length then cI ((l[ix x]'h.2 : Nat) : Int) else cI (-1)
theorem rat_lp {a x : Int32} {l : List Nat} (h2 : (t.1 549 58).toInt ≤ 300) (h0' : 0 ≤ (t.1 549 58).toInt) (hp : l.Pairwise (fun a b => (t.1 596 a).toInt < (t.1 596 b).toInt)) (hm : ∀ i, i ∈ l ↔ i < ix (t.1 549 58) ∧ t.1 595 i = a) : ∀ (r n : Nat) (j : Int32), 0 ≤ j.toInt → j.toInt + r = (t.1 549 58).toInt → r < n → (∀ k (h : k < l.length), l[k] < ix j → ¬ cI (k : Int) = x) → fM_rowAt_h2 t n a x j = some (ratI l x)
  | 0, n, j, h0, h1, hn, hb => by
    obtain ⟨n, rfl⟩ : ∃ k, n = k + 1 := ⟨n - 1, by omega⟩
    have hj : ¬ j < t.1 549 58 := by rw [lt_i]; omega
    have ej : ix j = ix (t.1 549 58) := by rw [ix_toNat, ix_toNat]; omega
    have e : ratI l x = cI (-1) := by
      unfold ratI
      by_cases z : 0 ≤ x.toInt ∧ ix x < l.length
      · have := hb (ix x) z.2 (by rw [ej]; exact ((hm _).mp (List.getElem_mem z.2)).1)
        exact absurd (cI_ix z.1) this
      · rw [dif_neg z]
    rw [e]
    simp only [fM_rowAt_h2, if_neg hj]
  | r + 1, n, j, h0, h1, hn, hb => by
    obtain ⟨n, rfl⟩ : ∃ k, n = k + 1 := ⟨n - 1, by omega⟩
    have hj : j < t.1 549 58 := by rw [lt_i]; omega
    have hi : inb j 300 = true := inb_iff.mpr ⟨h0, by omega⟩
    have ei : ix (j + cI 1) = ix j + 1 := ix_inc h0 (by omega)
    have et : (j + cI 1).toInt = j.toInt + 1 := inc_i (by omega)
    have jc : cI ((ix j : Nat) : Int) = j := cI_ix h0
    have jn : ix j < ix (t.1 549 58) := by rw [ix_toNat, ix_toNat]; omega
    by_cases g : t.1 595 (ix j) = a
    · obtain ⟨k, hk, ek⟩ := List.mem_iff_getElem.mp ((hm (ix j)).mpr ⟨jn, g⟩)
      have c := bfr_at hp hm hk
      rw [ek] at c
      have q := rin_lp (a := a) (x := x) (k2 := fM_rowAt_h2 t n) hi h2 (ix (t.1 549 58)) 1048576 (cI 0) (cI 0) (by decide) (by rw [ix_toNat, show (cI 0).toInt = 0 from rfl]; omega) rfl (by rw [ix_toNat]; omega)
      rw [c] at q
      have kl : k < 2147483648 := by
        have e1 := bfr_at hp hm hk
        have e2 := cntE_le (f := bfr t a l[k]) (x := 1) (ix (t.1 549 58))
        have e3 := ix_toNat (t.1 549 58)
        omega
      have st : fM_rowAt_h2 t (n + 1) a x j = if cI (k : Int) = x then some j else fM_rowAt_h2 t n a x (j + cI 1) := by
        rw [fM_rowAt_h2, if_pos hj, if_pos hi, if_pos g]
        exact q
      rw [st]
      by_cases z : cI (k : Int) = x
      · rw [if_pos z]
        have xk : ix x = k := by rw [← z, ix_n k kl]
        have x0 : 0 ≤ x.toInt := by rw [← z, cI_toInt (by omega) (by omega)]; omega
        unfold ratI
        rw [dif_pos ⟨x0, by omega⟩]
        simp only [xk, ek, jc]
      · rw [if_neg z]
        refine rat_lp h2 h0' hp hm r n (j + cI 1) (by omega) (by omega) (by omega) (fun k' h' hl => ?_)
        rw [ei] at hl
        by_cases w : l[k'] = ix j
        · have : k' = k := by
            have nd := lt_nodup hp
            have pg := List.pairwise_iff_getElem.mp hp
            apply Classical.byContradiction
            intro u
            rcases Nat.lt_or_gt_of_ne u with u | u
            · have := pg k' k h' hk u; rw [w, ek] at this; omega
            · have := pg k k' hk h' u; rw [w, ek] at this; omega
          rw [this]; exact z
        · exact hb k' h' (by omega)
    · simp only [fM_rowAt_h2, if_pos hj, if_pos hi, if_neg g, fM_rowAt_b87]
      refine rat_lp h2 h0' hp hm r n (j + cI 1) (by omega) (by omega) (by omega) (fun k' h' hl => ?_)
      rw [ei] at hl
      by_cases w : l[k'] = ix j
      · have := ((hm l[k']).mp (List.getElem_mem h')).2
        rw [w] at this
        exact absurd this g
      · exact hb k' h' (by omega)
end
section
variable {s t : ev_M}
/-- a row's size, class and reference -/
theorem RRw.size {r : Int32} (h : RRw s t) (n1 : t.1 549 58 = s.1 100 5) (n2 : 0 ≤ (s.1 100 5).toInt) (n3 : (s.1 100 5).toInt ≤ 300) (hr : Has r (s.1 138 3)) : fM_rowSize t r = some (s.1 144 (ix r)) ∧ 0 ≤ (s.1 144 (ix r)).toInt ∧ (s.1 144 (ix r)).toInt ≤ 300 := by
  obtain ⟨l, h1, h3, h4⟩ := h.2 (ix r) hr.ix
  obtain ⟨y, ey, hy⟩ := rsz_lp (t := t) (a := r) (ix (s.1 100 5)) 1048576 (cI 0) (cI 0) (by decide) (by rw [n1, ix_toNat, show (cI 0).toInt = 0 from rfl]; omega) (by rw [n1]; exact n3) rfl (by rw [ix_toNat]; omega)
  rw [cI_ix hr.1] at h4
  have k := cnt_list (f := t.1 595) (x := r) (ix (s.1 100 5)) l (lt_nodup h3) h4
  have kl := cntE_le (f := t.1 595) (x := r) (ix (s.1 100 5))
  have k3 := ix_toNat (s.1 100 5)
  have e : y = s.1 144 (ix r) := by
    rw [eq_i, hy, h1.1, n1, k]
  refine ⟨?_, by rw [h1.1]; omega, by rw [h1.1]; omega⟩
  show fM_rowSize_h4 t 1048576 r (cI 0) (cI 0) = _
  rw [ey, e]
end
