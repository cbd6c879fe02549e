/-! ===== LEVEL 3: the items that are to be sorted: laid into the row as they came ===== -/
theorem gin_lp {a : Int32} {x : Nat} {L : List Nat} {kC : ev_M → Int32 → Int32 → Option ev_M} {kM : ev_M → Int32 → Int32 → Option ev_M} (hL : L.length < 300) (hx : x < 300) (hb : ∀ y, y ∈ L → y < 300) : ∀ (p n n' : Nat) (s t : ev_M) (j : Int32), j.toInt = (p : Int) → p ≤ L.length → p < n → p < n' → Shf (s.1 174) L p → Shf (t.1 668) L p → (∀ y, y ∈ L → ((s.1 119 y).toInt ≤ (s.1 119 x).toInt ↔ (t.1 592 y).toInt ≤ (t.1 592 x).toInt)) → ∃ p' s' t', p' ≤ L.length ∧ fRounds_gather_h125 kC n s a (cI (x : Int)) j = kC s' a (cI (x : Int) + cI 1) ∧ fM_findFed_h91 kM n' t a (cI (x : Int)) j = kM (wI t' 549 166 (t'.1 549 166 + cI 1)) a (cI (x : Int) + cI 1) ∧ (∀ q (h : q < (insP L p' x).length), s'.1 174 q = cI (((insP L p' x)[q] : Nat) : Int) ∧ t'.1 668 q = cI (((insP L p' x)[q] : Nat) : Int)) ∧ fr [(174, 174, 0)] s s' ∧ fr [(668, 668, 0)] t t'
  | 0, n, n', s, t, j, hj, hp, hn, hn', hs, ht, ho => by
    obtain ⟨n, rfl⟩ : ∃ k, n = k + 1 := ⟨n - 1, by omega⟩
    obtain ⟨n', rfl⟩ : ∃ k, n' = k + 1 := ⟨n' - 1, by omega⟩
    have j0 : j ≤ 0 := by rw [le_i, i32_0]; omega
    have i0 : inb j 300 = true := inb_iff.mpr ⟨by omega, by omega⟩
    have ej : ix j = 0 := by rw [ix_toNat]; omega
    refine ⟨0, wI s 174 0 (cI (x : Int)), wI t 668 0 (cI (x : Int)), Nat.zero_le _, ?_, ?_, fun q hq => ⟨?_, ?_⟩, fr.rf.wI rfl, fr.rf.wI rfl⟩
    · rw [fRounds_gather_h125, if_pos j0, fRounds_gather_b169, if_pos i0, ltM_eq, ej, fRounds_gather_b177]
    · rw [fM_findFed_h91, if_pos j0, fM_findFed_b137, if_pos i0, ltM_eq, ltM_eq, ej, fM_findFed_b154]
    · rw [wI_c]; exact hs.ins hp q hq
    · rw [wI_c]; exact ht.ins hp q hq
  | p + 1, n, n', s, t, j, hj, hp, hn, hn', hs, ht, ho => by
    obtain ⟨n, rfl⟩ : ∃ k, n = k + 1 := ⟨n - 1, by omega⟩
    obtain ⟨n', rfl⟩ : ∃ k, n' = k + 1 := ⟨n' - 1, by omega⟩
    have j0 : ¬ j ≤ 0 := by rw [le_i, i32_0]; omega
    have i0 : inb j 300 = true := inb_iff.mpr ⟨by omega, by omega⟩
    have ej : ix j = p + 1 := by rw [ix_toNat]; omega
    have j1 : (j - cI 1).toInt = (p : Int) := by rw [sub_toInt (by rw [show (cI 1).toInt = 1 from rfl]; omega) (by rw [show (cI 1).toInt = 1 from rfl]; omega), show (cI 1).toInt = 1 from rfl]; omega
    have jm : (j + cI (-1)).toInt = (p : Int) := by rw [add_toInt (by rw [show (cI (-1)).toInt = -1 from rfl]; omega) (by rw [show (cI (-1)).toInt = -1 from rfl]; omega), show (cI (-1)).toInt = -1 from rfl]; omega
    have e1 : ix (j - cI 1) = p := by rw [ix_toNat, j1]; omega
    have i1 : inb (j - cI 1) 300 = true := inb_iff.mpr ⟨by omega, by omega⟩
    have pl : p < L.length := by omega
    have hv := hs.at pl
    have hw := ht.at pl
    have pm : L[p] ∈ L := List.getElem_mem pl
    have hb1 := hb _ pm
    have by1 : inb (cI ((L[p] : Nat) : Int)) 300 = true := inb_iff.mpr ⟨by rw [cI_toInt (by omega) (by omega)]; omega, by rw [cI_toInt (by omega) (by omega)]; omega⟩
    have bx : inb (cI (x : Int)) 300 = true := inb_iff.mpr ⟨by rw [cI_toInt (by omega) (by omega)]; omega, by rw [cI_toInt (by omega) (by omega)]; omega⟩
    have iy : ix (cI ((L[p] : Nat) : Int)) = L[p] := ix_n _ (by omega)
    have ixx : ix (cI (x : Int)) = x := ix_n _ (by omega)
    have o := ho _ pm
    by_cases z : s.1 119 L[p] ≤ s.1 119 x
    · have z2 : t.1 592 L[p] ≤ t.1 592 x := le_i.mpr (o.mp (le_i.mp z))
      refine ⟨p + 1, wI s 174 (p + 1) (cI (x : Int)), wI t 668 (p + 1) (cI (x : Int)), hp, ?_, ?_, fun q hq => ⟨?_, ?_⟩, fr.rf.wI rfl, fr.rf.wI rfl⟩
      · rw [fRounds_gather_h125, if_neg j0, if_pos i1, e1, hv, fRounds_cameAfter, if_pos by1, if_pos bx, ix_17, iy, ixx, if_pos z, bd1_some, if_pos (show cI 0 = 0 from rfl), fRounds_gather_b169, if_pos i0, ltM_eq, ej, fRounds_gather_b177]
      · rw [fM_findFed_h91, if_neg j0, if_pos i1, e1, hw, if_pos by1, if_pos bx, iy, ixx, if_pos z2, fM_findFed_b137, if_pos i0, ltM_eq, ltM_eq, ej, fM_findFed_b154]
      · rw [wI_c]; exact hs.ins hp q hq
      · rw [wI_c]; exact ht.ins hp q hq
    · have z2 : ¬ t.1 592 L[p] ≤ t.1 592 x := fun q => z (le_i.mpr (o.mpr (le_i.mp q)))
      obtain ⟨p', s', t', q1, q2, q3, q4, q5, q6⟩ := gin_lp (a := a) (kC := kC) (kM := kM) hL hx hb p n n' (wI s 174 (p + 1) (cI ((L[p] : Nat) : Int))) (wI t 668 (p + 1) (cI ((L[p] : Nat) : Int))) (j + cI (-1)) jm (by omega) (by omega) (by omega) (by rw [wI_c, ← hv]; exact hs.step pl) (by rw [wI_c, ← hw]; exact ht.step pl) (fun y hy => by rw [wI_ne (by decide), wI_ne (by decide)]; exact ho y hy)
      refine ⟨p', s', t', q1, ?_, ?_, q4, (fr.rf.wI rfl).tr q5, (fr.rf.wI rfl).tr q6⟩
      · rw [fRounds_gather_h125, if_neg j0, if_pos i1, e1, hv, fRounds_cameAfter, if_pos by1, if_pos bx, ix_17, iy, ixx, if_neg z, bd1_some, if_neg (show ¬ cI 1 = 0 by decide), if_pos i1, if_pos i0, ltM_eq, ej]
        exact q2
      · rw [fM_findFed_h91, if_neg j0, if_pos i1, e1, hw, if_pos by1, if_pos bx, iy, ixx, if_neg z2, if_pos i1, if_pos i0, ltM_eq, ej]
        exact q3
section
variable {s t : ev_M}
/-- where among its round's stops a point is -/
theorem RSp.among {a v : Int32} (h : RSp s t) (h3 : (s.1 138 3).toInt ≤ 12) (hv : Has v (s.1 30 9)) (ha : Has a (s.1 138 3)) (he : s.1 158 (ix v) = a) : fRounds_placeAmong s a v = some (t.1 572 (ix v)) ∧ 0 ≤ (t.1 572 (ix v)).toInt ∧ (t.1 572 (ix v)).toInt < 20 := by
  obtain ⟨q0, q1, q2, q3, q4, q5⟩ := h
  have hb : inb a 12 = true := ha.inb h3
  have a12 : ix a < 12 := by have := ha.1; have := ha.2; rw [ix_toNat]; omega
  have k1 := q1 _ ha.ix
  rcases q4 _ hv.ix with w | ⟨w1, w2, w3⟩
  · rw [he] at w
    have := ha.1
    rw [w] at this
    exact absurd this (by decide)
  · rw [he, rows_at a12] at w3
    rw [he] at w2
    have w20 := w2.1
    have w21 := w2.2
    rw [cI_ix hv.1] at w3
    have lp : ∀ (r n : Nat) (j : Int32), 0 ≤ j.toInt → j.toInt + r = (t.1 572 (ix v)).toInt → r < n → fRounds_placeAmong_h2 s n a v j = some (t.1 572 (ix v)) := by
      intro r
      induction r with
      | zero =>
        intro n j h0 h1 hn
        obtain ⟨n, rfl⟩ : ∃ k, n = k + 1 := ⟨n - 1, by omega⟩
        have je : j = t.1 572 (ix v) := by rw [eq_i]; omega
        subst je
        have hj : t.1 572 (ix v) < s.1 143 (ix a) := by rw [lt_i]; omega
        have i20 : inb (t.1 572 (ix v)) 20 = true := inb_iff.mpr ⟨by omega, by omega⟩
        rw [fRounds_placeAmong_h2, if_pos hb, ix_3, if_pos hj, if_pos hb, if_pos i20, if_pos w3]
      | succ r ih =>
        intro n j h0 h1 hn
        obtain ⟨n, rfl⟩ : ∃ k, n = k + 1 := ⟨n - 1, by omega⟩
        have hj : j < s.1 143 (ix a) := by rw [lt_i]; omega
        have i20 : inb j 20 = true := inb_iff.mpr ⟨by omega, by omega⟩
        have et : (j + cI 1).toInt = j.toInt + 1 := inc_i (by omega)
        have ne : ¬ s.1 (146 + ix a) (ix j) = v := fun z => by
          obtain ⟨u1, u2, u3⟩ := q5 (ix a) (ix j) ha.ix (by rw [ix_toNat, ix_toNat]; omega)
          rw [rows_at a12, z, cI_ix h0] at u3
          rw [u3] at h1
          omega
        rw [fRounds_placeAmong_h2, if_pos hb, ix_3, if_pos hj, if_pos hb, if_pos i20, if_neg ne]
        exact ih n (j + cI 1) (by omega) (by omega) (by omega)
    refine ⟨lp (ix (t.1 572 (ix v))) 1048576 (cI 0) (by decide) (by rw [ix_toNat, show (cI 0).toInt = 0 from rfl]; omega) (by rw [ix_toNat]; omega), w20, by omega⟩
end
