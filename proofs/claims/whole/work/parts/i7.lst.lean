/-! ===== LEVEL 3: the reference lists a round's places ===== -/
theorem ls_lp {s : ev_M} {a : Int32} {B : Nat → Int32} : ∀ (r m k : Nat) (L : List Nat) (t : ev_M) (x2 x3 : Int32), k + r = ix (s.1 30 9) → x3.toInt = (k : Int) → x2.toInt = (L.length : Int) → r < m → RSt s t → RPo s t → t.1 571 = B → (∀ l : List Nat, l.Nodup → (∀ y, y ∈ l → y < ix (s.1 30 9) ∧ B y = a) → l.length ≤ 20) → (∀ q (h : q < L.length), t.1 664 q = cI ((L[q] : Nat) : Int) ∧ t.1 665 q = pX s L[q] ∧ t.1 666 q = pY s L[q]) → L.Pairwise (· < ·) → (∀ y, y ∈ L ↔ y < k ∧ B y = a) → ∃ (P : List Nat) (t' : ev_M) (y2 : Int32), fM_doArrange_h33 m t a x2 x3 = fM_doArrange_h33 1 t' a y2 (s.1 30 9) ∧ y2.toInt = (P.length : Int) ∧ (∀ q (h : q < P.length), t'.1 664 q = cI ((P[q] : Nat) : Int) ∧ t'.1 665 q = pX s P[q] ∧ t'.1 666 q = pY s P[q]) ∧ P.Pairwise (· < ·) ∧ (∀ y, y ∈ P ↔ y < ix (s.1 30 9) ∧ B y = a) ∧ fr [(664, 664, 0), (665, 665, 0), (666, 666, 0)] t t'
  | 0, m, k, L, t, x2, x3, hk, hx, hl, hm, hS, hP, hB, h20, h1, h2, h3 => by
    obtain ⟨m, rfl⟩ : ∃ k, m = k + 1 := ⟨m - 1, by omega⟩
    obtain ⟨⟨a1, a2, a3⟩, -⟩ := id hP
    have ec := ix_toNat (s.1 30 9)
    have ex : x3 = s.1 30 9 := eq_i.mpr (by omega)
    have hj : ¬ x3 < t.1 549 38 := by rw [a1, lt_i]; omega
    have e : k = ix (s.1 30 9) := by omega
    subst e
    refine ⟨L, t, x2, ?_, hl, h1, h2, h3, fr.rf⟩
    rw [← ex]
    rw [fM_doArrange_h33, if_neg hj, fM_doArrange_h33, if_neg hj]
  | r + 1, m, k, L, t, x2, x3, hk, hx, hl, hm, hS, hP, hB, h20, h1, h2, h3 => by
    obtain ⟨m, rfl⟩ : ∃ k, m = k + 1 := ⟨m - 1, by omega⟩
    obtain ⟨⟨a1, a2, a3⟩, -⟩ := id hP
    have ec := ix_toNat (s.1 30 9)
    have hj : x3 < t.1 549 38 := by rw [a1, lt_i]; omega
    have hb : inb x3 120 = true := inb_iff.mpr ⟨by omega, by omega⟩
    have ex : ix x3 = k := by rw [ix_toNat]; omega
    have et : (x3 + cI 1).toInt = ((k + 1 : Nat) : Int) := by rw [inc_i (by omega)]; omega
    have hp : Has x3 (s.1 30 9) := ⟨by omega, by omega⟩
    have ln : L.length ≤ 20 := h20 L (h2.imp (fun {x y} h => Nat.ne_of_lt h)) (fun y hy => ⟨by have := ((h3 y).mp hy).1; omega, ((h3 y).mp hy).2⟩)
    by_cases z : B k = a
    · have i2 : inb x2 21 = true := inb_iff.mpr ⟨by omega, by omega⟩
      have e2 : ix x2 = L.length := by rw [ix_toNat]; omega
      have cx : x3 = cI (k : Int) := eq_i.mpr (by rw [cI_toInt (by omega) (by omega)]; exact hx)
      have w1 : fr [(664, 664, 0), (665, 665, 0), (666, 666, 0)] t (wI t 664 L.length x3) := fr.rf.wI rfl
      have w2 := w1.wI (c := 665) (k := L.length) (x := pX s k) rfl
      have w3 := w2.wI (c := 666) (k := L.length) (x := pY s k) rfl
      have q1 := (e_xy (hS.keep rf_fr w1 rfl (by decide +kernel)) (hP.keep rf_fr w1 rfl (by decide +kernel)) hp).2.2.1
      have q2 := (e_xy (hS.keep rf_fr w2 rfl (by decide +kernel)) (hP.keep rf_fr w2 rfl (by decide +kernel)) hp).2.2.2
      rw [ex] at q1 q2
      obtain ⟨P, t', y2, b1, b2, b3, b4, b5, b6⟩ := ls_lp (s := s) (a := a) (B := B) r m (k + 1) (L ++ [k]) _ (x2 + cI 1) (x3 + cI 1) (by omega) et (by rw [inc_i (by omega), List.length_append, List.length_singleton]; omega) (by omega) (hS.keep rf_fr w3 rfl (by decide +kernel)) (hP.keep rf_fr w3 rfl (by decide +kernel)) (by rw [(nof_c w3 (L := [(571, 0)]) rfl (c := 571) rfl).1]; exact hB) h20 (fun q hq => by
        rw [List.length_append, List.length_singleton] at hq
        simp (disch := decide) only [ix_0, ix_1, ix_2, ix_3, ix_4, ix_5, ix_6, ix_7, ix_8, ix_9, ix_10, ix_11, ix_12, ix_13, ix_14, ix_15, ix_16, ix_17, ix_18, ix_19, ix_20, ix_21, Nat.reduceAdd, wI_c, wI_ne, wL_1, lupd_ne, up1_eq, up1_ne]
        by_cases v : q = L.length
        · subst v
          rw [up1_eq, up1_eq, up1_eq, List.getElem_append_right (Nat.le_refl _)]
          simp only [Nat.sub_self, List.getElem_singleton]
          exact ⟨cx, trivial, trivial⟩
        · rw [up1_ne v, up1_ne v, up1_ne v, List.getElem_append_left (by omega)]
          exact h1 q (by omega)) (List.pairwise_append.mpr ⟨h2, List.pairwise_singleton _ _, fun x hx y hy => by
        rw [List.mem_singleton] at hy
        rw [hy]; exact ((h3 x).mp hx).1⟩) (fun y => by
        rw [List.mem_append, List.mem_singleton, h3]
        constructor
        · rintro (⟨u, v⟩ | u)
          · exact ⟨by omega, v⟩
          · exact ⟨by omega, by rw [u]; exact z⟩
        · rintro ⟨u, v⟩
          by_cases w : y = k
          · exact Or.inr w
          · exact Or.inl ⟨by omega, v⟩)
      refine ⟨P, t', y2, ?_, b2, b3, b4, b5, w3.tr b6⟩
      rw [fM_doArrange_h33, if_pos hj, if_pos hb, ex, hB, if_pos z, if_pos i2, ltM_eq, e2, q1, bd1_some, if_pos i2, ltM_eq, q2, bd1_some, if_pos i2, ltM_eq, fM_doArrange_b83]
      exact b1
    · obtain ⟨P, t', y2, b1, b2, b3, b4, b5, b6⟩ := ls_lp (s := s) (a := a) (B := B) r m (k + 1) L t x2 (x3 + cI 1) (by omega) et hl (by omega) hS hP hB h20 h1 h2 (fun y => by
        rw [h3]
        constructor
        · rintro ⟨u, v⟩
          exact ⟨by omega, v⟩
        · rintro ⟨u, v⟩
          by_cases w : y = k
          · exact absurd (by rw [← w]; exact v) z
          · exact ⟨by omega, v⟩)
      refine ⟨P, t', y2, ?_, b2, b3, b4, b5, b6⟩
      rw [fM_doArrange_h33, if_pos hj, if_pos hb, ex, hB, if_neg z, fM_doArrange_b83]
      exact b1
