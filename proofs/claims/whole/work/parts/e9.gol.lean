/-! ===== LEVEL 3: where mail for a point goes today ===== -/
theorem cntE_un {f : Nat → Int32} {k : Nat} {x y : Int32} (h : f k = x) (hy : ¬ y = x) : ∀ n, k < n → cntE (up1 f k y) x n + 1 = cntE f x n
  | 0, hk => by omega
  | n + 1, hk => by
    simp only [cntE]
    by_cases e : n = k
    · subst e
      rw [up1_eq, if_neg hy, if_pos h, cntE_congr (f := f) n (fun j hj => up1_ne (by omega))]
    · rw [up1_ne e]
      have := cntE_un h hy n (by omega)
      omega
/-- the last of the first n orders that speaks of a point and a person on a day -/
def lastO (f g u : Nat → Int32) (p w d : Int32) : Nat → Int32
  | 0 => cI (-1)
  | n + 1 => if f n = p ∧ (g n = w ∨ g n = 0) ∧ d < u n then cI (n : Int) else lastO f g u p w d n
theorem lastO_b {f g u : Nat → Int32} {p w d : Int32} : ∀ n, lastO f g u p w d n = cI (-1) ∨ ∃ k, k < n ∧ lastO f g u p w d n = cI (k : Int)
  | 0 => Or.inl rfl
  | n + 1 => by
    simp only [lastO]
    split
    · exact Or.inr ⟨n, by omega, rfl⟩
    · rcases lastO_b (f := f) (g := g) (u := u) (p := p) (w := w) (d := d) n with h | ⟨k, h1, h2⟩
      · exact Or.inl h
      · exact Or.inr ⟨k, by omega, h2⟩
theorem lastO_congr {f g u f' g' u' : Nat → Int32} {p w d : Int32} : ∀ n, (∀ k, k < n → f' k = f k ∧ g' k = g k ∧ u' k = u k) → lastO f' g' u' p w d n = lastO f g u p w d n
  | 0, _ => rfl
  | n + 1, h => by
    obtain ⟨h1, h2, h3⟩ := h n (by omega)
    simp only [lastO, h1, h2, h3, lastO_congr n (fun k hk => h k (by omega))]
theorem ord_c {s : ev_M} {p w d : Int32} : ∀ (r n : Nat) (j : Int32), j.toInt = (r : Int) - 1 → r ≤ 60 → r < n → fBook_orderFor_h16 s n p w d j = some (lastO (s.1 47) (s.1 48) (s.1 50) p w d r)
  | 0, n, j, h0, h1, hn => by
    obtain ⟨n, rfl⟩ : ∃ k, n = k + 1 := ⟨n - 1, by omega⟩
    have hj : j < 0 := by rw [lt_i, i32_0]; omega
    simp only [fBook_orderFor_h16, if_pos hj, lastO]
  | r + 1, n, j, h0, h1, hn => by
    obtain ⟨n, rfl⟩ : ∃ k, n = k + 1 := ⟨n - 1, by omega⟩
    have hj : ¬ j < 0 := by rw [lt_i, i32_0]; omega
    have ej : ix j = r := by rw [ix_toNat]; omega
    have hi : inb j 60 = true := inb_iff.mpr ⟨by omega, by omega⟩
    have jc : j = cI (r : Int) := by rw [eq_i, cI_toInt (by omega) (by omega)]; omega
    have et : (j + cI (-1)).toInt = (r : Int) - 1 := by
      rw [add_toInt (by rw [show (cI (-1)).toInt = -1 from rfl]; omega) (by rw [show (cI (-1)).toInt = -1 from rfl]; omega), show (cI (-1)).toInt = -1 from rfl]
      omega
    have ih := ord_c (s := s) (p := p) (w := w) (d := d) r n (j + cI (-1)) et (by omega) (by omega)
    have z0 : cI 0 = 0 := rfl
    have z1 : ¬ cI 1 = 0 := by decide
    rcases Classical.propComplete (s.1 47 r = p) with a1 | a1 <;> rcases Classical.propComplete (s.1 48 r = w) with a2 | a2 <;> rcases Classical.propComplete (s.1 48 r = 0) with a3 | a3 <;> rcases Classical.propComplete (d < s.1 50 r) with a4 | a4 <;> simp only [fBook_orderFor_h16, fBook_orderFor_b46, fBook_orderFor_b51, fBook_orderFor_b87, if_neg hj, hi, ej, ix_0, ix_1, ix_2, ix_3, Nat.add_zero, Nat.reduceAdd, a1, a2, a3, a4, eq_false z1, eq_true z0, if_true, if_false, lastO, true_and, and_true, false_and, and_false, or_true, true_or, or_false, false_or] <;> first | exact ih | rw [jc]
/-- the reference's end of a look through the orders -/
def finM (k25 : ev_M → Int32 → Int32 → Option (ev_M × Int32)) (t : ev_M) (w p y : Int32) : Option (ev_M × Int32) :=
  if y = cI (-1) then some (t, p) else if inb y 60 = true then (if t.1 575 (ix y) = cI (-1) then some (t, cI (-110)) else if inb (t.1 575 (ix y)) 120 = true then (if t.1 648 (ix (t.1 575 (ix y))) = 0 then k25 t w (t.1 575 (ix y)) else some (t, cI (-111))) else none) else none
theorem ord_m {t : ev_M} {p w : Int32} {k25 : ev_M → Int32 → Int32 → Option (ev_M × Int32)} (h60 : (t.1 549 43).toInt ≤ 60) : ∀ (r n : Nat) (x j : Int32), 0 ≤ j.toInt → j.toInt + r = (t.1 549 43).toInt → r < n → x = lastO (t.1 573) (t.1 574) (t.1 576) p w (t.1 549 22 / cI 1440) (ix j) → fM_effectiveOf_h43 k25 n t w p x j = finM k25 t w p (lastO (t.1 573) (t.1 574) (t.1 576) p w (t.1 549 22 / cI 1440) (ix (t.1 549 43)))
  | 0, n, x, j, h0, h1, hn, hx => by
    obtain ⟨n, rfl⟩ : ∃ k, n = k + 1 := ⟨n - 1, by omega⟩
    have hj : ¬ j < t.1 549 43 := by rw [lt_i]; omega
    have ej : ix j = ix (t.1 549 43) := by rw [ix_toNat, ix_toNat]; omega
    rw [← ej, ← hx]
    simp only [fM_effectiveOf_h43, if_neg hj, finM]
    by_cases a1 : x = cI (-1)
    · simp only [if_pos a1]
    · by_cases a2 : inb x 60 = true
      · simp only [if_neg a1, if_pos a2, ltI_eq]
      · simp only [if_neg a1, if_neg a2]
  | r + 1, n, x, j, h0, h1, hn, hx => by
    obtain ⟨n, rfl⟩ : ∃ k, n = k + 1 := ⟨n - 1, by omega⟩
    have hj : j < t.1 549 43 := by rw [lt_i]; omega
    have hi : inb j 60 = true := inb_iff.mpr ⟨by omega, by omega⟩
    have ei : ix (j + cI 1) = ix j + 1 := ix_inc h0 (by omega)
    have et : (j + cI 1).toInt = j.toInt + 1 := inc_i (by omega)
    have jc : cI ((ix j : Nat) : Int) = j := cI_ix h0
    have ih := fun x => ord_m (t := t) (p := p) (w := w) (k25 := k25) h60 r n x (j + cI 1) (by omega) (by omega) (by omega)
    rw [ei] at ih
    simp only [lastO, jc] at ih
    have z0 : cI 0 = 0 := rfl
    have z1 : ¬ cI 1 = 0 := by decide
    have z4 : ¬ cI 1440 = 0 := by decide
    have le : t.1 576 (ix j) ≤ t.1 549 22 / cI 1440 ↔ ¬ t.1 549 22 / cI 1440 < t.1 576 (ix j) := by rw [le_i, lt_i]; omega
    rcases Classical.propComplete (t.1 573 (ix j) = p) with a1 | a1 <;> rcases Classical.propComplete (t.1 574 (ix j) = w) with a2 | a2 <;> rcases Classical.propComplete (t.1 574 (ix j) = 0) with a3 | a3 <;> rcases Classical.propComplete (t.1 549 22 / cI 1440 < t.1 576 (ix j)) with a4 | a4 <;> simp only [a1, a2, a3, a4, true_and, and_true, false_and, and_false, or_true, true_or, or_false, false_or, if_true, if_false] at ih <;> simp only [fM_effectiveOf_h43, fM_effectiveOf_b84, fM_effectiveOf_b102, fM_effectiveOf_b103, fM_effectiveOf_b117, fM_today, if_pos hj, hi, a1, a2, a3, le, a4, eq_false z1, eq_false z4, eq_true z0, if_true, if_false, bd1_some, not_true_eq_false, not_false_eq_true] <;> first | exact ih _ rfl | exact ih _ hx
def FgC : List (Nat × (Nat × Nat)) := [(30, 30, 15), (30, 30, 16), (51, 51, 0)]
def FgM : List (Nat × (Nat × Nat)) := [(549, 549, 142), (648, 648, 0)]
theorem cntE_pos {f : Nat → Int32} {k : Nat} {x : Int32} (h : f k = x) : ∀ n, k < n → 0 < cntE f x n
  | 0, hk => by omega
  | n + 1, hk => by
    simp only [cntE]
    by_cases e : n = k
    · rw [e, if_pos h]; omega
    · have := cntE_pos h n (by omega)
      omega
theorem goal_lp {w : Int32} : ∀ (c n n' : Nat) (s t : ev_M) (p k : Int32), c < n → c < n' → cntE (t.1 648) 0 (ix (s.1 30 9)) = c → 0 ≤ k.toInt → k.toInt + c = (s.1 30 9).toInt → s.1 30 15 = p → Has p (s.1 30 9) → t.1 648 (ix p) = 0 → Bd 120 (s.1 51) 0 (s.1 30 14).toInt → 0 ≤ (s.1 30 14).toInt → (∀ q, q < ix (s.1 30 9) → (s.1 51 q = s.1 30 14 ↔ ¬ t.1 648 q = 0)) → ROr s t → RTim s t → RPo s t → ∃ s' t' v, fBook_goalFor_h17 n s w k = some (s', v) ∧ fM_effectiveOf_h25 n' t w p = some (t', v) ∧ s'.1 30 15 = t'.1 549 141 ∧ Has (s'.1 30 15) (s.1 30 9) ∧ (v = s'.1 30 15 ∨ v = cI (-110) ∨ v = cI (-111)) ∧ Bd 120 (s'.1 51) 0 (s.1 30 14).toInt ∧ s'.1 30 14 = s.1 30 14 ∧ fr FgC s s' ∧ fr FgM t t'
  | 0, n, n', s, t, p, k, _, _, hc, _, _, _, hp, hu, _, _, _, _, _, _ => by
    have := cntE_pos hu _ hp.ix
    omega
  | c + 1, n, n', s, t, p, k, hn, hn', hc, k0, kc, hl, hp, hu, hB, ha, hq, ho, ht, hP => by
    obtain ⟨n, rfl⟩ : ∃ m, n = m + 1 := ⟨n - 1, by omega⟩
    obtain ⟨n', rfl⟩ : ∃ m, n' = m + 1 := ⟨n' - 1, by omega⟩
    obtain ⟨⟨p1, p2, p3⟩, -⟩ := id hP
    obtain ⟨⟨o1, o2, o3⟩, g1, g2, g3, g4, b1, b2, b3⟩ := id ho
    obtain ⟨⟨c1, c2⟩, -⟩ := id ht
    have hb : inb p 120 = true := hp.inb p3
    have hi := hp.ix
    have hk : k < cI 120 := by rw [lt_i, show (cI 120).toInt = 120 from rfl]; omega
    have eo : ix (s.1 30 11) = (s.1 30 11).toInt.toNat := ix_toNat _
    have i120 : ix (s.1 30 9) ≤ 120 := by rw [ix_toNat]; omega
    have z4 : ¬ cI 1440 = 0 := by decide
    have e11 : (s.1 30 11 - cI 1).toInt = (ix (s.1 30 11) : Int) - 1 := by
      rw [sub_toInt (by rw [show (cI 1).toInt = 1 from rfl]; omega) (by rw [show (cI 1).toInt = 1 from rfl]; omega), show (cI 1).toInt = 1 from rfl]
      omega
    -- the class
    have f1 : fr FgC s (wI s 51 (ix p) (s.1 30 14)) := fr.rf.wI rfl
    have q1 := ord_c (s := wI s 51 (ix p) (s.1 30 14)) (p := p) (w := w) (d := s.1 15 1 / cI 1440) (ix (s.1 30 11)) 1048576 (s.1 30 11 - cI 1) e11 (by omega) (by omega)
    simp (disch := decide) only [ix_0, ix_1, ix_2, ix_3, ix_4, ix_5, ix_6, ix_7, ix_8, ix_9, ix_10, ix_11, ix_12, ix_13, ix_14, ix_15, ix_16, ix_17, ix_18, ix_19, ix_20, ix_21, Nat.reduceAdd, wI_c, wI_ne, wL_1, lupd_ne, up1_eq, up1_ne] at q1
    have kC : fBook_goalFor_h17 (n + 1) s w k = (let v2 := lastO (s.1 47) (s.1 48) (s.1 50) p w (s.1 15 1 / cI 1440) (ix (s.1 30 11)); let s1 := wI s 51 (ix p) (s.1 30 14); if v2 = cI (-1) then some (s1, p) else if inb v2 60 = true then (if s.1 49 (ix v2) = cI (-1) then some (s1, cI (-110)) else if inb (s.1 49 (ix v2)) 120 = true then (if s1.1 51 (ix (s.1 49 (ix v2))) = s.1 30 14 then some (s1, cI (-111)) else fBook_goalFor_h17 n (wI s1 30 15 (s.1 49 (ix v2))) w (k + cI 1)) else none) else none) := by
      simp (disch := decide) only [fBook_goalFor_h17, if_pos hk, hl, hb, if_true, ltM_eq, fBook_orderFor, fChron_today, if_neg z4, bd1_some, ltI_eq, ix_0, ix_1, ix_2, ix_3, ix_4, ix_5, ix_6, ix_7, ix_8, ix_9, ix_10, ix_11, ix_12, ix_13, ix_14, ix_15, ix_16, ix_17, ix_18, ix_19, ix_20, ix_21, Nat.reduceAdd, wI_c, wI_ne, wL_1, lupd_ne, up1_eq, up1_ne, q1]
    -- the reference
    have f2 : fr FgM t (wI (wI t 648 (ix p) (cI 1)) 549 141 p) := (fr.rf.wI rfl).wI rfl
    have q2 := ord_m (t := wI (wI t 648 (ix p) (cI 1)) 549 141 p) (p := p) (w := w) (k25 := fM_effectiveOf_h25 n') (by simp (disch := decide) only [ix_0, ix_1, ix_2, ix_3, ix_4, ix_5, ix_6, ix_7, ix_8, ix_9, ix_10, ix_11, ix_12, ix_13, ix_14, ix_15, ix_16, ix_17, ix_18, ix_19, ix_20, ix_21, Nat.reduceAdd, wI_c, wI_ne, wL_1, lupd_ne, up1_eq, up1_ne]; rw [o1]; exact o3) (ix (s.1 30 11)) 1048576 (cI (-1)) (cI 0) (by decide) (by simp (disch := decide) only [ix_0, ix_1, ix_2, ix_3, ix_4, ix_5, ix_6, ix_7, ix_8, ix_9, ix_10, ix_11, ix_12, ix_13, ix_14, ix_15, ix_16, ix_17, ix_18, ix_19, ix_20, ix_21, Nat.reduceAdd, wI_c, wI_ne, wL_1, lupd_ne, up1_eq, up1_ne]; rw [o1, show (cI 0).toInt = 0 from rfl]; omega) (by omega) rfl
    simp (disch := decide) only [ix_0, ix_1, ix_2, ix_3, ix_4, ix_5, ix_6, ix_7, ix_8, ix_9, ix_10, ix_11, ix_12, ix_13, ix_14, ix_15, ix_16, ix_17, ix_18, ix_19, ix_20, ix_21, Nat.reduceAdd, wI_c, wI_ne, wL_1, lupd_ne, up1_eq, up1_ne, o1, c1] at q2
    rw [lastO_congr (f := s.1 47) (g := s.1 48) (u := s.1 50) (ix (s.1 30 11)) (fun j hj => ⟨g1 j hj, g2 j hj, g4 j hj⟩)] at q2
    have kM : fM_effectiveOf_h25 (n' + 1) t w p = finM (fM_effectiveOf_h25 n') (wI (wI t 648 (ix p) (cI 1)) 549 141 p) w p (lastO (s.1 47) (s.1 48) (s.1 50) p w (s.1 15 1 / cI 1440) (ix (s.1 30 11))) := by
      simp only [fM_effectiveOf_h25, hb, if_true, ltM_eq, show cI 1 &&& 1 = cI 1 by decide]
      exact q2
    rw [kC, kM]
    have bA : Bd 120 (up1 (s.1 51) (ix p) (s.1 30 14)) 0 (s.1 30 14).toInt := hB.set ⟨ha, Int.le_refl _⟩
    have w51 : (wI s 51 (ix p) (s.1 30 14)).1 51 = up1 (s.1 51) (ix p) (s.1 30 14) := wI_c
    have w30 : (wI s 51 (ix p) (s.1 30 14)).1 30 = s.1 30 := wI_ne (by decide)
    have x648 : (wI (wI t 648 (ix p) (cI 1)) 549 141 p).1 648 = up1 (t.1 648) (ix p) (cI 1) := by rw [wI_ne (by decide), wI_c]
    have x141 : (wI (wI t 648 (ix p) (cI 1)) 549 141 p).1 549 141 = p := by rw [wI_c, up1_eq]
    have x575 : (wI (wI t 648 (ix p) (cI 1)) 549 141 p).1 575 = t.1 575 := by rw [wI_ne (by decide), wI_ne (by decide)]
    have end0 : ∀ v, (v = p ∨ v = cI (-110) ∨ v = cI (-111)) → ∃ s' t' v', some (wI s 51 (ix p) (s.1 30 14), v) = some (s', v') ∧ some (wI (wI t 648 (ix p) (cI 1)) 549 141 p, v) = some (t', v') ∧ s'.1 30 15 = t'.1 549 141 ∧ Has (s'.1 30 15) (s.1 30 9) ∧ (v' = s'.1 30 15 ∨ v' = cI (-110) ∨ v' = cI (-111)) ∧ Bd 120 (s'.1 51) 0 (s.1 30 14).toInt ∧ s'.1 30 14 = s.1 30 14 ∧ fr FgC s s' ∧ fr FgM t t' := fun v hv => by
      refine ⟨_, _, v, rfl, rfl, ?_, ?_, ?_, ?_, ?_, f1, f2⟩
      · rw [w30, x141]; exact hl
      · rw [w30, hl]; exact hp
      · rw [w30, hl]; exact hv
      · rw [w51]; exact bA
      · rw [w30]
    unfold finM
    generalize hv2 : lastO (s.1 47) (s.1 48) (s.1 50) p w (s.1 15 1 / cI 1440) (ix (s.1 30 11)) = v2
    by_cases y1 : v2 = cI (-1)
    · simp only [if_pos y1]
      exact end0 p (Or.inl rfl)
    · rcases lastO_b (f := s.1 47) (g := s.1 48) (u := s.1 50) (p := p) (w := w) (d := s.1 15 1 / cI 1440) (ix (s.1 30 11)) with h | ⟨j, hj, h⟩
      · exact absurd (hv2.symm.trans h) y1
      · have ev : v2 = cI (j : Int) := hv2.symm.trans h
        have ej : ix v2 = j := by rw [ev, ix_n j (by omega)]
        have by2 : inb v2 60 = true := inb_iff.mpr ⟨by rw [ev, cI_toInt (by omega) (by omega)]; omega, by rw [ev, cI_toInt (by omega) (by omega)]; omega⟩
        have e575 : t.1 575 j = s.1 49 j := g3 j hj
        have bt := b2 j hj
        simp only [if_neg y1, if_pos by2, ej, x575, e575]
        by_cases y2 : s.1 49 j = cI (-1)
        · simp only [if_pos y2]
          exact end0 _ (Or.inr (Or.inl rfl))
        · have n1 : ¬ (s.1 49 j).toInt = -1 := fun z => y2 (by rw [eq_i]; exact z)
          have hto : Has (s.1 49 j) (s.1 30 9) := ⟨by omega, by omega⟩
          have bto : inb (s.1 49 j) 120 = true := hto.inb p3
          have hit := hto.ix
          have m1 : ∀ q, q < ix (s.1 30 9) → (up1 (s.1 51) (ix p) (s.1 30 14) q = s.1 30 14 ↔ ¬ up1 (t.1 648) (ix p) (cI 1) q = 0) := fun q hq2 => by
            by_cases z : q = ix p
            · rw [z, up1_eq, up1_eq]
              exact ⟨fun _ => by decide, fun _ => rfl⟩
            · rw [up1_ne z, up1_ne z]; exact hq q hq2
          have m2 := m1 _ hit
          simp only [if_neg y2, if_pos bto, w51, x648]
          by_cases y3 : up1 (s.1 51) (ix p) (s.1 30 14) (ix (s.1 49 j)) = s.1 30 14
          · rw [if_pos y3, if_neg (m2.mp y3)]
            exact end0 _ (Or.inr (Or.inr rfl))
          · have y4 : up1 (t.1 648) (ix p) (cI 1) (ix (s.1 49 j)) = 0 := Classical.byContradiction (fun z => y3 (m2.mpr z))
            rw [if_neg y3, if_pos y4]
            have cn := cntE_un (f := t.1 648) (k := ix p) (x := 0) (y := cI 1) hu (by decide) (ix (s.1 30 9)) hi
            have cp := cntE_pos (f := up1 (t.1 648) (ix p) (cI 1)) y4 (ix (s.1 30 9)) hit
            have f3 : fr FgC s (wI (wI s 51 (ix p) (s.1 30 14)) 30 15 (s.1 49 j)) := f1.wI rfl
            have w9 : (wI (wI s 51 (ix p) (s.1 30 14)) 30 15 (s.1 49 j)).1 30 9 = s.1 30 9 := (f3.1 30 9 rfl).1
            have w14 : (wI (wI s 51 (ix p) (s.1 30 14)) 30 15 (s.1 49 j)).1 30 14 = s.1 30 14 := by simp (disch := decide) only [ix_0, ix_1, ix_2, ix_3, ix_4, ix_5, ix_6, ix_7, ix_8, ix_9, ix_10, ix_11, ix_12, ix_13, ix_14, ix_15, ix_16, ix_17, ix_18, ix_19, ix_20, ix_21, Nat.reduceAdd, wI_c, wI_ne, wL_1, lupd_ne, up1_eq, up1_ne]
            have w51' : (wI (wI s 51 (ix p) (s.1 30 14)) 30 15 (s.1 49 j)).1 51 = up1 (s.1 51) (ix p) (s.1 30 14) := by rw [wI_ne (by decide), w51]
            obtain ⟨s', t', v, r1, r2, r3, r4, r5, r6, r7, r8, r9⟩ := goal_lp (w := w) c n n' (wI (wI s 51 (ix p) (s.1 30 14)) 30 15 (s.1 49 j)) (wI (wI t 648 (ix p) (cI 1)) 549 141 p) (s.1 49 j) (k + cI 1) (by omega) (by omega) (by rw [w9, x648]; omega) (by rw [inc_i (by omega)]; omega) (by rw [w9, inc_i (by omega)]; omega) (by rw [wI_c, up1_eq]) (by rw [w9]; exact hto) (by rw [x648]; exact y4) (by rw [w51', w14]; exact bA) (by rw [w14]; exact ha) (by rw [w51', w14, w9, x648]; exact m1) (ho.keep f3 f2 (by decide +kernel) (by decide +kernel)) (ht.keep f3 f2 (by decide +kernel) (by decide +kernel)) (hP.keep f3 f2 (by decide +kernel) (by decide +kernel))
            rw [w9] at r4
            rw [w14] at r6 r7
            exact ⟨s', t', v, r1, r2, r3, r4, r5, r6, r7, f3.tr r8, f2.tr r9⟩
theorem rst_lp {w p : Int32} : ∀ (r n : Nat) (t : ev_M) (j : Int32), 0 ≤ j.toInt → j.toInt + r = (t.1 549 38).toInt → (t.1 549 38).toInt ≤ 120 → r < n → ∃ t1, fM_effectiveOf_h2 n t p w j = fM_effectiveOf_h25 1048576 t1 w p ∧ fr FgM t t1 ∧ (∀ q, ix j ≤ q → q < ix (t.1 549 38) → t1.1 648 q = 0) ∧ (∀ q, q < ix j → t1.1 648 q = t.1 648 q)
  | 0, n, t, j, h0, h1, h2, hn => by
    obtain ⟨n, rfl⟩ : ∃ k, n = k + 1 := ⟨n - 1, by omega⟩
    have hj : ¬ j < t.1 549 38 := by rw [lt_i]; omega
    refine ⟨t, ?_, fr.rf, fun q q1 q2 => ?_, fun _ _ => rfl⟩
    · simp only [fM_effectiveOf_h2, if_neg hj]
    · rw [ix_toNat] at q1 q2; omega
  | r + 1, n, t, j, h0, h1, h2, hn => by
    obtain ⟨n, rfl⟩ : ∃ k, n = k + 1 := ⟨n - 1, by omega⟩
    have hj : j < t.1 549 38 := by rw [lt_i]; omega
    have hi : inb j 120 = true := inb_iff.mpr ⟨h0, by omega⟩
    have ei : ix (j + cI 1) = ix j + 1 := ix_inc h0 (by omega)
    have et : (j + cI 1).toInt = j.toInt + 1 := inc_i (by omega)
    have w549 : (wI t 648 (ix j) 0).1 549 = t.1 549 := wI_ne (by decide)
    have f1 : fr FgM t (wI t 648 (ix j) 0) := fr.rf.wI rfl
    obtain ⟨t1, q1, q2, q3, q4⟩ := rst_lp (w := w) (p := p) r n (wI t 648 (ix j) 0) (j + cI 1) (by omega) (by rw [w549]; omega) (by rw [w549]; exact h2) (by omega)
    rw [w549, ei] at q3
    rw [ei] at q4
    refine ⟨t1, ?_, f1.tr q2, fun q z1 z2 => ?_, fun q z1 => ?_⟩
    · simp only [fM_effectiveOf_h2, if_pos hj, hi, if_true, ltM_eq, show cI 0 &&& 1 = 0 by decide]
      exact q1
    · by_cases z : q = ix j
      · rw [q4 q (by omega), wI_c, z, up1_eq]
      · exact q3 q (by omega) z2
    · rw [q4 q (by omega), wI_c, up1_ne (by omega)]
theorem cntE_all {f : Nat → Int32} {x : Int32} : ∀ n, (∀ j, j < n → f j = x) → cntE f x n = n
  | 0, _ => rfl
  | n + 1, h => by
    simp only [cntE, cntE_all n (fun j hj => h j (by omega)), if_pos (h n (by omega))]
section
variable {s t : ev_M} {g : Nat}
/-- where mail for a point and a person goes today, class and reference -/
theorem RAk.goal {p w : Int32} (h : RAk g s t) (hg : g < 2147483647) (hp : Has p (s.1 30 9)) (ho : ROr s t) (ht : RTim s t) (hP : RPo s t) : ∃ s' t' v, fBook_goalFor s p w = some (s', v) ∧ fM_effectiveOf t p w = some (t', v) ∧ RAk (g + 1) s' t' ∧ s'.1 30 15 = t'.1 549 141 ∧ Has (s'.1 30 15) (s.1 30 9) ∧ (v = s'.1 30 15 ∨ v = cI (-110) ∨ v = cI (-111)) ∧ fr FgC s s' ∧ fr FgM t t' := by
  obtain ⟨b, a1, a2⟩ := h
  obtain ⟨⟨p1, p2, p3⟩, -⟩ := id hP
  have ea : (s.1 30 14 + cI 1).toInt = (s.1 30 14).toInt + 1 := inc_i (by omega)
  have eP : ix (s.1 30 9) = (s.1 30 9).toInt.toNat := ix_toNat _
  obtain ⟨t1, q1, q2, q3, -⟩ := rst_lp (w := w) (p := p) (ix (s.1 30 9)) 1048576 t (cI 0) (by decide) (by rw [p1, show (cI 0).toInt = 0 from rfl]; omega) (by rw [p1]; exact p3) (by omega)
  rw [p1, ix_0] at q3
  have f1 : fr FgC s (wI (wI s 30 14 (s.1 30 14 + cI 1)) 30 15 p) := (fr.rf.wI rfl).wI rfl
  have w9 : (wI (wI s 30 14 (s.1 30 14 + cI 1)) 30 15 p).1 30 9 = s.1 30 9 := (f1.1 30 9 rfl).1
  have w14 : (wI (wI s 30 14 (s.1 30 14 + cI 1)) 30 15 p).1 30 14 = s.1 30 14 + cI 1 := by simp (disch := decide) only [ix_0, ix_1, ix_2, ix_3, ix_4, ix_5, ix_6, ix_7, ix_8, ix_9, ix_10, ix_11, ix_12, ix_13, ix_14, ix_15, ix_16, ix_17, ix_18, ix_19, ix_20, ix_21, Nat.reduceAdd, wI_c, wI_ne, wL_1, lupd_ne, up1_eq, up1_ne]
  have w51 : (wI (wI s 30 14 (s.1 30 14 + cI 1)) 30 15 p).1 51 = s.1 51 := by simp (disch := decide) only [ix_0, ix_1, ix_2, ix_3, ix_4, ix_5, ix_6, ix_7, ix_8, ix_9, ix_10, ix_11, ix_12, ix_13, ix_14, ix_15, ix_16, ix_17, ix_18, ix_19, ix_20, ix_21, Nat.reduceAdd, wI_c, wI_ne, wL_1, lupd_ne, up1_eq, up1_ne]
  obtain ⟨s', t', v, r1, r2, r3, r4, r5, r6, r7, r8, r9⟩ := goal_lp (w := w) (ix (s.1 30 9)) 1048576 1048576 (wI (wI s 30 14 (s.1 30 14 + cI 1)) 30 15 p) t1 p (cI 0) (by omega) (by omega) (by rw [w9]; exact cntE_all _ (fun j hj => q3 j (Nat.zero_le _) hj)) (by decide) (by rw [w9, show (cI 0).toInt = 0 from rfl]; omega) (by rw [wI_c, up1_eq]) (by rw [w9]; exact hp) (q3 _ (Nat.zero_le _) hp.ix) (by rw [w51, w14]; exact b.mono (by omega) (by omega)) (by rw [w14]; omega) (by
    rw [w51, w14, w9]
    intro q hq
    rw [q3 q (Nat.zero_le _) hq]
    have := b q (by omega)
    constructor
    · intro z; rw [z] at this; omega
    · intro z; exact absurd rfl z) (ho.keep f1 q2 (by decide +kernel) (by decide +kernel)) (ht.keep f1 q2 (by decide +kernel) (by decide +kernel)) (hP.keep f1 q2 (by decide +kernel) (by decide +kernel))
  rw [w9] at r4
  rw [w14] at r6 r7
  refine ⟨s', t', v, ?_, ?_, ⟨by rw [r7]; exact r6, by rw [r7]; omega, by rw [r7]; omega⟩, r3, r4, r5, f1.tr r8, q2.tr r9⟩
  · simp (disch := decide) only [fBook_goalFor, ltM_eq, ix_0, ix_1, ix_2, ix_3, ix_4, ix_5, ix_6, ix_7, ix_8, ix_9, ix_10, ix_11, ix_12, ix_13, ix_14, ix_15, ix_16, ix_17, ix_18, ix_19, ix_20, ix_21, Nat.reduceAdd, wI_c, wI_ne, wL_1, lupd_ne, up1_eq, up1_ne]
    exact r1
  · show fM_effectiveOf_h2 1048576 t p w (cI 0) = _
    rw [q1]; exact r2
theorem RAk.up (h : RAk g s t) : RAk (g + 1) s t := ⟨h.1, h.2.1, by have := h.2.2; omega⟩
/-- an item's goal today, class and reference -/
theorem RAk.itm {i : Int32} (h : RAk g s t) (hg : g < 2147483647) (hi : Has i (s.1 100 5)) (hI : RIt s t) (hR : RIr s t) (hU : RCu s t) (ho : ROr s t) (ht : RTim s t) (hP : RPo s t) : ∃ s' t' v, fItems_goalOf s i = some (s', v) ∧ fM_goalOf t i = some (t', v) ∧ RAk (g + 1) s' t' ∧ ((v = cI (-1) ∧ s.1 109 (ix i) = cI (-1)) ∨ ∃ z, Has z (s.1 30 9) ∧ t'.1 549 141 = z ∧ (v = z ∨ ((v = cI (-110) ∨ v = cI (-111)) ∧ s'.1 30 15 = z))) ∧ fr FgC s s' ∧ fr FgM t t' := by
  obtain ⟨⟨n1, n2, n3⟩, -, -, -, -, g5, g6, -, g8, -, -, -, -, -, b5, b6, -, b8, -⟩ := hI
  obtain ⟨-, -, q3, -, -, -, -, -, -, c3, -⟩ := hR
  obtain ⟨⟨u1, u2, u3⟩, k1, -, -, k2, -⟩ := hU
  have hb : inb i 300 = true := hi.inb n3
  have w := hi.ix
  have e3 := q3 _ w
  have e5 := g5 _ w
  have e6 := g6 _ w
  have e8 := g8 _ w
  have d3 := c3 _ w
  have d5 := b5 _ w
  have d8 := b8 _ w
  by_cases z : s.1 112 (ix i) = cI 1
  · have z0 : ¬ t.1 599 (ix i) = 0 := by rw [e3, z]; decide
    have e4 : (s.1 106 (ix i) - cI 4).toInt = (s.1 106 (ix i)).toInt - 4 := sub_toInt (by rw [show (cI 4).toInt = 4 from rfl]; omega) (by rw [show (cI 4).toInt = 4 from rfl]; omega)
    have ei : ix (s.1 106 (ix i) - cI 4) + 4 = ix (s.1 106 (ix i)) := by rw [ix_toNat (s.1 106 (ix i) - cI 4), ix_toNat (s.1 106 (ix i)), e4]; omega
    have hb2 : inb (s.1 106 (ix i)) 34 = true := inb_iff.mpr ⟨by omega, by omega⟩
    have hb4 : inb (s.1 106 (ix i) - cI 4) 30 = true := inb_iff.mpr ⟨by omega, by omega⟩
    have il : ix (s.1 106 (ix i) - cI 4) < ix (s.1 78 3) := by rw [ix_toNat (s.1 106 (ix i) - cI 4), ix_toNat (s.1 78 3), e4]; omega
    have eh : t.1 626 (ix (s.1 106 (ix i) - cI 4)) = s.1 79 (ix (s.1 106 (ix i))) := by rw [k1 _ il, ei]
    have hh := k2 _ il
    rw [ei] at hh
    have f2 : fr FgM t (wI t 549 141 (s.1 79 (ix (s.1 106 (ix i))))) := fr.rf.wI rfl
    refine ⟨s, wI t 549 141 (s.1 79 (ix (s.1 106 (ix i)))), s.1 79 (ix (s.1 106 (ix i))), ?_, ?_, h.up.keep rf_fr f2 rfl rfl, Or.inr ⟨_, hh, ?_, Or.inl rfl⟩, fr.rf, f2⟩
    · simp only [fItems_goalOf, if_pos hb, ix_10, ix_4, Nat.reduceAdd, if_pos z, fMoney_homeOf, hb2, if_true, bd1_some]
    · simp only [fM_goalOf, if_pos hb, if_neg z0, e5, hb4, if_true, ltM_eq, eh, wI_c, up1_eq]
    · rw [wI_c, up1_eq]
  · have z9 : s.1 112 (ix i) = 0 := by
      have z3 : ¬ (s.1 112 (ix i)).toInt = 1 := fun u => z (by rw [eq_i]; exact u)
      rw [eq_i, i32_0]; omega
    have z0 : t.1 599 (ix i) = 0 := by rw [e3, z9]
    by_cases y : s.1 109 (ix i) = cI (-1)
    · refine ⟨s, t, cI (-1), ?_, ?_, h.up, Or.inl ⟨rfl, y⟩, fr.rf, fr.rf⟩
      · simp only [fItems_goalOf, if_pos hb, ix_10, ix_7, Nat.reduceAdd, if_neg z, ltI_eq, if_pos y]
      · simp only [fM_goalOf, if_pos hb, if_pos z0, e8, if_pos y]
    · have hp : Has (s.1 109 (ix i)) (s.1 30 9) := ⟨by have : ¬ (s.1 109 (ix i)).toInt = -1 := fun u => y (by rw [eq_i]; exact u); omega, by omega⟩
      obtain ⟨s', t', v, r1, r2, r3, r4, r5, r6, r7, r8⟩ := h.goal (w := s.1 107 (ix i)) hg hp ho ht hP
      refine ⟨s', t', v, ?_, ?_, r3, Or.inr ⟨s'.1 30 15, r5, r4.symm, ?_⟩, r7, r8⟩
      · simp only [fItems_goalOf, if_pos hb, ix_10, ix_7, ix_5, Nat.reduceAdd, if_neg z, ltI_eq, if_neg y, r1, bd2_some]
      · simp only [fM_goalOf, if_pos hb, if_pos z0, e8, if_neg y, e6, r2, bd2_some]
      · rcases r6 with q | q
        · exact Or.inl q
        · exact Or.inr ⟨q, rfl⟩
end
