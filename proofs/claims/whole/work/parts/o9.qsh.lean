/-! ===== LEVEL 3: questions: the sheet's lines and signs ===== -/
theorem q_z5 {t : ev_M} : (wI t 549 0 (cI 0)).1 549 5 = t.1 549 5 := by rw [wI_c, up1_ne (by decide)]
theorem zfr {t : ev_M} : fr [(549, 549, 1)] t (wI t 549 0 (cI 0)) := fr.rf.wI rfl
/-- a number from 0 to L − 1 -/
theorem q_inL {a : Int32} {L : Nat} (hL : L < 1000) : InR a (cI 0) (cI (L : Int) - cI 1) ↔ ∃ l : Nat, l < L ∧ a = cI (l : Int) := by
  have e0 : (cI 0).toInt = 0 := rfl
  have e1 : (cI 1).toInt = 1 := rfl
  have ti := q_ti (k := L) (by omega)
  have sb : (cI (L : Int) - cI 1).toInt = (L : Int) - 1 := by rw [sub_b (by omega) (by omega), ti, e1]
  unfold InR
  rw [sb, e0]
  constructor
  · intro h
    refine ⟨ix a, ?_, (cI_ix (by omega)).symm⟩
    have := ix_toNat a
    omega
  · rintro ⟨l, h1, rfl⟩
    rw [q_ti (by omega)]
    omega
theorem tl_lp {t : ev_M} {a b : Int32} {l lo : Nat} (hl : l < 10) (ha : a = cI (l : Int)) {hi : Nat} (h1 : t.1 577 (l + 1) = cI (hi : Int)) (h0 : t.1 577 l = cI (lo : Int)) (hh : hi ≤ 200) (hb : b = cI 0 ∨ b = cI 1 ∨ b = cI 2) : ∀ (r m k : Nat), lo + k + r = hi → r < m → fM_textLine_h60 m t a b (mnC (t.1 579) lo k) (mnC (t.1 578) lo k) (cI ((lo + k : Nat) : Int)) = some (t, if b = cI 0 then cI ((hi - lo : Nat) : Int) else if b = cI 1 then mnC (t.1 579) lo (hi - lo) else mnC (t.1 578) lo (hi - lo)) := by
  have x1 : a + cI 1 = cI ((l + 1 : Nat) : Int) := by rw [ha, q_s (by omega)]
  have i1 : inb (cI ((l + 1 : Nat) : Int)) 11 = true := q_in (by omega) (by decide)
  have j1 : ix (cI ((l + 1 : Nat) : Int)) = l + 1 := q_ix (by omega)
  have i2 : inb (cI (l : Int)) 11 = true := q_in (by omega) (by decide)
  have j2 : ix (cI (l : Int)) = l := q_ix (by omega)
  intro r
  induction r with
  | zero =>
    intro m k hk hm
    obtain ⟨m, rfl⟩ : ∃ k, m = k + 1 := ⟨m - 1, by omega⟩
    rw [fM_textLine_h60, x1, if_pos i1, j1, h1, if_neg (by rw [q_lt (by omega) (by omega)]; omega), ha, if_pos i1, if_pos i2, j2, h0, q_sb (by omega) (by omega), show k = hi - lo by omega]
    rcases hb with u | u | u
    · rw [u, if_pos (by decide), if_pos rfl]
    · rw [u, if_neg (by decide), if_pos rfl, if_neg (by decide), if_pos rfl]
    · rw [u, if_neg (by decide), if_neg (by decide), if_neg (by decide), if_neg (by decide)]
  | succ r ih =>
    intro m k hk hm
    obtain ⟨m, rfl⟩ : ∃ k, m = k + 1 := ⟨m - 1, by omega⟩
    have kb : inb (cI ((lo + k : Nat) : Int)) 200 = true := q_in (by omega) (by decide)
    have kx : ix (cI ((lo + k : Nat) : Int)) = lo + k := q_ix (by omega)
    have i0 := ih m (k + 1) (by omega) (by omega)
    rw [fM_textLine_h60, x1, if_pos i1, j1, h1, if_pos ((q_lt (by omega) (by omega)).mpr (by omega)), if_pos kb, kx]
    unfold fM_textLine_b95 fM_textLine_b120
    rw [if_pos kb, if_pos kb, kx, q_s (by omega), if_pos kb, if_pos kb, if_pos kb]
    rw [show lo + (k + 1) = lo + k + 1 by omega] at i0
    rw [← i0]
    show _ = fM_textLine_h60 m t a b (if t.1 579 (lo + k) < mnC (t.1 579) lo k then t.1 579 (lo + k) else mnC (t.1 579) lo k) (if t.1 578 (lo + k) < mnC (t.1 578) lo k then t.1 578 (lo + k) else mnC (t.1 578) lo k) _
    by_cases z1 : t.1 579 (lo + k) < mnC (t.1 579) lo k
    · rw [if_pos z1, if_pos z1]
      by_cases z2 : t.1 578 (lo + k) < mnC (t.1 578) lo k
      · rw [if_pos z2, if_pos z2]
      · rw [if_neg z2, if_neg z2]
    · rw [if_neg z1, if_neg z1]
      by_cases z2 : t.1 578 (lo + k) < mnC (t.1 578) lo k
      · rw [if_pos z2, if_pos z2]
      · rw [if_neg z2, if_neg z2]
theorem in_02 {b : Int32} (h : InR b (cI 0) (cI 2)) : b = cI 0 ∨ b = cI 1 ∨ b = cI 2 := by
  obtain ⟨h1, h2⟩ := h
  rw [show (cI 0).toInt = 0 from rfl] at h1
  rw [show (cI 2).toInt = 2 from rfl] at h2
  rw [eq_i, eq_i, eq_i, show (cI 0).toInt = 0 from rfl, show (cI 1).toInt = 1 from rfl, show (cI 2).toInt = 2 from rfl]
  omega
theorem q_textLine {s t : ev_M} {a b : Int32} (h9 : t.1 549 5 = s.1 9 9) (H : RSh s t) : Ok (fPH_textLine s a b) fun x => Ok (fM_textLine t a b) fun z => x = z.2 := by
  have H' := H.keep rf_fr (zfr (t := t)) (by decide +kernel) (by decide +kernel)
  unfold fPH_textLine fM_textLine
  rw [ltM_eq, q_z5, h9]
  generalize wI t 549 0 (cI 0) = t' at *
  by_cases z : s.1 9 9 = 0
  rotate_left
  · rw [if_neg z, if_neg z, ok_some, ok_some]
  rw [if_pos z, if_pos z]
  unfold fSheet_tellLine
  rw [outside_eq, bd1_some, ite_bI, in_eq, bd1_some, ite_bI]
  by_cases h1 : InR b (cI 0) (cI 2)
  rotate_left
  · rw [if_pos h1, if_neg h1, bd1_some, ok_some, ok_some]
  rw [if_neg (fun u => u h1), if_pos h1, outside_eq, bd1_some, ite_bI, in_eq, bd1_some, ite_bI]
  obtain ⟨L, F, l1, l2, l3, l4, l5, l6, l7, l8, l9⟩ := H'
  rw [l2, l3]
  by_cases h2 : InR a (cI 0) (cI (L : Int) - cI 1)
  rotate_left
  · rw [if_pos h2, if_neg h2, bd1_some, ok_some, ok_some]
  rw [if_neg (fun u => u h2), if_pos h2]
  obtain ⟨l, hl, ha⟩ := (q_inL (by omega)).mp h2
  obtain ⟨k1, k2, k3, k4⟩ := l8 l hl
  have Fl := l5 l hl
  have FL := F_mo l5 L (show l + 1 ≤ L by omega) (Nat.le_refl _)
  have lp := tl_lp (t := t') (a := a) (b := b) (l := l) (lo := F l) (hi := F (l + 1)) (by omega) ha (l7 (l + 1) (by omega)) (l7 l (by omega)) (by omega) (in_02 h1) (F (l + 1) - F l) 1048576 0 (by omega) (by omega)
  have lp' : fM_textLine_h60 1048576 t' a b (cI 4096) (cI 4096) (cI (F l : Int)) = _ := lp
  rw [if_pos (show inb a 11 = true by rw [ha]; exact q_in (by omega) (by decide)), ltI_eq, show ix a = l by rw [ha]; exact q_ix (by omega), l7 l (by omega), lp']
  rw [if_pos (show inb a 10 = true by rw [ha]; exact q_in (by omega) (by decide))]
  rcases in_02 h1 with u | u | u
  · rw [u, if_pos (by decide), if_pos rfl, bd1_some, ok_some, ok_some]
    exact k2
  · rw [u, if_pos (by decide), if_neg (by decide), if_pos rfl, bd1_some, ok_some, ok_some]
    exact k3
  · rw [u, if_pos (by decide), if_neg (by decide), if_neg (by decide), bd1_some, ok_some, ok_some]
    exact k4
theorem in_07 {b : Int32} (h : InR b (cI 0) (cI 7)) : b = cI 0 ∨ b = cI 1 ∨ b = cI 2 ∨ b = cI 3 ∨ b = cI 4 ∨ b = cI 5 ∨ b = cI 6 ∨ b = cI 7 := by
  obtain ⟨h1, h2⟩ := h
  rw [show (cI 0).toInt = 0 from rfl] at h1
  rw [show (cI 7).toInt = 7 from rfl] at h2
  simp only [eq_i, show (cI 0).toInt = 0 from rfl, show (cI 1).toInt = 1 from rfl, show (cI 2).toInt = 2 from rfl, show (cI 3).toInt = 3 from rfl, show (cI 4).toInt = 4 from rfl, show (cI 5).toInt = 5 from rfl, show (cI 6).toInt = 6 from rfl, show (cI 7).toInt = 7 from rfl]
  omega
theorem q_sign {s t : ev_M} {a b c : Int32} (h9 : t.1 549 5 = s.1 9 9) (H : RSh s t) (Sy : Sym s t) : Ok (fPH_sign s a b c) fun x => Ok (fM_sign t a b c) fun z => x = z.2 := by
  have H' := H.keep rf_fr (zfr (t := t)) (by decide +kernel) (by decide +kernel)
  have Sy' := Sy.keep rf_fr (zfr (t := t)) (by decide +kernel) (by decide +kernel)
  unfold fPH_sign fM_sign
  rw [ltM_eq, q_z5, h9]
  generalize wI t 549 0 (cI 0) = t' at *
  by_cases z : s.1 9 9 = 0
  rotate_left
  · rw [if_neg z, if_neg z, ok_some, ok_some]
  rw [if_pos z, if_pos z]
  unfold fSheet_tellSign
  rw [outside_eq, bd1_some, ite_bI, in_eq, bd1_some, ite_bI]
  by_cases h1 : InR c (cI 0) (cI 7)
  rotate_left
  · rw [if_pos h1, if_neg h1, bd1_some, ok_some, ok_some]
  rw [if_neg (fun u => u h1), if_pos h1, outside_eq, bd1_some, ite_bI, in_eq, bd1_some, ite_bI]
  obtain ⟨L, F, l1, l2, l3, l4, l5, l6, l7, l8, l9⟩ := H'
  have B : ShB L F s t' := ⟨l1, l5, l6, l3, l7, fun q hq => (l9 q hq).2.2.2.2.2.2.2.2⟩
  rw [l2, l3]
  by_cases h2 : InR a (cI 0) (cI (L : Int) - cI 1)
  rotate_left
  · rw [if_pos h2, if_neg h2, bd1_some, ok_some, ok_some]
  rw [if_neg (fun u => u h2), if_pos h2]
  obtain ⟨l, hl, ha⟩ := (q_inL (by omega)).mp h2
  obtain ⟨k1, k2, k3, k4⟩ := l8 l hl
  have Fl := l5 l hl
  have FL := F_mo l5 L (show l + 1 ≤ L by omega) (Nat.le_refl _)
  have ax : ix a = l := by rw [ha]; exact q_ix (by omega)
  have a10 : inb a 10 = true := by rw [ha]; exact q_in (by omega) (by decide)
  have a11 : inb a 11 = true := by rw [ha]; exact q_in (by omega) (by decide)
  have a1 : a + cI 1 = cI ((l + 1 : Nat) : Int) := by rw [ha, q_s (by omega)]
  rw [if_pos a10, if_pos a10, a1, if_pos (show inb (cI ((l + 1 : Nat) : Int)) 11 = true from q_in (by omega) (by decide)), if_pos a11, if_pos a11, ax, show ix (cI ((l + 1 : Nat) : Int)) = l + 1 from q_ix (by omega), l7 l (by omega), l7 (l + 1) (by omega), q_sb (by omega) (by omega)]
  rw [outside_eq, bd1_some, ite_bI, in_eq, bd1_some, ite_bI]
  have k2' : s.1 (63 + ix (cI 0)) l = cI ((F (l + 1) - F l : Nat) : Int) := k2
  have k1' : s.1 (63 + ix (cI 3)) l = cI (F l : Int) := k1
  rw [k2', k1']
  by_cases h3 : InR b (cI 0) (cI ((F (l + 1) - F l : Nat) : Int) - cI 1)
  rotate_left
  · rw [if_pos h3, if_neg h3, bd1_some, ok_some, ok_some]
  rw [if_neg (fun u => u h3), if_pos h3]
  obtain ⟨j, hj, hb⟩ := (q_inL (by omega)).mp h3
  have vb : cI (F l : Int) + b = cI ((F l + j : Nat) : Int) := by rw [hb, q_ad (by omega)]
  have vi : inb (cI ((F l + j : Nat) : Int)) 200 = true := q_in (by omega) (by decide)
  have vx : ix (cI ((F l + j : Nat) : Int)) = F l + j := q_ix (by omega)
  obtain ⟨q1, q2, q3, q4, q5, q6, q7, q8, -⟩ := l9 (F l + j) (by omega)
  have nn : ∀ lo hi : Nat, lo ≤ hi → hi ≤ 36 → fM_nearest t' (t'.1 582 (F l + j)) (cI (lo : Int)) (cI (hi : Int)) = fSheet_nearest s (t'.1 582 (F l + j)) (cI (lo : Int)) (cI (hi : Int)) := fun lo hi h1 h2 => by
    obtain ⟨r, r1, r2, -⟩ := e_nst Sy' q6 h1 h2
    exact r2.trans r1.symm
  have n5 : fM_nearest t' (t'.1 582 (F l + j)) (cI 0) (cI 10) = some (s.1 73 (F l + j)) := (nn 0 10 (by decide) (by decide)).trans q7
  have n6 : fM_nearest t' (t'.1 582 (F l + j)) (cI 10) (cI 36) = some (s.1 74 (F l + j)) := (nn 10 36 (by decide) (by decide)).trans q8
  simp only [vb, if_pos vi, vx, ltI_eq, ax, l7 l (show l ≤ L by omega)]
  rcases in_07 h1 with u | u | u | u | u | u | u | u
  · rw [u, if_pos (by decide), if_pos rfl, bd1_some, ok_some, ok_some]
    exact q1
  · rw [u, if_pos (by decide), if_neg (by decide), if_pos rfl, bd1_some, ok_some, ok_some]
    exact q2
  · rw [u, if_pos (by decide), if_neg (by decide), if_neg (by decide), if_pos rfl, bd1_some, ok_some, ok_some]
    exact q3
  · rw [u, if_pos (by decide), if_neg (by decide), if_neg (by decide), if_neg (by decide), if_pos rfl, bd1_some, ok_some, ok_some]
    exact q4
  · rw [u, if_pos (by decide), if_neg (by decide), if_neg (by decide), if_neg (by decide), if_neg (by decide), if_pos rfl, bd1_some, ok_some, ok_some]
    exact q5
  · rw [u, if_pos (by decide), if_neg (by decide), if_neg (by decide), if_neg (by decide), if_neg (by decide), if_neg (by decide), if_pos rfl, n5, bd1_some, bd1_some, ok_some, ok_some]
    rfl
  · rw [u, if_pos (by decide), if_neg (by decide), if_neg (by decide), if_neg (by decide), if_neg (by decide), if_neg (by decide), if_neg (by decide), if_pos rfl, n6, bd1_some, bd1_some, ok_some, ok_some]
    rfl
  · rw [u, if_pos (by decide), if_neg (by decide), if_neg (by decide), if_neg (by decide), if_neg (by decide), if_neg (by decide), if_neg (by decide), if_neg (by decide), if_pos a11, bd1_some]
    rcases bw_ok B hl (show F l ≤ F l + j by omega) (by omega) with ⟨w1, w2⟩ | ⟨w1, w2⟩
    · rw [w1, bd1_some, if_neg (show ¬ cI 1 = 0 by decide), ok_some, ok_some]
      exact w2
    · rw [w1, bd1_some, if_pos (show cI 0 = 0 from rfl), ok_some, ok_some]
      exact w2
