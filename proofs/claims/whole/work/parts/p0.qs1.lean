/-! ===== LEVEL 3: questions ===== -/
theorem in_iff {a n : Int32} (h : 0 ≤ n.toInt) : InR a (cI 0) (n - cI 1) ↔ Has a n := by
  have b := Int32.toInt_lt n
  have sb : (n - cI 1).toInt = n.toInt - 1 := sub_b (y := cI 1) (by show _ ≤ _ - (1 : Int); omega) (by show _ - (1 : Int) < _; omega)
  unfold InR Has
  rw [sb, show (cI 0).toInt = 0 from rfl]
  omega
theorem in_03 {b : Int32} (h : InR b (cI 0) (cI 3)) : b = cI 0 ∨ b = cI 1 ∨ b = cI 2 ∨ b = cI 3 := by
  obtain ⟨h1, h2⟩ := h
  rw [show (cI 0).toInt = 0 from rfl] at h1
  rw [show (cI 3).toInt = 3 from rfl] at h2
  simp only [eq_i, show (cI 0).toInt = 0 from rfl, show (cI 1).toInt = 1 from rfl, show (cI 2).toInt = 2 from rfl, show (cI 3).toInt = 3 from rfl]
  omega
theorem in_04 {b : Int32} (h : InR b (cI 0) (cI 4)) : b = cI 0 ∨ b = cI 1 ∨ b = cI 2 ∨ b = cI 3 ∨ b = cI 4 := by
  obtain ⟨h1, h2⟩ := h
  rw [show (cI 0).toInt = 0 from rfl] at h1
  rw [show (cI 4).toInt = 4 from rfl] at h2
  simp only [eq_i, show (cI 0).toInt = 0 from rfl, show (cI 1).toInt = 1 from rfl, show (cI 2).toInt = 2 from rfl, show (cI 3).toInt = 3 from rfl, show (cI 4).toInt = 4 from rfl]
  omega
section
variable {n : Nat}
theorem q_find {s t : ev_M} {a : Int32} (h9 : t.1 549 5 = s.1 9 9) (H : RPl s t) : Ok (fPH_find s a) fun x => Ok (fM_find t a) fun z => x = z.2 := by
  have H := H.keep rf_fr (zfr (t := t)) (by decide +kernel) (by decide +kernel)
  unfold fPH_find fM_find
  rw [ltM_eq, q_z5, h9]
  generalize wI t 549 0 (cI 0) = t at *
  by_cases z : s.1 9 9 = 0
  rotate_left
  · rw [if_neg z, if_neg z, ok_some, ok_some]
  rw [if_pos z, if_pos z]
  obtain ⟨v, v1, v2, -⟩ := e_placeWith (c := a) H
  rw [v1, v2, bd1_some, bd1_some, ok_some, ok_some]
theorem q_pointAt {s t : ev_M} {a b : Int32} (h9 : t.1 549 5 = s.1 9 9) (P : RPo s t) (S : RSt s t) (R : RSp s t) : Ok (fPH_pointAt s a b) fun x => Ok (fM_pointAt t a b) fun z => x = z.2 := by
  have P := P.keep rf_fr (zfr (t := t)) (by decide +kernel) (by decide +kernel)
  have S := S.keep rf_fr (zfr (t := t)) (by decide +kernel) (by decide +kernel)
  have R := R.keep rf_fr (zfr (t := t)) (by decide +kernel) (by decide +kernel)
  unfold fPH_pointAt fM_pointAt
  rw [ltM_eq, q_z5, h9]
  generalize wI t 549 0 (cI 0) = t at *
  by_cases z : s.1 9 9 = 0
  rotate_left
  · rw [if_neg z, if_neg z, ok_some, ok_some]
  rw [if_pos z, if_pos z]
  obtain ⟨⟨n1, n2, n3⟩, g1, g2, -⟩ := id P
  rw [e_hasPoint n2, e_isPoint (by rw [n1]; exact n2), n1, bd1_some, bd1_some, ite_bI, ite_bI]
  by_cases h1 : Has a (s.1 30 9)
  rotate_left
  · rw [if_neg h1, if_neg h1, ok_some, ok_some]
  rw [if_pos h1, if_pos h1]
  have ab : inb a 120 = true := h1.inb n3
  have ax : ix a < ix (s.1 30 9) := h1.ix
  obtain ⟨x1, x2, x3, x4⟩ := e_xy S P h1
  obtain ⟨y1, y2⟩ := e_placeAt P S h1
  have r1 := R.2.2.1 (ix a) ax
  have g1 := g1 (ix a) ax
  have g2 := g2 (ix a) ax
  unfold fBook_tellPoint fRounds_roundOf
  by_cases b0 : b = cI 0
  · simp (decide := true) only [b0, if_true, if_false, ite_true, ite_false, if_pos ab, bd1_some, ok_some, g1]
    rfl
  by_cases b1 : b = cI 1
  · simp (decide := true) only [b1, if_true, if_false, ite_true, ite_false, if_pos ab, bd1_some, ok_some, g2]
    rfl
  by_cases b2 : b = cI 2
  · simp (decide := true) only [b2, if_true, if_false, ite_true, ite_false, if_pos ab, bd1_some, ok_some, x1, x3]
  by_cases b3 : b = cI 3
  · simp (decide := true) only [b3, if_true, if_false, ite_true, ite_false, if_pos ab, bd1_some, ok_some, x2, x4]
  by_cases b4 : b = cI 4
  · simp (decide := true) only [b4, if_true, if_false, ite_true, ite_false, if_pos ab, bd1_some, ok_some, y1, y2]
  by_cases b5 : b = cI 5
  · simp (decide := true) only [b5, if_true, if_false, ite_true, ite_false, if_pos ab, bd1_some, ok_some, r1]
  rw [if_neg b5, if_neg b0, if_neg b0, if_neg b1, if_neg b1, if_neg b2, if_neg b2, if_neg b3, if_neg b3, if_neg b4, if_neg b4, if_neg b5, bd1_some, ok_some, ok_some]
theorem q_read {s t : ev_M} (h9 : t.1 549 5 = s.1 9 9) (G : RSs s t) : Ok (fPH_read s) fun x => Ok (fM_read t) fun z => x = z.2 := by
  have G := G.keep rf_fr (zfr (t := t)) (by decide +kernel) (by decide +kernel) (by decide +kernel) (by decide +kernel) (by decide +kernel) (by decide +kernel)
  unfold fPH_read fM_read
  rw [ltM_eq, q_z5, h9]
  generalize wI t 549 0 (cI 0) = t at *
  by_cases z : s.1 9 9 = 0
  rotate_left
  · rw [if_neg z, if_neg z, ok_some, ok_some]
  rw [if_pos z, if_pos z]
  obtain ⟨⟨g1, g2⟩, -, -, g4⟩ := G
  rw [g1, ok_some]
  by_cases u : s.1 52 2 = 0
  · rw [if_pos u, ok_some]; exact g4 u
  · rw [if_neg u, ok_some]; exact (g2.resolve_left u).1.symm
theorem q_passes {s t : ev_M} (h9 : t.1 549 5 = s.1 9 9) (Y : RSy s t) : Ok (fPH_passes s) fun x => Ok (fM_passes t) fun z => x = z.2 := by
  have Y := Y.keep rf_fr (zfr (t := t)) (by decide +kernel) (by decide +kernel)
  unfold fPH_passes fM_passes
  rw [ltM_eq, q_z5, h9]
  generalize wI t 549 0 (cI 0) = t at *
  by_cases z : s.1 9 9 = 0
  rotate_left
  · rw [if_neg z, if_neg z, ok_some, ok_some]
  rw [if_pos z, if_pos z]
  rw [ok_some, ok_some]; exact Y.1.1.symm
theorem q_now {s t : ev_M} (h9 : t.1 549 5 = s.1 9 9) (T : RTim s t) : Ok (fPH_now s) fun x => Ok (fM_now t) fun z => x = z.2 := by
  have T := T.keep rf_fr (zfr (t := t)) (by decide +kernel) (by decide +kernel)
  unfold fPH_now fM_now
  rw [ltM_eq, q_z5, h9]
  generalize wI t 549 0 (cI 0) = t at *
  by_cases z : s.1 9 9 = 0
  rotate_left
  · rw [if_neg z, if_neg z, ok_some, ok_some]
  rw [if_pos z, if_pos z]
  rw [ok_some, ok_some]; exact T.1.1.symm
theorem q_row {s t : ev_M} {a b : Int32} (h9 : t.1 549 5 = s.1 9 9) (W : RRw s t) (Ro : RRo s t) (I : RIt s t) : Ok (fPH_row s a b) fun x => Ok (fM_row t a b) fun z => x = z.2 := by
  have W := W.keep rf_fr (zfr (t := t)) (by decide +kernel) (by decide +kernel)
  have Ro := Ro.keep rf_fr (zfr (t := t)) (by decide +kernel) (by decide +kernel)
  have I := I.keep rf_fr (zfr (t := t)) (by decide +kernel) (by decide +kernel)
  unfold fPH_row fM_row
  rw [ltM_eq, q_z5, h9]
  generalize wI t 549 0 (cI 0) = t at *
  by_cases z : s.1 9 9 = 0
  rotate_left
  · rw [if_neg z, if_neg z, ok_some, ok_some]
  rw [if_pos z, if_pos z]
  obtain ⟨⟨n1, n2, n3⟩, -⟩ := id Ro
  obtain ⟨⟨m1, m2, m3⟩, -⟩ := id I
  rw [e_roundsHas n2, e_isRound (by rw [n1]; exact n2), n1, bd1_some, bd1_some, ite_bI, ite_bI]
  by_cases h1 : Has a (s.1 138 3)
  rotate_left
  · rw [if_neg h1, if_neg h1, ok_some, ok_some]
  rw [if_pos h1, if_pos h1]
  have ab : inb a 12 = true := h1.inb n3
  have ea : cI ((ix a : Nat) : Int) = a := cI_ix h1.1
  have ax : ix a < 12 := by have := ix_toNat a; have := h1.2; omega
  obtain ⟨l, l1, l2, l3⟩ := W.2 (ix a) h1.ix
  rw [rows_at ax] at l1
  rw [ea] at l3
  have l3' : ∀ i, i ∈ l ↔ i < ix (t.1 549 58) ∧ t.1 595 i = a := by rw [m1]; exact l3
  have e := rat_lp (x := b) (by rw [m1]; exact m3) (by rw [m1]; exact m2) l2 l3' (ix (t.1 549 58)) 1048576 (cI 0) (by decide) (by rw [ix_toNat, m1, show (cI 0).toInt = 0 from rfl]; omega) (by rw [ix_toNat, m1]; omega) (fun k h u => absurd u (Nat.not_lt_zero _))
  unfold fRounds_sortedAt fM_rowAt
  rw [e, if_pos ab, outside_eq, bd1_some, bd1_some, ite_bI]
  show Ok (bd1 (if ¬ InR b (cI 0) (s.1 144 (ix a) - cI 1) then _ else _) fun v => some v) _
  obtain ⟨w1, w2⟩ := l1
  have nl : l.length ≤ 300 := by
    obtain ⟨-, -, k⟩ := RRw.size W m1 m2 m3 h1
    rw [w1] at k; omega
  have sb : (s.1 144 (ix a) - cI 1).toInt = (l.length : Int) - 1 := by rw [sub_b (by rw [w1]; show _ ≤ _ - (1 : Int); omega) (by rw [w1]; show _ - (1 : Int) < _; omega), w1]; rfl
  unfold ratI
  by_cases z : InR b (cI 0) (s.1 144 (ix a) - cI 1)
  · have z2 := z
    unfold InR at z2
    rw [sb, show (cI 0).toInt = 0 from rfl] at z2
    have bx := ix_toNat b
    have hb : 0 ≤ b.toInt ∧ ix b < l.length := ⟨z2.1, by omega⟩
    rw [if_neg (fun u => u z), if_pos ab, if_pos (inb_iff.mpr ⟨z2.1, by omega⟩), bd1_some, ok_some, ok_some, dif_pos hb]
    exact w2 (ix b) hb.2
  · rw [if_pos z, bd1_some, ok_some, ok_some, dif_neg]
    intro u
    refine z ?_
    unfold InR
    rw [sb, show (cI 0).toInt = 0 from rfl]
    have bx := ix_toNat b
    omega
theorem q_entry {s t : ev_M} {a b : Int32} (h9 : t.1 549 5 = s.1 9 9) (G : RLg s t) : Ok (fPH_entry s a b) fun x => Ok (fM_entry t a b) fun z => x = z.2 := by
  have G := G.keep rf_fr (zfr (t := t)) (by decide +kernel) (by decide +kernel)
  unfold fPH_entry fM_entry
  rw [ltM_eq, q_z5, h9]
  generalize wI t 549 0 (cI 0) = t at *
  by_cases z : s.1 9 9 = 0
  rotate_left
  · rw [if_neg z, if_neg z, ok_some, ok_some]
  rw [if_pos z, if_pos z]
  obtain ⟨⟨n1, n2, n3⟩, g1, g2, g3, g4, -⟩ := G
  unfold fMoney_tellBooking
  rw [outside_eq, bd1_some, ite_bI, in_eq, bd1_some, ite_bI]
  by_cases h1 : InR b (cI 0) (cI 3)
  rotate_left
  · rw [if_pos h1, if_neg h1, bd1_some, ok_some, ok_some]
  rw [if_neg (fun u => u h1), if_pos h1, outside_eq, bd1_some, ite_bI, in_eq, bd1_some, ite_bI, n1]
  by_cases h2 : InR a (cI 0) (s.1 78 6 - cI 1)
  rotate_left
  · rw [if_pos h2, if_neg h2, bd1_some, ok_some, ok_some]
  rw [if_neg (fun u => u h2), if_pos h2]
  have ha : Has a (s.1 78 6) := (in_iff n2).mp h2
  have ab : inb a 2000 = true := ha.inb n3
  have ax := ha.ix
  rw [if_pos ab, if_pos ab, if_pos ab, if_pos ab, if_pos ab]
  rcases in_03 h1 with u | u | u | u
  · rw [u, if_pos (by decide), if_pos (by decide), bd1_some, ok_some, ok_some]; exact (g1 _ ax).symm
  · simp (decide := true) only [u, if_true, if_false, ite_true, ite_false, if_pos ab, bd1_some, ok_some]; exact (g2 _ ax).symm
  · simp (decide := true) only [u, if_true, if_false, ite_true, ite_false, if_pos ab, bd1_some, ok_some]; exact (g3 _ ax).symm
  · simp (decide := true) only [u, if_true, if_false, ite_true, ite_false, if_pos ab, bd1_some, ok_some]; exact (g4 _ ax).symm
theorem q_orderAt {s t : ev_M} {a b : Int32} (h9 : t.1 549 5 = s.1 9 9) (G : ROm s t) : Ok (fPH_orderAt s a b) fun x => Ok (fM_orderAt t a b) fun z => x = z.2 := by
  have G := G.keep rf_fr (zfr (t := t)) (by decide +kernel) (by decide +kernel)
  unfold fPH_orderAt fM_orderAt
  rw [ltM_eq, q_z5, h9]
  generalize wI t 549 0 (cI 0) = t at *
  by_cases z : s.1 9 9 = 0
  rotate_left
  · rw [if_neg z, if_neg z, ok_some, ok_some]
  rw [if_pos z, if_pos z]
  obtain ⟨⟨n1, n2, n3⟩, g1, g2, g3, g4, g5, -⟩ := G
  rw [e_hasOrder n2, bd1_some, ite_bI, in_eq, bd1_some, ite_bI, n1]
  by_cases h1 : Has a (s.1 78 8)
  rotate_left
  · rw [if_neg h1, if_neg (fun u => h1 ((in_iff n2).mp u)), ok_some, ok_some]
  rw [if_pos h1, if_pos ((in_iff n2).mpr h1), outside_eq, bd1_some, ite_bI]
  have ab : inb a 60 = true := h1.inb n3
  have ax := h1.ix
  simp only [if_pos ab]
  by_cases h2 : InR b (cI 0) (cI 4)
  · rw [if_neg (fun u => u h2)]
    rcases in_04 h2 with u | u | u | u | u
    · rw [u, if_pos (by decide), if_pos rfl, ok_some, ok_some]; exact (g1 _ ax).symm
    · simp (decide := true) only [u, if_true, if_false, ite_true, ite_false, if_pos ab, bd1_some, ok_some]; exact (g2 _ ax).symm
    · simp (decide := true) only [u, if_true, if_false, ite_true, ite_false, if_pos ab, bd1_some, ok_some]; exact (g3 _ ax).symm
    · simp (decide := true) only [u, if_true, if_false, ite_true, ite_false, if_pos ab, bd1_some, ok_some]; exact (g4 _ ax).symm
    · simp (decide := true) only [u, if_true, if_false, ite_true, ite_false, if_pos ab, bd1_some, ok_some]; exact (g5 _ ax).symm
  · have nb : ∀ k : Int32, InR k (cI 0) (cI 4) → ¬ b = k := fun k hk u => h2 (by rw [u]; exact hk)
    rw [if_pos h2, if_neg (nb _ (by decide)), if_neg (nb _ (by decide)), if_neg (nb _ (by decide)), if_neg (nb _ (by decide)), if_neg (nb _ (by decide)), ok_some, ok_some]
theorem q_price {s t : ev_M} {a : Int32} (h9 : t.1 549 5 = s.1 9 9) (T : RTa s t) (I : RIt s t) : Ok (fPH_price s a) fun x => Ok (fM_price t a) fun z => x = z.2 := by
  have T := T.keep rf_fr (zfr (t := t)) (by decide +kernel) (by decide +kernel)
  have I := I.keep rf_fr (zfr (t := t)) (by decide +kernel) (by decide +kernel)
  unfold fPH_price fM_price
  rw [ltM_eq, q_z5, h9]
  generalize wI t 549 0 (cI 0) = t at *
  by_cases z : s.1 9 9 = 0
  rotate_left
  · rw [if_neg z, if_neg z, ok_some, ok_some]
  rw [if_pos z, if_pos z]
  obtain ⟨⟨m1, m2, m3⟩, -⟩ := id I
  rw [e_itemsHas m2, e_isItem (by rw [m1]; exact m2), m1, bd1_some, bd1_some, ite_bI, ite_bI]
  by_cases h1 : Has a (s.1 100 5)
  rotate_left
  · rw [if_neg h1, if_neg h1, ok_some, ok_some]
  obtain ⟨p, p1, p2, -⟩ := RTa.price T I h1
  rw [if_pos h1, if_pos h1, p1, p2, bd1_some, bd1_some, ok_some, ok_some]
end
