/-! ===== LEVEL 3: questions: where mail goes, items, lockers, notices ===== -/
section
variable {g n : Nat}
theorem ask_ok {s t : ev_M} {a b : Int32} {t0 : ev_M} (et : t0 = wI t 549 0 (cI 0)) (h9 : t.1 549 5 = s.1 9 9) (z : s.1 9 9 = 0) (hg : g < 2147483647) (h : RAk g s t) (P : RPo s t) (O : ROr s t) (T : RTim s t) : (∃ c : Int32, (c = cI (-101) ∨ c = cI (-102)) ∧ fBook_askedGoal s a b = some (s, c) ∧ ∀ k, fM_ask t a b k = some (t0, c)) ∨ ∃ (s' t' : ev_M) (v : Int32), fBook_askedGoal s a b = some (s', v) ∧ (∀ k, fM_ask t a b k = some (t', if k = 0 then v else s'.1 30 15)) ∧ ¬ v = cI (-101) ∧ ¬ v = cI (-102) ∧ RAk (g + 1) s' t' := by
  have h := h.keep rf_fr (zfr (t := t)) (by decide +kernel) (by decide +kernel)
  have P := P.keep rf_fr (zfr (t := t)) (by decide +kernel) (by decide +kernel)
  have O := O.keep rf_fr (zfr (t := t)) (by decide +kernel) (by decide +kernel)
  have T := T.keep rf_fr (zfr (t := t)) (by decide +kernel) (by decide +kernel)
  have kM : ∀ k, fM_ask t a b k = bd1 (fM_isPoint t0 a) fun v2 => if v2 = 0 then some (t0, cI (-101)) else bd1 (fM_in t0 b (cI 0) (cI 99)) fun v3 => if v3 = 0 then some (t0, cI (-102)) else bd2 (fM_effectiveOf t0 a b) fun s4 v5 => if k = 0 then some (s4, v5) else some (s4, s4.1 549 141) := by
    intro k
    unfold fM_ask
    rw [ltM_eq, q_z5, h9, if_pos z, et]
  simp only [kM]
  rw [← et] at h P O T
  obtain ⟨⟨n1, n2, n3⟩, -⟩ := id P
  unfold fBook_askedGoal
  have eP : fM_isPoint t0 a = some (bI (Has a (s.1 30 9))) := by rw [e_isPoint (by rw [n1]; exact n2), n1]
  simp only [e_hasPoint n2, eP, outside_eq, in_eq, bd1_some, ite_bI]
  by_cases h1 : Has a (s.1 30 9)
  rotate_left
  · exact Or.inl ⟨cI (-101), Or.inl rfl, by rw [if_neg h1], fun k => by rw [if_neg h1]⟩
  by_cases h2 : InR b (cI 0) (cI 99)
  rotate_left
  · exact Or.inl ⟨cI (-102), Or.inr rfl, by rw [if_pos h1, if_pos h2], fun k => by rw [if_pos h1, if_neg h2]⟩
  have nh2 : ¬ ¬ InR b (cI 0) (cI 99) := fun u => u h2
  obtain ⟨s', t', v, v1, v2, v3, v4, v5, v6, -⟩ := h.goal (w := b) hg h1 O T P
  have v5' := v5.1
  refine Or.inr ⟨s', t', v, by rw [if_pos h1, if_neg nh2, v1, bd2_some], fun k => ?_, ?_, ?_, v3⟩
  · rw [if_pos h1, if_pos h2, v2, bd2_some, v4]
    by_cases k0 : k = 0
    · rw [if_pos k0, if_pos k0]
    · rw [if_neg k0, if_neg k0]
  · rcases v6 with u | u | u
    · rw [u]; intro w; rw [w] at v5'; exact absurd v5' (by decide)
    · rw [u]; decide
    · rw [u]; decide
  · rcases v6 with u | u | u
    · rw [u]; intro w; rw [w] at v5'; exact absurd v5' (by decide)
    · rw [u]; decide
    · rw [u]; decide
theorem RAk.at {s t t' : ev_M} (h : RAk g s t) : RAk (g + 1) s t' := by
  have := RAk.mono h (Nat.le_succ g)
  exact this
theorem ask_off {t : ev_M} {a b k : Int32} (z : ¬ t.1 549 5 = 0) : fM_ask t a b k = some (wI t 549 0 (cI 0), cI (-105)) := by
  unfold fM_ask
  rw [ltM_eq, q_z5, if_neg z]
theorem q_effective {s t : ev_M} {a b : Int32} (h9 : t.1 549 5 = s.1 9 9) (hg : g < 2147483647) (h : RAk g s t) (P : RPo s t) (O : ROr s t) (T : RTim s t) : Ok (fPH_effective s a b) fun x => Ok (fM_effective t a b) fun z => x.2 = z.2 ∧ RAk (g + 1) x.1 z.1 := by
  unfold fPH_effective fM_effective
  by_cases z : s.1 9 9 = 0
  rotate_left
  · rw [if_neg z, ask_off (by rw [h9]; exact z), bd2_some, ok_some, ok_some]
    exact ⟨rfl, h.at⟩
  rw [if_pos z]
  rcases ask_ok (a := a) (b := b) rfl h9 z hg h P O T with ⟨c, c1, c2, c3⟩ | ⟨s', t', v, c1, c2, c3, c4, c5⟩
  · rw [c2, c3, bd2_some, bd2_some, ok_some, ok_some]
    exact ⟨rfl, h.at⟩
  · rw [c1, c2, bd2_some, bd2_some, ok_some, ok_some]
    exact ⟨rfl, c5⟩
theorem q_lastPoint {s t : ev_M} {a b : Int32} (h9 : t.1 549 5 = s.1 9 9) (hg : g < 2147483647) (h : RAk g s t) (P : RPo s t) (O : ROr s t) (T : RTim s t) : Ok (fPH_lastPoint s a b) fun x => Ok (fM_lastPoint t a b) fun z => x.2 = z.2 ∧ RAk (g + 1) x.1 z.1 := by
  unfold fPH_lastPoint fM_lastPoint
  by_cases z : s.1 9 9 = 0
  rotate_left
  · rw [if_neg z, ask_off (by rw [h9]; exact z), bd2_some, ok_some, ok_some]
    exact ⟨rfl, h.at⟩
  rw [if_pos z]
  rcases ask_ok (a := a) (b := b) rfl h9 z hg h P O T with ⟨c, c1, c2, c3⟩ | ⟨s', t', v, c1, c2, c3, c4, c5⟩
  · simp only [c2, c3, bd2_some, fPH_lastPoint_b35]
    rcases c1 with u | u
    · rw [if_pos u, ok_some, ok_some]
      exact ⟨rfl, h.at⟩
    · rw [if_neg (by rw [u]; decide), if_pos u, ok_some, ok_some]
      exact ⟨rfl, h.at⟩
  · simp only [c1, c2, bd2_some, if_neg c3, if_neg c4]
    rw [ok_some, ok_some]
    exact ⟨rfl, c5⟩
theorem in_16 {b : Int32} (h : InR b (cI 0) (cI 16)) : ∃ k : Nat, k < 17 ∧ b = cI (k : Int) := by
  obtain ⟨h1, h2⟩ := h
  rw [show (cI 0).toInt = 0 from rfl] at h1
  rw [show (cI 16).toInt = 16 from rfl] at h2
  have := ix_toNat b
  exact ⟨ix b, by omega, (cI_ix h1).symm⟩
theorem q_about {s t : ev_M} {a b : Int32} (h9 : t.1 549 5 = s.1 9 9) (hg : g < 2147483647) (h : RAk g s t) (P : RPo s t) (O : ROr s t) (T : RTim s t) (I : RIt s t) (R : RIr s t) (U : RCu s t) (W : RTa s t) : Ok (fPH_about s a b) fun x => Ok (fM_about t a b) fun z => x.2 = z.2 ∧ RAk (g + 1) x.1 z.1 := by
  have h := h.keep rf_fr (zfr (t := t)) (by decide +kernel) (by decide +kernel)
  have P := P.keep rf_fr (zfr (t := t)) (by decide +kernel) (by decide +kernel)
  have O := O.keep rf_fr (zfr (t := t)) (by decide +kernel) (by decide +kernel)
  have T := T.keep rf_fr (zfr (t := t)) (by decide +kernel) (by decide +kernel)
  have I := I.keep rf_fr (zfr (t := t)) (by decide +kernel) (by decide +kernel)
  have R := R.keep rf_fr (zfr (t := t)) (by decide +kernel) (by decide +kernel)
  have U := U.keep rf_fr (zfr (t := t)) (by decide +kernel) (by decide +kernel)
  have W := W.keep rf_fr (zfr (t := t)) (by decide +kernel) (by decide +kernel)
  unfold fPH_about fM_about
  rw [ltM_eq, q_z5, h9]
  generalize wI t 549 0 (cI 0) = t at *
  have same : ∀ c : Int32, Ok (some (s, c)) fun x => Ok (some (t, c)) fun z => x.2 = z.2 ∧ RAk (g + 1) x.1 z.1 := fun c => by rw [ok_some, ok_some]; exact ⟨rfl, h.at⟩
  by_cases z : s.1 9 9 = 0
  rotate_left
  · rw [if_neg z, if_neg z]; exact same _
  rw [if_pos z, if_pos z]
  obtain ⟨⟨m1, m2, m3⟩, i1, i2, i3, i4, i5, i6, i7, i8, i9, -⟩ := id I
  obtain ⟨r1, r2, r3, r4, r5, r6, -, -, -, r12, -⟩ := id R
  rw [e_itemsHas m2, e_isItem (by rw [m1]; exact m2), m1, bd1_some, bd1_some, ite_bI, ite_bI]
  by_cases h1 : Has a (s.1 100 5)
  rotate_left
  · rw [if_neg h1, if_neg h1]; exact same _
  rw [if_pos h1, if_pos h1]
  have ab : inb a 300 = true := h1.inb m3
  have ax := h1.ix
  unfold fItems_tellAbout
  rw [outside_eq, bd1_some, ite_bI]
  simp only [if_pos ab]
  by_cases h2 : InR b (cI 0) (cI 16)
  rotate_left
  · have nb : ∀ k : Int32, InR k (cI 0) (cI 16) → ¬ b = k := fun k hk u => h2 (by rw [u]; exact hk)
    rw [if_pos h2, if_neg (nb _ (by decide)), if_neg (nb _ (by decide)), if_neg (nb _ (by decide)), if_neg (nb _ (by decide)), if_neg (nb _ (by decide)), if_neg (nb _ (by decide)), if_neg (nb _ (by decide)), if_neg (nb _ (by decide)), if_neg (nb _ (by decide)), if_neg (nb _ (by decide)), if_neg (nb _ (by decide)), if_neg (nb _ (by decide)), if_neg (nb _ (by decide)), if_neg (nb _ (by decide)), if_neg (nb _ (by decide)), if_neg (nb _ (by decide)), if_neg (nb _ (by decide)), bd2_some]
    exact same _
  rw [if_neg (fun u => u h2)]
  have st : ∀ c d : Int32, c = d → Ok (some (s, c)) fun x => Ok (some (t, d)) fun z => x.2 = z.2 ∧ RAk (g + 1) x.1 z.1 := fun c d e => by rw [e]; exact same d
  obtain ⟨k, hk, rfl⟩ := in_16 h2
  obtain rfl | rfl | rfl | rfl | rfl | rfl | rfl | rfl | rfl | rfl | rfl | rfl | rfl | rfl | rfl | rfl | rfl : k = 0 ∨ k = 1 ∨ k = 2 ∨ k = 3 ∨ k = 4 ∨ k = 5 ∨ k = 6 ∨ k = 7 ∨ k = 8 ∨ k = 9 ∨ k = 10 ∨ k = 11 ∨ k = 12 ∨ k = 13 ∨ k = 14 ∨ k = 15 ∨ k = 16 := by omega
  · exact st _ _ (i1 _ ax).symm
  · exact st _ _ (i2 _ ax).symm
  · exact st _ _ (i3 _ ax).symm
  · exact st _ _ (i4 _ ax).symm
  · exact st _ _ (i5 _ ax).symm
  · exact st _ _ (i6 _ ax).symm
  · exact st _ _ (i7 _ ax).symm
  · exact st _ _ (i8 _ ax).symm
  · exact st _ _ (r1 _ ax).symm
  · exact st _ _ (r2 _ ax).symm
  · have b12 := r12 _ ax
    show Ok (some (s, s.1 112 (ix a))) fun x => Ok (if t.1 599 (ix a) = 0 then some (t, cI 0) else some (t, cI 1)) fun z => x.2 = z.2 ∧ RAk (g + 1) x.1 z.1
    rw [r3 _ ax]
    by_cases u : s.1 112 (ix a) = 0
    · rw [if_pos u, u]; exact same _
    · rw [if_neg u]
      refine st _ _ ?_
      rw [eq_i, show (0 : Int32).toInt = 0 from rfl] at u
      rw [eq_i, show (cI 1).toInt = 1 from rfl]
      omega
  · exact st _ _ (r4 _ ax).symm
  · obtain ⟨s', t', v, v1, v2, v3, -⟩ := h.itm hg h1 I R U O T P
    show Ok (bd2 (bd2 (fItems_goalOf s a) fun s2 v3 => some (s2, v3)) fun s2 v3 => some (s2, v3)) fun x => Ok (bd2 (fM_goalOf t a) fun s3 v4 => some (s3, v4)) fun z => x.2 = z.2 ∧ RAk (g + 1) x.1 z.1
    rw [v1, v2, bd2_some, bd2_some, bd2_some, ok_some, ok_some]
    exact ⟨rfl, v3⟩
  · exact st _ _ (i9 _ ax).symm
  · exact st _ _ (r5 _ ax).symm
  · exact st _ _ (r6 _ ax).symm
  · obtain ⟨p, c, v1, v2, v3, v4, -⟩ := RTa.due W I R h1
    show Ok (bd2 (bd1 (fItems_priceDue s a) fun v4 => bd1 (fItems_centsDue s a) fun v5 => some (s, v4 + v5)) fun s2 v3 => some (s2, v3)) fun x => Ok (bd1 (fM_priceDue t a) fun v5 => bd1 (fM_centsDue t a) fun v6 => some (t, v5 + v6)) fun z => x.2 = z.2 ∧ RAk (g + 1) x.1 z.1
    rw [v1, v2, v3, v4, bd1_some, bd1_some, bd1_some, bd1_some, bd2_some]
    exact same _
theorem fbx_lp {s t : ev_M} {l b : Int32} {N : Nat} (hN : N ≤ 10) (lb : inb l 8 = true) (e1 : s.1 127 (ix l) = cI (N : Int)) (e2 : t.1 624 (ix l) = cI (N : Int)) (hb : ∀ j : Nat, j < N → fM_inBox t l (cI (j : Int)) = some (s.1 (130 + ix l) j)) : ∀ (r m m' k c : Nat), k + r = N → r < m → r < m' → c ≤ k → ∃ v : Int32, fLock_freeBoxes_h4 s m l (cI (c : Int)) (cI (k : Int)) = some v ∧ fM_lockerAt_h31 m' t l b (cI (c : Int)) (cI (k : Int)) = fM_lockerAt_h31 1 t l b v (cI (N : Int)) := by
  intro r
  induction r with
  | zero =>
    intro m m' k c hk hm hm' hc
    obtain ⟨m, rfl⟩ : ∃ k, m = k + 1 := ⟨m - 1, by omega⟩
    obtain ⟨m', rfl⟩ : ∃ k, m' = k + 1 := ⟨m' - 1, by omega⟩
    have nl : ¬ cI (N : Int) < cI (N : Int) := by rw [lt_i]; exact Int.lt_irrefl _
    refine ⟨cI (c : Int), ?_, ?_⟩
    · rw [fLock_freeBoxes_h4, if_pos lb, e1, show k = N by omega, if_neg nl]
    · rw [show k = N by omega, fM_lockerAt_h31, fM_lockerAt_h31]
      simp only [if_pos lb, e2, if_neg nl]
  | succ r ih =>
    intro m m' k c hk hm hm' hc
    obtain ⟨m, rfl⟩ : ∃ k, m = k + 1 := ⟨m - 1, by omega⟩
    obtain ⟨m', rfl⟩ : ∃ k, m' = k + 1 := ⟨m' - 1, by omega⟩
    have lt : cI (k : Int) < cI (N : Int) := (q_lt (by omega) (by omega)).mpr (by omega)
    have kb : inb (cI (k : Int)) 10 = true := q_in (by omega) (by decide)
    have kx : ix (cI (k : Int)) = k := q_ix (by omega)
    have i0 := fun c hc => ih m m' (k + 1) c (by omega) (by omega) (by omega) hc
    rw [fLock_freeBoxes_h4, if_pos lb, e1, if_pos lt, if_pos lb, if_pos kb, kx, fM_lockerAt_h31, if_pos lb, e2, if_pos lt, hb k (by omega), bd1_some]
    unfold fLock_freeBoxes_b29 fM_lockerAt_b60
    rw [q_s (show k < 99999 by omega), q_s (show c < 99999 by omega)]
    by_cases y : s.1 (130 + ix l) k = cI (-1)
    · rw [if_pos y, if_pos y]; exact i0 (c + 1) (by omega)
    · rw [if_neg y, if_neg y]; exact i0 c (by omega)
theorem q_lockerAt {s t : ev_M} {a b : Int32} (h9 : t.1 549 5 = s.1 9 9) (K : RLk s t) (B : RBx s t) (I : RIt s t) : Ok (fPH_lockerAt s a b) fun x => Ok (fM_lockerAt t a b) fun z => x = z.2 := by
  have K := K.keep rf_fr (zfr (t := t)) (by decide +kernel) (by decide +kernel)
  have B := B.keep rf_fr (zfr (t := t)) (by decide +kernel) (by decide +kernel)
  have I := I.keep rf_fr (zfr (t := t)) (by decide +kernel) (by decide +kernel)
  unfold fPH_lockerAt fM_lockerAt
  rw [ltM_eq, q_z5, h9]
  generalize wI t 549 0 (cI 0) = t at *
  by_cases z : s.1 9 9 = 0
  rotate_left
  · rw [if_neg z, if_neg z, ok_some, ok_some]
  rw [if_pos z, if_pos z]
  obtain ⟨⟨m1, m2, m3⟩, -⟩ := I
  obtain ⟨⟨n1, n2, n3⟩, g1, g2, g3, -, b2, -⟩ := K
  rw [e_lockHas n2, e_isLocker (by rw [n1]; exact n2), n1, bd1_some, bd1_some, ite_bI, ite_bI]
  by_cases h1 : Has a (s.1 125 3)
  rotate_left
  · rw [if_neg h1, if_neg h1, ok_some, ok_some]
  rw [if_pos h1, if_pos h1]
  have ab : inb a 8 = true := h1.inb n3
  have ax := h1.ix
  obtain ⟨c1, c2⟩ := b2 _ ax
  have nx := ix_toNat (s.1 127 (ix a))
  have e1 : s.1 127 (ix a) = cI ((ix (s.1 127 (ix a)) : Nat) : Int) := (cI_ix (by omega)).symm
  obtain ⟨v, v1, v2⟩ := fbx_lp (s := s) (t := t) (l := a) (b := b) (N := ix (s.1 127 (ix a))) (by omega) ab e1 ((g2 _ ax).trans e1) (fun j hj => by
    have := (B.at m1 m2 m3 h1 n3 (b := cI (j : Int)) ⟨by rw [q_ti (by omega)]; omega, by rw [q_ti (by omega)]; omega⟩).1
    rw [q_ix (by omega)] at this
    exact this) (ix (s.1 127 (ix a))) 1048576 1048576 0 0 (by omega) (by omega) (by omega) (Nat.le_refl _)
  have v1' : fLock_freeBoxes s a = some v := v1
  have v2' : fM_lockerAt_h31 1048576 t a b (cI 0) (cI 0) = _ := v2
  rw [v2', ← e1, fM_lockerAt_h31, if_pos ab, g2 _ ax, if_neg (by rw [lt_i]; exact Int.lt_irrefl _), if_pos ab, if_pos ab, if_pos ab, g1 _ ax, g3 _ ax]
  unfold fLock_tell
  rw [if_pos ab, if_pos ab, if_pos ab, v1', bd1_some]
  by_cases b0 : b = cI 0
  · simp (decide := true) only [b0, if_true, if_false, ite_true, ite_false, bd1_some, ok_some]
  by_cases b1 : b = cI 1
  · simp (decide := true) only [b1, if_true, if_false, ite_true, ite_false, bd1_some, ok_some]
  by_cases b2 : b = cI 2
  · simp (decide := true) only [b2, if_true, if_false, ite_true, ite_false, bd1_some, ok_some]
  by_cases b3 : b = cI 3
  · simp (decide := true) only [b3, if_true, if_false, ite_true, ite_false, bd1_some, ok_some]
  rw [if_neg b0, if_neg b1, if_neg b2, if_neg b3, if_neg (show ¬ b = 0 from b0), if_neg b1, if_neg b2, if_neg b3, bd1_some, ok_some, ok_some]
theorem q_notice {s t : ev_M} {a b : Int32} (h9 : t.1 549 5 = s.1 9 9) (N : RNt n s t) (I : RIt s t) : Ok (fPH_notice s a b) fun x => Ok (fM_notice t a b) fun z => x = z.2 := by
  have N := N.keep rf_fr (zfr (t := t)) (by decide +kernel) (by decide +kernel)
  have I := I.keep rf_fr (zfr (t := t)) (by decide +kernel) (by decide +kernel)
  unfold fPH_notice fM_notice
  rw [ltM_eq, q_z5, h9]
  generalize wI t 549 0 (cI 0) = t at *
  by_cases z : s.1 9 9 = 0
  rotate_left
  · rw [if_neg z, if_neg z, ok_some, ok_some]
  rw [if_pos z, if_pos z]
  obtain ⟨⟨n1, n2, n3⟩, g1, g2, g3, g4⟩ := N
  obtain ⟨⟨m1, m2, m3⟩, -, -, -, -, i5, -⟩ := I
  obtain ⟨v, v1, v2⟩ := e_min (s := s) (a := s.1 15 7) (b := cI 3000)
  have e3 : (cI 3000).toInt = 3000 := rfl
  rw [e3] at v2
  have kM : ∀ X Y : Int32, (if t.1 549 134 < cI 3000 then fM_notice_b49 t a b X Y (t.1 549 134) else fM_notice_b49 t a b X Y (cI 3000)) = fM_notice_b49 t a b X Y v := by
    intro X Y
    rw [n1]
    by_cases y : s.1 15 7 < cI 3000
    · rw [if_pos y]
      rw [lt_i, e3] at y
      rw [if_pos (by omega)] at v2
      rw [show v = s.1 15 7 from eq_i.mpr v2]
    · rw [if_neg y]
      rw [lt_i, e3] at y
      have : v.toInt = 3000 := by
        rw [v2]; split <;> omega
      rw [show v = cI 3000 from eq_i.mpr (this.trans e3.symm)]
  have hk : ix v = kept (s.1 15 7) 3000 := by
    have x1 := ix_toNat v
    have x2 := ix_toNat (s.1 15 7)
    unfold kept
    split at v2 <;> split <;> omega
  have v0 : 0 ≤ v.toInt ∧ v.toInt ≤ 3000 := by split at v2 <;> omega
  unfold fChron_tellNotice
  rw [kM, v1, outside_eq, bd1_some, bd1_some, ite_bI, in_eq, bd1_some, ite_bI]
  by_cases h1 : InR b (cI 0) (cI 3)
  rotate_left
  · rw [if_pos h1, if_neg h1, bd1_some, ok_some, ok_some]
  unfold fM_notice_b49
  rw [if_neg (fun u => u h1), if_pos h1, outside_eq, bd1_some, ite_bI, in_eq, bd1_some, ite_bI]
  by_cases h2 : InR a (cI 0) (v - cI 1)
  rotate_left
  · rw [if_pos h2, if_neg h2, bd1_some, ok_some, ok_some]
  rw [if_neg (fun u => u h2), if_pos h2]
  have ha : Has a v := (in_iff v0.1).mp h2
  have ab : inb a 3000 = true := ha.inb v0.2
  have ax : ix a < kept (s.1 15 7) 3000 := by rw [← hk]; exact ha.ix
  obtain ⟨w1, w2⟩ := g4 _ ax
  have wb : inb (s.1 25 (ix a)) 300 = true := w1.inb m3
  have wx := i5 _ w1.ix
  simp only [if_pos ab, g1 _ ax, if_pos wb, wx]
  rcases in_03 h1 with u | u | u | u
  · simp (decide := true) only [u, if_true, if_false, ite_true, ite_false, bd1_some, ok_some]; exact w2
  · simp (decide := true) only [u, if_true, if_false, ite_true, ite_false, bd1_some, ok_some]; rfl
  · simp (decide := true) only [u, if_true, if_false, ite_true, ite_false, bd1_some, ok_some]; exact (g2 _ ax).symm
  · simp (decide := true) only [u, if_true, if_false, ite_true, ite_false, bd1_some, ok_some]; exact (g3 _ ax).symm
end
