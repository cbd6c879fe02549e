/-! ===== LEVEL 3: the blocks of the log, one after another, done again ===== -/
/-- what is gathered of the log -/
def RAo (U : Nat) (s t : ev_M) : Prop := t.1 549 20 = cI (U : Int) ∧ s.1 9 6 = cI (U : Int) ∧ ∀ i, i < U → t.1 557 i = s.1 13 i
/-- what the reference does with a block gathered -/
def KM (k103 : ev_M → Int32 → Int32 → Option (ev_M × Int32)) (x1 x2 : Int32) (t : ev_M) : Option (ev_M × Int32) :=
  bd1 (fM_at t x2 (cI 2)) fun v5 => if v5 = cI 1 then bd2 (fM_again t) fun s6 v7 => ltI (x1 + v7) fun v8 => ltM (wI s6 549 20 (cI 0)) fun s9 => fM_start_b184 k103 s9 v8 x2 else fM_start_b184 k103 t x1 x2
theorem ga_lp {U k n : Nat} {x1 : Int32} {k103 : ev_M → Int32 → Int32 → Option (ev_M × Int32)} (hk : 1 ≤ k) (hk2 : k ≤ 150) (hn : n ≤ 248) (hU : U + n ≤ 37200) : ∀ (r m m' i : Nat) (s t : ev_M), i + r = n → r < m → r < m' → RAo (U + i) s t → RDsk s t → s.1 10 ((k - 1) * 256 + 3) &&& cI 255 = cI (n : Int) → ∃ s' t', fLog_gather_h9 m s (cI (k : Int)) (cI (n : Int)) (cI (i : Int)) = some s' ∧ fM_start_h113 k103 m' t x1 (cI (k : Int)) (cI (i : Int)) = KM k103 x1 (cI (k : Int)) t' ∧ RAo (U + n) s' t' ∧ fr [(9, 9, 7), (13, 13, 0)] s s' ∧ fr [(549, 549, 21), (557, 557, 0)] t t' := by
  intro r
  induction r with
  | zero =>
    intro m m' i s t hi hm hm' hA D hl
    obtain ⟨m, rfl⟩ : ∃ k, m = k + 1 := ⟨m - 1, by omega⟩
    obtain ⟨m', rfl⟩ : ∃ k, m' = k + 1 := ⟨m' - 1, by omega⟩
    obtain rfl : i = n := by omega
    have M3 : fM_at t (cI (k : Int)) (cI 3) = some (cI (i : Int)) := by have := at_M D (j := 3) hk hk2 (by decide); rw [hl] at this; exact this
    refine ⟨s, t, ?_, ?_, hA, fr.rf, fr.rf⟩
    · rw [fLog_gather_h9, if_neg (by rw [lt_i]; omega)]
    · rw [fM_start_h113, M3, bd1_some, if_neg (by rw [lt_i]; omega)]
      rfl
  | succ r ih =>
    intro m m' i s t hi hm hm' hA D hl
    obtain ⟨m, rfl⟩ : ∃ k, m = k + 1 := ⟨m - 1, by omega⟩
    obtain ⟨m', rfl⟩ : ∃ k, m' = k + 1 := ⟨m' - 1, by omega⟩
    have M3 : fM_at t (cI (k : Int)) (cI 3) = some (cI (n : Int)) := by have := at_M D (j := 3) hk hk2 (by decide); rw [hl] at this; exact this
    obtain ⟨r1, r2, r3⟩ := id hA
    have lt : cI (i : Int) < cI (n : Int) := (q_lt (by omega) (by omega)).mpr (by omega)
    have d := D.1 ((k - 1) * 256 + (4 + i)) (by omega)
    rw [show (k - 1) * 256 + (4 + i) + 256 = 256 * k + 4 + i by omega] at d
    have eM : cI 256 * cI (k : Int) + cI 4 + cI (i : Int) = cI ((256 * k + 4 + i : Nat) : Int) := by
      rw [show cI 256 * cI (k : Int) = cI ((256 * k : Nat) : Int) from q_mul0 (a := 256) (by decide) (by omega) (by omega), show cI ((256 * k : Nat) : Int) + cI 4 = cI ((256 * k + 4 : Nat) : Int) from q_ad (b := 4) (by omega), q_ad (by omega)]
    obtain ⟨S, eS⟩ : ∃ S, S = wI (wI s 9 6 (cI ((U + i + 1 : Nat) : Int))) 13 (U + i) (i2b (i2b (s.1 10 ((k - 1) * 256 + (4 + i)) &&& cI 255))) := ⟨_, rfl⟩
    obtain ⟨T, eT⟩ : ∃ T, T = wI (wI t 557 (U + i) (i2b (t.1 551 (256 * k + 4 + i)))) 549 20 (cI ((U + i + 1 : Nat) : Int)) := ⟨_, rfl⟩
    have fS : fr [(9, 9, 7), (13, 13, 0)] s S := by rw [eS]; exact (fr.rf.wI rfl).wI rfl
    have fT : fr [(549, 549, 21), (557, 557, 0)] t T := by rw [eT]; exact (fr.rf.wI rfl).wI rfl
    have S10 : S.1 10 = s.1 10 := (nof_c fS (L := [(10, 0)]) (by decide +kernel) (c := 10) rfl).1
    obtain ⟨s', t', a1, a2, a3, a4, a5⟩ := ih m m' (i + 1) S T (by omega) (by omega) (by omega) ⟨by rw [eT, wI_c, up1_eq, Nat.add_assoc], by rw [eS, wI_ne (by decide), wI_c, up1_eq, Nat.add_assoc], fun j hj => by
      rw [eT, wI_ne (by decide), wI_c, eS, wI_c, wI_ne (by decide)]
      by_cases z : j = U + i
      · rw [z, up1_eq, up1_eq, i2b_and, d]
      · rw [up1_ne z, up1_ne z]; exact r3 j (by omega)⟩ (RDsk_of D S10 (nof_c fS (L := [(11, 0)]) (by decide +kernel) (c := 11) rfl).1 (fS.1 9 10 (by decide +kernel)).1 (fS.1 9 11 (by decide +kernel)).1 (nof_c fT (L := [(551, 0)]) (by decide +kernel) (c := 551) rfl).1 (nof_c fT (L := [(555, 0)]) (by decide +kernel) (c := 555) rfl).1 (fT.1 549 6 (by decide +kernel)).1 (fT.1 549 7 (by decide +kernel)).1) (by rw [S10]; exact hl)
    refine ⟨s', t', ?_, ?_, a3, fS.tr a4, fT.tr a5⟩
    · rw [← a1, fLog_gather_h9, if_pos lt, show cI 4 + cI (i : Int) = cI ((4 + i : Nat) : Int) from q_ad (a := 4) (by omega), at_C hk hk2 (by omega), bd1_some]
      unfold fLog_append
      rw [r2, if_pos (by rw [lt_i, q_ti (by omega), show (cI 37200).toInt = 37200 from rfl]; omega), ltM_eq, if_pos (q_in (by omega) (by decide)), q_ix (by omega), ltM_eq, bd1_some, q_s (by omega), q_s (by omega), ← eS]
    · rw [← a2, fM_start_h113, M3, bd1_some, if_pos lt, eM, if_pos (q_in (by omega) (by decide)), r1, if_pos (q_in (by omega) (by decide)), q_ix (by omega), q_ix (by omega), ltM_eq, ltM_eq, wI_ne (show (549 : Nat) ≠ 557 by decide), r1, q_s (by omega), q_s (by omega), ← eT]
/-- block after block -/
theorem bl_lp {b q0 : Nat} (hb : b ≤ 150) (hq0 : q0 ≤ 819500) : ∀ (r m m' k q U : Nat) (s t : ev_M) (c : Int32), k + r = b + 1 → r < m → r < m' → 1 ≤ k → RPy b s t → RAo U s t → s.1 9 8 = cI 0 → s.1 9 13 = c → RH q s t → 3 * q + U ≤ 3 * q0 + 248 * (k - 1) → U ≤ 248 * (k - 1) → (U = 0 ∨ k ≤ b) → (∀ j, 1 ≤ j → j ≤ b → ∃ n : Nat, 1 ≤ n ∧ n ≤ 248 ∧ s.1 10 ((j - 1) * 256 + 3) &&& cI 255 = cI (n : Int)) → (b = 0 ∨ s.1 10 ((b - 1) * 256 + 2) &&& cI 255 = cI 1) → ∃ (S T : ev_M) (q' : Nat) (v : Int32), fPH_start_h26 m s (cI (k : Int)) = some (S, v) ∧ fM_start_h103 m' t c (cI (k : Int)) = some (T, v) ∧ RLog S T ∧ RH q' S T ∧ q' ≤ q0 + 12400 := by
  intro r
  induction r with
  | zero =>
    intro m m' k q U s t c hk hm hm' h1 hP hA h8 h13 hR hq hU hUb hL hLast
    obtain ⟨m, rfl⟩ : ∃ k, m = k + 1 := ⟨m - 1, by omega⟩
    obtain ⟨m', rfl⟩ : ∃ k, m' = k + 1 := ⟨m' - 1, by omega⟩
    obtain ⟨a1, a2, a3, a4, a5, a6, a7, a8, a9, D⟩ := hP
    obtain ⟨r1, r2, r3⟩ := hA
    obtain rfl : U = 0 := by omega
    have nl : ¬ cI (k : Int) ≤ cI (b : Int) := by rw [le_i, q_ti (by omega), q_ti (by omega)]; omega
    obtain ⟨S, eS⟩ : ∃ S, S = wI (wI s 9 12 (cI 0)) 9 9 (cI 0) := ⟨_, rfl⟩
    have fS : fr [(9, 9, 10), (9, 9, 13)] s S := by rw [eS]; exact (fr.rf.wI rfl).wI rfl
    have k9 : ∀ j, j ≠ 12 → j ≠ 9 → S.1 9 j = s.1 9 j := fun j x1 x2 => by rw [eS, wI_c, up1_ne x2, wI_c, up1_ne x1]
    have kn : ∀ j, j ≠ 9 → S.1 j = s.1 j := fun j hj => by rw [eS, wI_ne hj, wI_ne hj]
    refine ⟨S, t, q, c, ?_, ?_, ?_, hR.keep fS fr.rf (G := []) (by decide +kernel) (by decide +kernel), by omega⟩
    · rw [fPH_start_h26, a2, if_neg nl]
      unfold fLog_endAgain
      rw [ltM_eq, ltM_eq, bd2_some, ← eS]
      show some (S, S.1 9 13) = _
      rw [k9 13 (by decide) (by decide), h13]
    · rw [fM_start_h103, a3, if_neg nl]
    · refine ⟨fun j hj => by rw [kn 1003 (by decide)]; exact a1 j hj, ⟨by rw [a9, eS, wI_c, up1_eq], Or.inl (by rw [eS, wI_c, up1_eq]; rfl)⟩, ⟨by rw [a3, k9 4 (by decide) (by decide), a2], ?_⟩, ⟨by rw [a6, k9 6 (by decide) (by decide), r2]; rfl, by rw [k9 6 (by decide) (by decide), r2]; decide, ?_⟩, ?_, by rw [a7, k9 7 (by decide) (by decide), a8], by rw [eS, wI_c, up1_ne (by decide), wI_c, up1_eq]; rfl, RDsk_of D (kn 10 (by decide)) (kn 11 (by decide)) (k9 10 (by decide) (by decide)) (k9 11 (by decide) (by decide)) rfl rfl rfl rfl⟩
      · rw [k9 4 (by decide) (by decide), a2]
        exact ⟨by rw [q_ti (by omega)]; omega, by rw [q_ti (by omega)]; omega⟩
      · rw [k9 6 (by decide) (by decide), r2]
        exact fun i hi => absurd hi (Nat.not_lt_zero _)
      · rw [k9 6 (by decide) (by decide), r2, k9 4 (by decide) (by decide), a2, q_ti (by omega), q_ti (by omega)]; omega
  | succ r ih =>
    intro m m' k q U s t c hk hm hm' h1 hP hA h8 h13 hR hq hU hUb hL hLast
    obtain ⟨m, rfl⟩ : ∃ k, m = k + 1 := ⟨m - 1, by omega⟩
    obtain ⟨m', rfl⟩ : ∃ k, m' = k + 1 := ⟨m' - 1, by omega⟩
    obtain ⟨a1, a2, a3, a4, a5, a6, a7, a8, a9, D⟩ := id hP
    have yl : cI (k : Int) ≤ cI (b : Int) := by rw [le_i, q_ti (by omega), q_ti (by omega)]; omega
    obtain ⟨n, n1, n2, n3⟩ := hL k h1 (by omega)
    have C3 : fLog_byteAt s (cI (k : Int)) (cI 3) = some (cI (n : Int)) := by have := at_C (s := s) (j := 3) h1 (show k ≤ 150 by omega) (by decide); rw [n3] at this; exact this
    obtain ⟨S, T, b1, b2, b3, b4, b5⟩ := ga_lp (U := U) (k := k) (n := n) (x1 := c) (k103 := fM_start_h103 m') h1 (by omega) n2 (by omega) n 1048576 1048576 0 s t (by omega) (by omega) (by omega) hA D n3
    have b1 : fLog_gather_h9 1048576 s (cI (k : Int)) (cI (n : Int)) (cI 0) = _ := b1
    have b2 : fM_start_h113 (fM_start_h103 m') 1048576 t c (cI (k : Int)) (cI 0) = _ := b2
    have S10 : S.1 10 = s.1 10 := (nof_c b4 (L := [(10, 0)]) (by decide +kernel) (c := 10) rfl).1
    have PS : RPy b S T := hP.to (fun j hj => (b4.1 9 j (by rcases hj with rfl | rfl | rfl | rfl | rfl <;> decide +kernel)).1) S10 (nof_c b4 (L := [(11, 0)]) (by decide +kernel) (c := 11) rfl).1 (nof_c b4 (L := [(1003, 0)]) (by decide +kernel) (c := 1003) rfl).1 b5 (by decide +kernel)
    have RS : RH q S T := hR.keep b4 b5 (by decide +kernel) (by decide +kernel)
    have S8 : S.1 9 8 = cI 0 := by rw [(b4.1 9 8 (by decide +kernel)).1]; exact h8
    have S13 : S.1 9 13 = c := by rw [(b4.1 9 13 (by decide +kernel)).1]; exact h13
    have lst := last_ok (s := S) h1 (show k ≤ 150 by omega)
    have M2 : fM_at T (cI (k : Int)) (cI 2) = some (S.1 10 ((k - 1) * 256 + 2) &&& cI 255) := at_M PS.2.2.2.2.2.2.2.2.2 (j := 2) h1 (by omega) (by decide)
    rw [fPH_start_h26, a2, if_pos yl]
    unfold fLog_gather
    rw [C3, bd1_some, b1, bd1_some, lst, bd1_some, fM_start_h103, a3, if_pos yl, b2]
    unfold KM fM_start_b184
    rw [M2, bd1_some]
    by_cases z : S.1 10 ((k - 1) * 256 + 2) &&& cI 255 = cI 1
    · rw [if_pos z, if_neg (show ¬ cI 1 = 0 by decide), if_pos z]
      obtain ⟨r1, r2, r3⟩ := id b3
      obtain ⟨T0, eT0⟩ : ∃ T0, T0 = wI T 549 21 (cI 0) := ⟨_, rfl⟩
      have fT0 : fr [(549, 549, 22)] T T0 := by rw [eT0]; exact fr.rf.wI rfl
      have P0 : RPy b S T0 := PS.to (fun _ _ => rfl) rfl rfl rfl fT0 (by decide +kernel)
      have R0 : RH q S T0 := RS.keep fr.rf fT0 (F := []) (by decide +kernel) (by decide +kernel)
      obtain ⟨S1, T1, q', c', u1, u2, u3, u4, u5, u6, u7⟩ := ag_lp (b := b) (U := U + n) hb (x1 := cI (k : Int)) (k26 := fPH_start_h26 m) (U + n) 1048576 1048576 0 q 0 S T0 c (cI 0) (by omega) (by omega) (by omega) (Nat.le_refl _) (by omega) P0 ⟨by rw [eT0, wI_c, up1_ne (by decide)]; exact r1, r2, by rw [eT0, wI_c, up1_eq]; rfl, S8, by omega, by omega, fun i hi => by rw [eT0, wI_ne (by decide)]; exact r3 i hi⟩ R0 (by rw [S13]; exact (Int32.add_zero c).symm)
      have u1 : fPH_start_h58 (fPH_start_h26 m) 1048576 S (cI (k : Int)) (cI 0) = _ := u1
      have u2' : fM_again T = some (T1, c') := by
        unfold fM_again
        rw [ltM_eq, ← eT0]; exact u2
      rw [u1, u2', bd2_some, ltI_eq, ltM_eq]
      unfold fPH_start_b93 fPH_start_b100 fLog_forgetGathered
      rw [ltM_eq, ltM_eq, ltM_eq, bd1_some]
      obtain ⟨S2, eS2⟩ : ∃ S2, S2 = wI (wI (wI S1 9 6 (cI 0)) 9 7 (cI 0)) 9 8 (cI 0) := ⟨_, rfl⟩
      obtain ⟨T2, eT2⟩ : ∃ T2, T2 = wI T1 549 20 (cI 0) := ⟨_, rfl⟩
      have fS2 : fr [(9, 9, 7), (9, 9, 8), (9, 9, 9)] S1 S2 := by rw [eS2]; exact ((fr.rf.wI rfl).wI rfl).wI rfl
      have fT2 : fr [(549, 549, 21)] T1 T2 := by rw [eT2]; exact fr.rf.wI rfl
      have k9 : ∀ j, j ≠ 6 → j ≠ 7 → j ≠ 8 → S2.1 9 j = S1.1 9 j := fun j x1 x2 x3 => by rw [eS2, wI_c, up1_ne x3, wI_c, up1_ne x2, wI_c, up1_ne x1]
      have kn : ∀ j, j ≠ 9 → S2.1 j = S1.1 j := fun j hj => by rw [eS2, wI_ne hj, wI_ne hj, wI_ne hj]
      have k7 : S2.1 9 7 = S1.1 9 7 := by rw [eS2, wI_c, up1_ne (by decide), wI_c, up1_eq, u3.2.2.2.2.2.2.2.1]
      rw [← eS2, ← eT2, q_s (by omega)]
      have S210 : S2.1 10 = s.1 10 := by rw [kn 10 (by decide), u7, S10]
      exact ih m m' (k + 1) q' 0 S2 T2 (c + c') (by omega) (by omega) (by omega) (by omega) (u3.to (fun j hj => by
        rcases hj with rfl | rfl | rfl | rfl | rfl
        · exact k9 4 (by decide) (by decide) (by decide)
        · exact k7
        · exact k9 10 (by decide) (by decide) (by decide)
        · exact k9 11 (by decide) (by decide) (by decide)
        · exact k9 12 (by decide) (by decide) (by decide)) (kn 10 (by decide)) (kn 11 (by decide)) (kn 1003 (by decide)) fT2 (by decide +kernel)) ⟨by rw [eT2, wI_c, up1_eq]; rfl, by rw [eS2, wI_c, up1_ne (by decide), wI_c, up1_ne (by decide), wI_c, up1_eq]; rfl, fun i hi => absurd hi (Nat.not_lt_zero _)⟩ (by rw [eS2, wI_c, up1_eq]) (by rw [k9 13 (by decide) (by decide) (by decide)]; exact u6) (u4.keep fS2 fT2 (by decide +kernel) (by decide +kernel)) (by omega) (by omega) (Or.inl rfl) (fun j x1 x2 => by rw [S210]; exact hL j x1 x2) (by rw [S210]; exact hLast)
    · rw [if_neg z, if_pos (show cI 0 = 0 from rfl), if_neg z]
      unfold fPH_start_b100
      rw [q_s (by omega)]
      have kb : k ≠ b := fun u => by
        rw [S10, u] at z
        rcases hLast with w | w
        · omega
        · exact z w
      exact ih m m' (k + 1) q (U + n) S T c (by omega) (by omega) (by omega) (by omega) PS b3 S8 S13 RS (by omega) (by omega) (Or.inr (by omega)) (fun j x1 x2 => by rw [S10]; exact hL j x1 x2) (by rw [S10]; exact hLast)
