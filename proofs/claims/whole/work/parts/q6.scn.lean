/-! ===== LEVEL 3: bars: read from the tape, mended, told: class and reference ===== -/
def FbrC : List (Nat × (Nat × Nat)) := [(7, 7, 2), (8, 8, 0)]
section
variable {s t : ev_M} {d : Nat → Nat}
theorem s67_M (h : Cn s t) (hd : ∀ k : Nat, k < 15 → d k < 16) : ∀ (r m j : Nat) (u : ev_M), j + r = 4 → r < m → Cn s u → (∀ k : Nat, k < 15 → u.1 660 k = cI (d k : Int)) → (∀ i : Nat, i < j → u.1 662 i = cI ((sy d i 15 15 : Nat) : Int)) → ∃ u', fM_scan_h67 m u (if ∀ i : Nat, i < j → sy d i 15 15 = 0 then cI 1 else cI 0) (cI (j : Int)) = fM_scan_b118 u' (if ∀ i : Nat, i < 4 → sy d i 15 15 = 0 then cI 1 else cI 0) (if ∀ i : Nat, i < 4 → sy d i 15 15 = 0 then cI 0 else cI (-1)) ∧ (∀ k : Nat, k < 15 → u'.1 660 k = cI (d k : Int)) ∧ (∀ i : Nat, i < 4 → u'.1 662 i = cI ((sy d i 15 15 : Nat) : Int)) ∧ fr [(662, 662, 0)] u u' := by
  intro r
  induction r with
  | zero =>
    intro m j u hj hm hu h6 h2
    obtain ⟨m, rfl⟩ : ∃ k, m = k + 1 := ⟨m - 1, by omega⟩
    obtain rfl : j = 4 := by omega
    refine ⟨u, ?_, h6, h2, fr.rf⟩
    rw [fM_scan_h67, if_neg (by decide)]
    by_cases z : ∀ i : Nat, i < 4 → sy d i 15 15 = 0
    · rw [if_pos z, if_neg (show ¬ cI 1 = 0 by decide), if_pos z]
    · rw [if_neg z, if_pos (show cI 0 = 0 from rfl), if_neg z]
  | succ r ih =>
    intro m j u hj hm hu h6 h2
    obtain ⟨m, rfl⟩ : ∃ k, m = k + 1 := ⟨m - 1, by omega⟩
    have l := sy_lt hd (j := j) (n := 15) 15 (Nat.le_refl _)
    have f1 : fr [(662, 662, 0)] u (wI u 662 j (cI ((sy d j 15 15 : Nat) : Int))) := fr.rf.wI rfl
    obtain ⟨u', a1, a2, a3, a4⟩ := ih m (j + 1) (wI u 662 j (cI ((sy d j 15 15 : Nat) : Int))) (by omega) (by omega) (hu.keep rf_fr f1 (by decide +kernel) (by decide +kernel)) (fun k hk => by rw [wI_ne (by decide)]; exact h6 k hk) (fun i hi => by
      rw [wI_c]
      by_cases y : i = j
      · rw [y, up1_eq]
      · rw [up1_ne y]; exact h2 i (by omega))
    refine ⟨u', ?_, a2, a3, f1.tr a4⟩
    have c2 : (wI u 662 j (cI ((sy d j 15 15 : Nat) : Int))).1 662 j = cI ((sy d j 15 15 : Nat) : Int) := by rw [wI_c, up1_eq]
    rw [← a1, fM_scan_h67, if_pos (by rw [lt_i, q_ti (by omega), show (cI 4).toInt = 4 from rfl]; omega), su_M hu hd h6 (show j < 4 by omega), bd1_some, if_pos (q_in (by omega) (by decide)), ltM_eq, q_ix (by omega), if_pos (q_in (by omega) (by decide)), c2]
    unfold fM_scan_b100 fM_scan_b101
    rw [q_s (by omega)]
    by_cases z : ∀ i : Nat, i < j → sy d i 15 15 = 0
    · rw [if_pos z, if_neg (show ¬ cI 1 = 0 by decide)]
      by_cases y : sy d j 15 15 = 0
      · rw [if_pos ((c0_n (by omega)).mpr y), if_pos (fun i hi => by
          by_cases w : i = j
          · rw [w]; exact y
          · exact z i (by omega))]
      · rw [if_neg (fun w => y ((c0_n (by omega)).mp w)), if_neg (fun w => y (w j (Nat.lt_succ_self _)))]
    · rw [if_neg z, if_pos (show cI 0 = 0 from rfl), if_neg (fun w => z (fun i hi => w i (by omega)))]
/-- what mending makes of the signs -/
theorem mid_ok (h : Cn s t) (hd : ∀ k : Nat, k < 15 → d k < 16) (hc : ∀ k : Nat, k < 15 → s.1 8 k = cI (d k : Int)) (hm : ∀ k : Nat, k < 15 → t.1 660 k = cI (d k : Int)) : ∃ (s' t' : ev_M) (y : Int32), fBars_mends s = some (s', if y = cI (-1) then cI 0 else cI 1) ∧ fM_scan_h67 1048576 t (cI 1) (cI 0) = fM_scan_b146 t' (if y = cI (-1) then cI 0 else cI 1) ∧ s'.1 7 1 = y ∧ t'.1 549 161 = y ∧ (¬ y = cI (-1) → ∃ e : Nat → Nat, ∀ k : Nat, k < 15 → e k < 16 ∧ s'.1 8 k = cI (e k : Int) ∧ t'.1 660 k = cI (e k : Int)) ∧ fr FbrC s s' ∧ fr FmtM t t' := by
  have hS : ∀ j : Nat, j < 4 → (fun j => sy d j 15 15) j < 16 := fun j _ => sy_lt hd 15 (Nat.le_refl _)
  obtain ⟨t1, a1, a2, a3, a4⟩ := s67_M h hd 4 1048576 0 t (by decide) (by decide) h hm (fun i hi => absurd hi (Nat.not_lt_zero _))
  have a1' : fM_scan_h67 1048576 t (cI 1) (cI 0) = fM_scan_b118 t1 (if ∀ i : Nat, i < 4 → sy d i 15 15 = 0 then cI 1 else cI 0) (if ∀ i : Nat, i < 4 → sy d i 15 15 = 0 then cI 0 else cI (-1)) := by
    have e : (if ∀ i : Nat, i < 0 → sy d i 15 15 = 0 then cI 1 else cI 0) = cI 1 := if_pos (fun i hi => absurd hi (Nat.not_lt_zero _))
    rw [e] at a1
    exact a1
  have h1 := h.keep rf_fr a4 (by decide +kernel) (by decide +kernel)
  have w := wd_C h hd hc 15 1048576 0 (by decide) (by decide)
  have w0 : w4 (fun j => sy d j 15 0) = 0 := rfl
  rw [w0] at w
  have kC : fBars_mends s = fBars_mends_h4 1 s (cI ((w4 (fun j => sy d j 15 15) : Nat) : Int)) (cI 15) := w
  have lw := w4_lt hS
  have y161 : ∀ (u : ev_M) (c : Int32), (wI u 549 161 c).1 549 161 = c := fun u c => by rw [wI_c, up1_eq]
  have kb : ∀ (u : ev_M) (y : Int32), fBars_mends_b63 u y = some (wI u 7 1 y, if y = cI (-1) then cI 0 else cI 1) := fun u y => by
    unfold fBars_mends_b63
    have : (wI u 7 1 y).1 7 1 = y := by rw [wI_c, up1_eq]
    rw [ltM_eq, this]
    by_cases z : y = cI (-1)
    · rw [if_pos z, if_pos z]
    · rw [if_neg z, if_neg z]
  have c71 : ∀ (u : ev_M) (y : Int32), (wI u 7 1 y).1 7 1 = y := fun u y => by rw [wI_c, up1_eq]
  rw [kC, a1', fBars_mends_h4, if_neg (show ¬ cI 15 < cI 15 by decide)]
  unfold fM_scan_b118 fM_scan_b141
  by_cases z : ∀ i : Nat, i < 4 → sy d i 15 15 = 0
  · -- nothing is wrong
    have e0 : w4 (fun j => sy d j 15 15) = 0 := by
      show (((sy d 0 15 15) * 16 + sy d 1 15 15) * 16 + sy d 2 15 15) * 16 + sy d 3 15 15 = 0
      rw [z 0 (by decide), z 1 (by decide), z 2 (by decide), z 3 (by decide)]
    rw [e0, if_pos (show cI ((0 : Nat) : Int) = 0 from rfl), if_pos z, if_pos z, ltM_eq, if_neg (show ¬ cI 1 = 0 by decide), kb]
    refine ⟨_, _, cI 0, rfl, ?_, c71 _ _, y161 _ _, fun _ => ⟨d, fun k hk => ⟨hd k hk, ?_, ?_⟩⟩, fr.rf.wI rfl, (a4.mono (by decide +kernel)).wI rfl⟩
    · rw [if_neg (show ¬ cI 0 = cI (-1) by decide)]
    · rw [wI_ne (by decide)]; exact hc k hk
    · rw [wI_ne (by decide)]; exact a2 k hk
  have e0 : ¬ w4 (fun j => sy d j 15 15) = 0 := fun u => z (fun i hi => by
    have := (w4_in hS (m := fun _ => 0) (fun _ _ => by decide)).mp (u.trans rfl) i hi
    exact this)
  rw [if_neg (fun u => e0 ((c0_n (by omega)).mp u)), if_neg z, if_neg z, ltM_eq, if_pos (show cI 0 = 0 from rfl)]
  -- the sums with nothing mended yet
  have f2 : fr [(549, 549, 162)] t1 (wI t1 549 161 (cI (-1))) := fr.rf.wI rfl
  have h2 := h1.keep rf_fr f2 (by decide +kernel) (by decide +kernel)
  have g2 : fr FmtM t (wI t1 549 161 (cI (-1))) := (a4.mono (by decide +kernel)).wI rfl
  obtain ⟨t2, et2⟩ : ∃ x, x = wI t1 549 161 (cI (-1)) := ⟨_, rfl⟩
  rw [← et2] at h2 g2 ⊢
  have D2 : Dgs d (fun j => sy d j 15 15) t2 := by
    rw [et2]
    refine ⟨fun k hk => ?_, fun j hj => ⟨?_, hS j hj⟩⟩
    · rw [wI_ne (by decide)]; exact a2 k hk
    · rw [wI_ne (by decide)]; exact a3 j hj
  have v161 : t2.1 549 161 = cI (-1) := by rw [et2]; exact y161 _ _
  rcases mo_C h hS with ⟨p, v, w1, w2⟩ | ⟨w1, w2⟩
  · -- one sign
    rcases mo_M (S := fun j => sy d j 15 15) (a := 0) (c := cI 0) h2 D2.2 (by decide) with ⟨p', v', t3, b1, b2, b3, b4⟩ | ⟨b1, b2⟩
    · obtain ⟨rfl, rfl⟩ := w1.un b2
      obtain ⟨t3', c1, c2, c3, c4⟩ := chg_M h2 D2.2 b2.1 b2.2.2.1
      obtain rfl : t3 = t3' := Option.some.inj (b3.symm.trans c1)
      have b4' : fM_mendOne t2 (cI 0) (cI 0) = some (wI t3 549 161 (cI 1), cI 1) := by
        rw [show cI 0 + cI 1 = cI 1 by decide] at b4
        exact b4
      rw [w2, bd2_some, if_neg (show ¬ cI 1 = 0 by decide), b4', bd2_some, if_neg (show ¬ cI 1 = 0 by decide), kb]
      refine ⟨_, wI t3 549 161 (cI 1), cI 1, rfl, ?_, c71 _ _, y161 _ _, fun _ => ⟨fun k => if k = p then d p ^^^ v else d k, fun k hk => ⟨?_, ?_, ?_⟩⟩, (fr.rf.wI rfl).wI rfl, (g2.tr (c4.mono (by decide +kernel))).wI rfl⟩
      · rw [if_neg (show ¬ cI 1 = cI (-1) by decide)]
      · by_cases y : k = p
        · simp only [if_pos y]; exact xr_lt (hd p b2.1) b2.2.2.1
        · simp only [if_neg y]; exact hd k hk
      · rw [wI_ne (by decide), wI_c]
        by_cases y : k = p
        · have := hd p b2.1
          have := b2.2.2.1
          rw [y, up1_eq, hc p b2.1, x_cI (by omega) (by omega)]
          simp only [if_true]
        · rw [up1_ne y, hc k hk]
          simp only [if_neg y]
      · rw [wI_ne (by decide), c2]
        by_cases y : k = p
        · have := hd p b2.1
          have := b2.2.2.1
          rw [y, up1_eq, D2.1 p b2.1, x_cI (by omega) (by omega)]
          simp only [if_true]
        · rw [up1_ne y, D2.1 k hk]
          simp only [if_neg y]
    · exact absurd w1 (b1 p v (Nat.zero_le _))
  · rcases mo_M (S := fun j => sy d j 15 15) (a := 0) (c := cI 0) h2 D2.2 (by decide) with ⟨p', v', t3, b1, b2, b3, b4⟩ | ⟨b1, b2⟩
    · exact absurd b2 (w1 p' v')
    have b2' : fM_mendOne t2 (cI 0) (cI 0) = _ := b2
    rw [w2, bd2_some, if_pos (show cI 0 = 0 from rfl), b2', bd2_some, if_pos (show cI 0 = 0 from rfl)]
    rcases m2_C h hS with ⟨x, v, p, q, c1, c2, c3, c4, c5, c6⟩ | ⟨c1, c2⟩
    · have xp := two_eq hS z w1 c2 c3 c1 c4 c5
      rcases m2_M (S := fun j => sy d j 15 15) h2 hd D2 with ⟨x', v', p', q', t3, e1, e2, e3, e4, e5, e6, e7, e8, e9, e10⟩ | ⟨t3, e1, -⟩
      · have exv : x' = x ∧ v' = v := by
          by_cases y1 : x' < x ∨ x' = x ∧ v' < v
          · exact absurd e5 (c5 x' v' e2 e3 y1 p' q')
          · by_cases y2 : x < x' ∨ x = x' ∧ v < v'
            · exact absurd c4 (e6 x v c2 c3 y2 p q xp)
            · omega
        obtain ⟨rfl, rfl⟩ := exv
        obtain ⟨rfl, rfl⟩ := c4.un e5
        have p15 := c4.1
        have q16 := c4.2.2.1
        have px : ¬ p = x' := by omega
        rw [c6, bd2_some, if_neg (show ¬ cI 1 = 0 by decide), e7, bd2_some, if_neg (show ¬ cI 1 = 0 by decide), kb]
        refine ⟨_, _, cI 2, rfl, ?_, c71 _ _, e9, fun _ => ⟨dd2 d x' v' p q, fun k hk => ⟨?_, ?_, e8 k hk⟩⟩, ((fr.rf.wI rfl).wI rfl).wI rfl, g2.tr e10⟩
        · rw [if_neg (show ¬ cI 2 = cI (-1) by decide)]
        · unfold dd2
          split
          · exact xr_lt (hd p p15) q16
          · split
            · exact xr_lt (hd x' e1) e3
            · exact hd k hk
        · rw [wI_ne (by decide), wI_c, wI_c]
          unfold dd2
          have hdp := hd p p15
          have hdx := hd x' e1
          by_cases y : k = x'
          · rw [y, up1_eq, up1_ne (fun u => px u.symm), if_neg (fun u => px u.symm), if_pos rfl, hc x' e1, x_cI (by omega) (by omega)]
          · rw [up1_ne y]
            by_cases g : k = p
            · rw [g, up1_eq, if_pos rfl, hc p p15, x_cI (by omega) (by omega)]
            · rw [up1_ne g, if_neg g, if_neg y, hc k hk]
      · exact absurd c4 (e1 x v c1 c2 c3 p q xp)
    · rcases m2_M (S := fun j => sy d j 15 15) h2 hd D2 with ⟨x', v', p', q', t3, e1, e2, e3, e4, e5, e6, e7, e8, e9, e10⟩ | ⟨t3, e1, e2, e3⟩
      · exact absurd e5 (c1 x' v' e1 e2 e3 p' q')
      · rw [c2, bd2_some, if_pos (show cI 0 = 0 from rfl), e2, bd2_some, if_pos (show cI 0 = 0 from rfl), kb]
        refine ⟨_, t3, cI (-1), rfl, ?_, c71 _ _, ?_, fun u => absurd rfl u, fr.rf.wI rfl, g2.tr (e3.mono (by decide +kernel))⟩
        · rw [if_pos rfl]
        · rw [(e3.1 549 161 (by decide +kernel)).1]; exact v161
theorem sh8_t : ∀ a : Nat, a < 16 → cI (a : Int) <<< (cI 8 &&& 31) = cI ((a * 256 : Nat) : Int) := by decide +kernel
theorem sh4_t : ∀ a : Nat, a < 16 → cI (a : Int) <<< (cI 4 &&& 31) = cI ((a * 16 : Nat) : Int) := by decide +kernel
theorem num_ok {a b c : Nat} (ha : a < 16) (hb : b < 16) (hc : c < 16) : ∃ n : Nat, n < 4096 ∧ ((cI (a : Int) <<< (cI 8 &&& 31)) ||| (cI (b : Int) <<< (cI 4 &&& 31))) ||| cI (c : Int) = cI (n : Int) := by
  have orc : ∀ x y : Nat, x < 2 ^ 12 → y < 2 ^ 12 → cI (x : Int) ||| cI (y : Int) = cI ((x ||| y : Nat) : Int) ∧ x ||| y < 2 ^ 12 := fun x y hx hy => by
    have lt : x ||| y < 2 ^ 12 := Nat.or_lt_two_pow hx hy
    refine ⟨q_bv ?_ (by omega), lt⟩
    rw [Int32.toBitVec_or, BitVec.toNat_or, cI_bv (by omega), cI_bv (by omega)]
  rw [sh8_t a ha, sh4_t b hb]
  obtain ⟨e1, e2⟩ := orc (a * 256) (b * 16) (by omega) (by omega)
  obtain ⟨e3, e4⟩ := orc (a * 256 ||| b * 16) c e2 (by omega)
  exact ⟨_, e4, by rw [e1, e3]⟩
/-- a sign is the last four bits of a byte -/
theorem sg_n (x : Int32) : ∃ n : Nat, n < 16 ∧ x &&& cI 15 = cI (n : Int) ∧ (x &&& cI 255) &&& cI 15 = cI (n : Int) := by
  have lt : (x &&& cI 15).toBitVec.toNat < 16 := by
    rw [Int32.toBitVec_and, BitVec.toNat_and, show (cI 15).toBitVec.toNat = 15 from rfl]
    exact Nat.lt_of_le_of_lt Nat.and_le_right (by decide)
  refine ⟨_, lt, q_bv rfl (by omega), ?_⟩
  rw [Int32.and_assoc, show cI 255 &&& cI 15 = cI 15 by decide]
  exact q_bv rfl (by omega)
def FscC : List (Nat × (Nat × Nat)) := [(7, 7, 2), (8, 8, 0), (1, 1, 2)]
def FscM : List (Nat × (Nat × Nat)) := [(660, 660, 0), (662, 662, 0), (549, 549, 162), (549, 549, 1), (549, 549, 3)]
/-- the question scan: class and reference -/
theorem q_scan (h9 : t.1 549 5 = s.1 9 9) (h : Cn s t) (I : RIt s t) (D : RMd s t) (e2 : t.1 549 2 = s.1 1 1) (hb : ∀ k, k < ix (s.1 1 1) → t.1 550 k = s.1 2 k) : Ok (fPH_scan s) fun x => Ok (fM_scan t) fun z => x.2 = z.2 ∧ RMd x.1 z.1 ∧ (s.1 9 9 = 0 → x.1.1 1 1 = 0 ∧ z.1.1 549 2 = 0) ∧ fr FscC s x.1 ∧ fr FscM t z.1 := by
  have z2 : (wI t 549 0 (cI 0)).1 549 2 = s.1 1 1 := by rw [wI_c, up1_ne (by decide)]; exact e2
  have f0 : fr [(549, 549, 1)] t (wI t 549 0 (cI 0)) := fr.rf.wI rfl
  have D0 := D.keep rf_fr f0 (by decide +kernel) (by decide +kernel)
  unfold fPH_scan fM_scan
  rw [ltM_eq, q_z5, h9, z2]
  by_cases z : s.1 9 9 = 0
  rotate_left
  · rw [if_neg z, if_neg z, ok_some, ok_some]
    exact ⟨rfl, D0, fun u => absurd u z, fr.rf, f0.mono (by decide +kernel)⟩
  rw [if_pos z, if_pos z, ltI_eq, ltM_eq]
  have f1 : fr FscM t (wI (wI t 549 0 (cI 0)) 549 2 (cI 0)) := (fr.rf.wI rfl).wI rfl
  have t2 : (wI (wI t 549 0 (cI 0)) 549 2 (cI 0)).1 549 2 = 0 := by rw [wI_c, up1_eq]; rfl
  have h1 := h.keep rf_fr f1 (by decide +kernel) (by decide +kernel)
  have f3 : fr [(549, 549, 3), (549, 549, 1)] t (wI (wI t 549 0 (cI 0)) 549 2 (cI 0)) := (fr.rf.wI rfl).wI rfl
  have D1 := D.keep rf_fr f3 (by decide +kernel) (by decide +kernel)
  by_cases y : s.1 1 1 = cI 15
  rotate_left
  · rw [if_neg y, if_neg y]
    unfold fPH_scan_b30 fPH_scan_b46
    rw [if_pos (show cI 0 = 0 from rfl), ltM_eq, if_pos (show cI 0 = 0 from rfl), ok_some, ok_some]
    exact ⟨rfl, D1.keep (fr.rf.wI rfl : fr [(1, 1, 2)] s (wI s 1 1 (cI 0))) rf_fr (by decide +kernel) (by decide +kernel), fun _ => ⟨by rw [wI_c, up1_eq]; rfl, t2⟩, fr.rf.wI rfl, f1⟩
  rw [if_pos y, if_pos y]
  -- the signs
  obtain ⟨d, hd⟩ : ∃ d : Nat → Nat, ∀ k, d k < 16 ∧ s.1 2 k &&& cI 15 = cI (d k : Int) ∧ (s.1 2 k &&& cI 255) &&& cI 15 = cI (d k : Int) := ⟨fun k => Classical.choose (sg_n (s.1 2 k)), fun k => Classical.choose_spec (sg_n (s.1 2 k))⟩
  have x15 : ix (s.1 1 1) = 15 := by rw [y]; rfl
  have tk : ∀ (r m k : Nat) (u : ev_M), k + r = 15 → r < m → fr [(8, 8, 0)] s u → (∀ i : Nat, i < k → u.1 8 i = cI (d i : Int)) → ∃ u', fBars_takeFrom_1_h2 m u (cI (k : Int)) = some u' ∧ (∀ i : Nat, i < 15 → u'.1 8 i = cI (d i : Int)) ∧ fr [(8, 8, 0)] s u' := by
    intro r
    induction r with
    | zero =>
      intro m k u hk hm hu hi
      obtain ⟨m, rfl⟩ : ∃ k, m = k + 1 := ⟨m - 1, by omega⟩
      refine ⟨u, ?_, fun i h => hi i (by omega), hu⟩
      rw [show k = 15 by omega, fBars_takeFrom_1_h2, if_neg (by decide)]
    | succ r ih =>
      intro m k u hk hm hu hi
      obtain ⟨m, rfl⟩ : ∃ k, m = k + 1 := ⟨m - 1, by omega⟩
      have lt : cI (k : Int) < cI 15 := by rw [lt_i, q_ti (by omega), show (cI 15).toInt = 15 from rfl]; omega
      have u11 : u.1 1 1 = cI 15 := ((hu.1 1 1 rfl).1).trans y
      have by_ : fTape_byteAt_1 u (cI (k : Int)) = some (s.1 2 k &&& cI 255) := by
        unfold fTape_byteAt_1
        rw [if_neg (by rw [lt_i, q_ti (by omega), i32_0]; omega), u11, if_pos lt, if_pos (q_in (by omega) (by decide)), q_ix (by omega), (hu.1 2 k rfl).1]
      obtain ⟨u', a1, a2, a3⟩ := ih m (k + 1) (wI u 8 k (cI (d k : Int))) (by omega) (by omega) (hu.wI rfl) (fun i h => by
        rw [wI_c]
        by_cases w : i = k
        · rw [w, up1_eq]
        · rw [up1_ne w]; exact hi i (by omega))
      refine ⟨u', ?_, a2, a3⟩
      rw [← a1, fBars_takeFrom_1_h2, if_pos lt, by_, bd1_some, if_pos (q_in (by omega) (by decide)), (hd k).2.2, ltM_eq, q_ix (by omega), q_s (by omega)]
  obtain ⟨s1, b1, b2, b3⟩ := tk 15 1048576 0 s (by decide) (by decide) fr.rf (fun i h => absurd h (Nat.not_lt_zero _))
  have cp : ∀ (r m k : Nat) (u : ev_M), k + r = 15 → r < m → fr [(660, 660, 0)] (wI (wI t 549 0 (cI 0)) 549 2 (cI 0)) u → (∀ i : Nat, i < k → u.1 660 i = cI (d i : Int)) → ∃ u', fM_scan_h36 m u (cI (k : Int)) = fM_scan_h67 1048576 u' (cI 1) (cI 0) ∧ (∀ i : Nat, i < 15 → u'.1 660 i = cI (d i : Int)) ∧ fr [(660, 660, 0)] (wI (wI t 549 0 (cI 0)) 549 2 (cI 0)) u' := by
    intro r
    induction r with
    | zero =>
      intro m k u hk hm hu hi
      obtain ⟨m, rfl⟩ : ∃ k, m = k + 1 := ⟨m - 1, by omega⟩
      refine ⟨u, ?_, fun i h => hi i (by omega), hu⟩
      rw [show k = 15 by omega, fM_scan_h36, if_neg (by decide)]
    | succ r ih =>
      intro m k u hk hm hu hi
      obtain ⟨m, rfl⟩ : ∃ k, m = k + 1 := ⟨m - 1, by omega⟩
      have lt : cI (k : Int) < cI 15 := by rw [lt_i, q_ti (by omega), show (cI 15).toInt = 15 from rfl]; omega
      have u5 : u.1 550 k = s.1 2 k := by
        rw [(hu.1 550 k rfl).1, wI_ne (by decide), wI_ne (by decide)]
        exact hb k (by omega)
      obtain ⟨u', a1, a2, a3⟩ := ih m (k + 1) (wI u 660 k (cI (d k : Int))) (by omega) (by omega) (hu.wI rfl) (fun i h => by
        rw [wI_c]
        by_cases w : i = k
        · rw [w, up1_eq]
        · rw [up1_ne w]; exact hi i (by omega))
      refine ⟨u', ?_, a2, a3⟩
      rw [← a1, fM_scan_h36, if_pos lt, if_pos (q_in (by omega) (by decide)), if_pos (q_in (by omega) (by decide)), q_ix (by omega), u5, (hd k).2.1, ltM_eq, q_s (by omega)]
  obtain ⟨t1, c1, c2, c3⟩ := cp 15 1048576 0 _ (by decide) (by decide) fr.rf (fun i h => absurd h (Nat.not_lt_zero _))
  have b1' : fBars_takeFrom_1 s = some s1 := b1
  have c1' : fM_scan_h36 1048576 (wI (wI t 549 0 (cI 0)) 549 2 (cI 0)) (cI 0) = _ := c1
  have gs : fr FscC s (wI s1 1 1 (cI 0)) := (b3.mono (by decide +kernel)).wI rfl
  have gt : fr FscM t t1 := f1.tr (c3.mono (by decide +kernel))
  have gs0 : fr [(8, 8, 0), (1, 1, 2)] s (wI s1 1 1 (cI 0)) := (b3.mono (by decide +kernel)).wI rfl
  obtain ⟨s2, t3, v, e1, e3, e4, e5, e6, e7, e8⟩ := mid_ok (s := wI s1 1 1 (cI 0)) (t := t1) (d := d) (h.keep gs0 gt (by decide +kernel) (by decide +kernel)) (fun k _ => (hd k).1) (fun k hk => by rw [wI_ne (by decide)]; exact b2 k hk) c2
  have GS : fr FscC s s2 := gs.tr (e7.mono (by decide +kernel))
  have GT : fr FscM t t3 := gt.tr (e8.mono (by decide +kernel))
  have MD : RMd s2 t3 := e5.trans e4.symm
  have s11 : s2.1 1 1 = 0 := by rw [(e7.1 1 1 (by decide +kernel)).1, wI_c, up1_eq]; rfl
  have t22 : t3.1 549 2 = 0 := by rw [(e8.1 549 2 (by decide +kernel)).1, (c3.1 549 2 (by decide +kernel)).1]; exact t2
  unfold fPH_scan_b30 fPH_scan_b46
  rw [if_neg (show ¬ cI 1 = 0 by decide), b1', bd1_some, ltM_eq, if_neg (show ¬ cI 1 = 0 by decide), e1, bd2_some, c1', e3]
  unfold fM_scan_b146
  obtain ⟨⟨i1, i2, i3⟩, -⟩ := I
  have s100 : s2.1 100 5 = s.1 100 5 := (GS.1 100 5 (by decide +kernel)).1
  have t58 : t3.1 549 58 = s.1 100 5 := (GT.1 549 58 (by decide +kernel)).1.trans i1
  by_cases w : v = cI (-1)
  · simp only [if_pos w, if_pos (show cI 0 = 0 from rfl), ltI_eq]
    rw [ok_some, ok_some]
    exact ⟨rfl, MD, fun _ => ⟨s11, t22⟩, GS, GT⟩
  · simp only [if_neg w, if_neg (show ¬ cI 1 = 0 by decide)]
    obtain ⟨e, he⟩ := e6 w
    obtain ⟨k0, p0, r0⟩ := he 0 (by decide)
    obtain ⟨k1, p1, r1⟩ := he 1 (by decide)
    obtain ⟨k2, p2, r2⟩ := he 2 (by decide)
    obtain ⟨n, n1, n2⟩ := num_ok k0 k1 k2
    have nC : fBars_number s2 = some (cI (n : Int)) := by
      unfold fBars_number
      rw [ix_0, ix_1, ix_2, p0, p1, p2, n2]
    rw [ix_0, ix_1, ix_2, r0, r1, r2, n2, nC, bd1_some, e_itemsHas (by rw [s100]; exact i2), bd1_some, ite_bI, ltI_eq, s100, t58]
    by_cases g : Has (cI (n : Int)) (s.1 100 5)
    · rw [if_pos g, bd1_some, if_pos (lt_i.mpr g.2), ok_some, ok_some]
      exact ⟨rfl, MD, fun _ => ⟨s11, t22⟩, GS, GT⟩
    · rw [if_neg g, if_neg (fun u => g ⟨by rw [q_ti (by omega)]; omega, lt_i.mp u⟩), ok_some, ok_some]
      exact ⟨rfl, MD, fun _ => ⟨s11, t22⟩, GS, GT⟩
end
theorem q_mended {s t : ev_M} (h9 : t.1 549 5 = s.1 9 9) (D : RMd s t) : Ok (fPH_mended s) fun x => Ok (fM_mended t) fun z => x = z.2 := by
  have D := D.keep rf_fr (zfr (t := t)) (by decide +kernel) (by decide +kernel)
  unfold fPH_mended fM_mended
  rw [ltM_eq, q_z5, h9]
  generalize wI t 549 0 (cI 0) = t at *
  by_cases z : s.1 9 9 = 0
  rotate_left
  · rw [if_neg z, if_neg z, ok_some, ok_some]
  rw [if_pos z, if_pos z]
  rw [ok_some, ok_some]; exact D.symm
