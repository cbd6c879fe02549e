/-! ===== LEVEL 3: the sheet: the class keeps a box ===== -/
def FkbC : List (Nat × (Nat × Nat)) := [(52, 52, 14), (63, 66, 0), (68, 75, 0)]
theorem Lc.kC {w h n : Nat} {g : Nat → Nat} {s s' t : ev_M} (H : Lc w h n g s t) (h' : fr FkbC s s') : Lc w h n g s' t := by
  obtain ⟨⟨⟨d1, d2, d3, d4⟩, d5⟩, I, ⟨r1, r2, r3, r4⟩, T, h1, h2, h3⟩ := H
  have e57 : s'.1 57 = s.1 57 := funext fun k => (h'.1 57 k rfl).1
  refine ⟨⟨⟨?_, ?_, d3, d4⟩, d5⟩, fun q hq => ?_, ⟨?_, r2, r3, fun p hp => ?_⟩, ?_, fun p hp => ?_, h2, ?_⟩
  · rw [(h'.1 52 4 rfl).1]; exact d1
  · rw [(h'.1 52 5 rfl).1]; exact d2
  · rw [(h'.1 53 q rfl).1]; exact I q hq
  · rw [(h'.1 52 9 rfl).1]; exact r1
  · rw [(h'.1 56 p rfl).1, (h'.1 57 p rfl).1, (h'.1 58 p rfl).1, (h'.1 59 p rfl).1]; exact r4 p hp
  · unfold Tps; rw [e57]; exact T
  · rw [(h'.1 60 p rfl).1]; exact h1 p hp
  · rw [e57]; exact h3
theorem Sym.kC {s s' t : ev_M} (H : Sym s t) (h' : fr FkbC s s') : Sym s' t := fun k hk => by
  rw [(h'.1 1004 k rfl).1]; exact H k hk
theorem kb_cg {w h n a : Nat} {g : Nat → Nat} {s s' t : ev_M} (H : Lc w h n g s t) (h' : fr FkbC s s') (ha : a < n) : fSheet_cellsOf s' (cI (a : Int)) = fSheet_cellsOf s (cI (a : Int)) := by
  have H' := H.kC h'
  obtain ⟨v, -, v2, v3⟩ := e_cells H.1 H.2.1 H.2.2.1 ha
  obtain ⟨u, -, u2, u3⟩ := e_cells H'.1 H'.2.1 H'.2.2.1 ha
  rw [v3] at u3
  rw [v2, u2, ← Option.some.inj u3]
theorem ns_cg {s s' t : ev_M} {v : Int32} {lo hi : Nat} (H : Sym s t) (H' : Sym s' t) (hv : v.toBitVec.toNat < 2 ^ 15) (hl : lo ≤ hi) (hh : hi ≤ 36) : fSheet_nearest s' v (cI (lo : Int)) (cI (hi : Int)) = fSheet_nearest s v (cI (lo : Int)) (cI (hi : Int)) := by
  obtain ⟨q, q1, q2, -⟩ := e_nst H hv hl hh
  obtain ⟨r, r1, r2, -⟩ := e_nst H' hv hl hh
  rw [q2] at r2
  rw [q1, r1, ← Option.some.inj r2]
/-- whether a sign begins a word -/
def bwV (s : ev_M) (p a : Nat) (x3 : Int32) : Int32 := if x3 = 0 then (if p = 0 then cI 0 else if cI 5 * (s.1 56 a - s.1 68 (p - 1) - s.1 70 (p - 1)) < cI 2 * s.1 71 (p - 1) then cI 0 else cI 1) else cI 1
theorem kb_ok {w h n a p : Nat} {g : Nat → Nat} {s t : ev_M} {x3 : Int32} (H : Lc w h n g s t) (Sy : Sym s t) (ha : a < n) (hp : p < 200) : ∃ s', fSheet_keepBox s (cI (p : Int)) (cI (a : Int)) x3 = some s' ∧ (s'.1 68 p = s.1 56 a ∧ s'.1 69 p = s.1 57 a ∧ s'.1 70 p = s.1 58 a ∧ s'.1 71 p = s.1 59 a ∧ (s'.1 72 p).toBitVec.toNat < 2 ^ 15 ∧ fSheet_cellsOf s (cI (a : Int)) = some (s'.1 72 p) ∧ fSheet_nearest s (s'.1 72 p) (cI 0) (cI 10) = some (s'.1 73 p) ∧ fSheet_nearest s (s'.1 72 p) (cI 10) (cI 36) = some (s'.1 74 p) ∧ s'.1 75 p = bwV s p a x3) ∧ (∀ c j, 68 ≤ c → c ≤ 75 → j ≠ p → s'.1 c j = s.1 c j) ∧ fr [(68, 75, 0)] s s' := by
  have r3 := H.2.2.1.2.2.1
  have ab : inb (cI (a : Int)) 200 = true := q_in (by omega) (by decide)
  have ax : ix (cI (a : Int)) = a := q_ix (by omega)
  have pb : inb (cI (p : Int)) 200 = true := q_in hp (by decide)
  have px : ix (cI (p : Int)) = p := q_ix (by omega)
  obtain ⟨s4, e4⟩ : ∃ s4, s4 = wI (wI (wI (wI s 68 p (s.1 56 a)) 69 p (s.1 57 a)) 70 p (s.1 58 a)) 71 p (s.1 59 a) := ⟨_, rfl⟩
  have f4 : fr [(68, 75, 0)] s s4 := by rw [e4]; exact (((fr.rf.wI rfl).wI rfl).wI rfl).wI rfl
  have m4 : fr FkbC s s4 := f4.mono (by decide +kernel)
  have H4 := H.kC m4
  obtain ⟨v, v1, v2, -⟩ := e_cells H4.1 H4.2.1 H4.2.2.1 ha
  have f5 : fr [(68, 75, 0)] s (wI s4 72 p v) := f4.wI rfl
  have m5 : fr FkbC s (wI s4 72 p v) := f5.mono (by decide +kernel)
  obtain ⟨q1, b1, -, -⟩ := e_nst (lo := 0) (hi := 10) (Sy.kC m5) v1 (by decide) (by decide)
  have f6 : fr [(68, 75, 0)] s (wI (wI s4 72 p v) 73 p q1) := f5.wI rfl
  have m6 : fr FkbC s (wI (wI s4 72 p v) 73 p q1) := f6.mono (by decide +kernel)
  obtain ⟨q2, c1, -, -⟩ := e_nst (lo := 10) (hi := 36) (Sy.kC m6) v1 (by decide) (by decide)
  have g1 := ns_cg (lo := 0) (hi := 10) Sy (Sy.kC m5) v1 (by decide) (by decide)
  have g2 := ns_cg (lo := 10) (hi := 36) Sy (Sy.kC m6) v1 (by decide) (by decide)
  have g0 := kb_cg H m4 ha
  have f7 : fr [(68, 75, 0)] s (wI (wI (wI s4 72 p v) 73 p q1) 74 p q2) := f6.wI rfl
  have k4 : fSheet_keepBox s (cI (p : Int)) (cI (a : Int)) x3 = fSheet_keepBox_h3 1048572 s4 (cI (p : Int)) (cI (a : Int)) x3 (cI 4) := by
    unfold fSheet_keepBox
    rw [show (1048576 : Nat) = 1048572 + 1 + 1 + 1 + 1 from rfl]
    rw [fSheet_keepBox_h3, if_pos (show cI 0 ≤ cI 3 by decide), if_pos (show inb (cI 0) 8 = true by decide), if_pos (show inb (cI 0) 4 = true by decide), if_pos ab, if_pos pb, ltM_eq, show cI 0 + cI 1 = cI 1 from rfl]
    rw [fSheet_keepBox_h3, if_pos (show cI 1 ≤ cI 3 by decide), if_pos (show inb (cI 1) 8 = true by decide), if_pos (show inb (cI 1) 4 = true by decide), if_pos ab, if_pos pb, ltM_eq, show cI 1 + cI 1 = cI 2 from rfl]
    rw [fSheet_keepBox_h3, if_pos (show cI 2 ≤ cI 3 by decide), if_pos (show inb (cI 2) 8 = true by decide), if_pos (show inb (cI 2) 4 = true by decide), if_pos ab, if_pos pb, ltM_eq, show cI 2 + cI 1 = cI 3 from rfl]
    rw [fSheet_keepBox_h3, if_pos (show cI 3 ≤ cI 3 by decide), if_pos (show inb (cI 3) 8 = true by decide), if_pos (show inb (cI 3) 4 = true by decide), if_pos ab, if_pos pb, ltM_eq, show cI 3 + cI 1 = cI 4 from rfl]
    rw [ax, px, e4]
    rfl
  have eb : ∀ S, fSheet_keepBox_b182 S (ix (cI 7)) (cI (p : Int)) (cI 0) = some (wI S 75 p (cI 0)) ∧ fSheet_keepBox_b182 S (ix (cI 7)) (cI (p : Int)) (cI 1) = some (wI S 75 p (cI 1)) := fun S => by
    unfold fSheet_keepBox_b182
    rw [if_pos pb, ltM_eq, px, if_pos pb, ltM_eq]
    exact ⟨rfl, rfl⟩
  have key : fSheet_keepBox s (cI (p : Int)) (cI (a : Int)) x3 = some (wI (wI (wI (wI s4 72 p v) 73 p q1) 74 p q2) 75 p (bwV s p a x3)) := by
    rw [k4, fSheet_keepBox_h3, if_neg (show ¬ cI 4 ≤ cI 3 by decide), v2, bd1_some, if_pos pb, ltM_eq, if_pos pb, px, show 68 + ix (cI 4) = 72 from rfl, show 68 + ix (cI 5) = 73 from rfl, show 68 + ix (cI 6) = 74 from rfl, show (wI s4 72 p v).1 72 p = v by rw [wI_c, up1_eq]]
    refine Eq.trans (congrArg (fun z => bd1 z _) b1) ?_
    rw [bd1_some, if_pos pb, ltM_eq, if_pos pb, show (wI (wI s4 72 p v) 73 p q1).1 72 p = v by rw [wI_ne (by decide), wI_c, up1_eq]]
    refine Eq.trans (congrArg (fun z => bd1 z _) c1) ?_
    rw [bd1_some, if_pos pb, ltM_eq]
    unfold fSheet_keepBox_b164 fSheet_keepBox_b162 fSheet_keepBox_b164 bwV
    by_cases z : x3 = 0
    · rw [if_pos z, if_pos z, if_pos z]
      by_cases y : p = 0
      · rw [if_pos (show cI (p : Int) ≤ 0 by rw [y]; decide), if_pos y]
        exact (eb _).1
      · have e1 : cI (p : Int) - cI 1 = cI ((p - 1 : Nat) : Int) := q_sb (b := 1) (by omega) (by omega)
        have p1b : inb (cI ((p - 1 : Nat) : Int)) 200 = true := q_in (by omega) (by decide)
        have p1x : ix (cI ((p - 1 : Nat) : Int)) = p - 1 := q_ix (by omega)
        rw [if_neg (show ¬ cI (p : Int) ≤ 0 by rw [le_i, q_ti (by omega), i32_0]; omega), if_pos pb, e1, if_pos p1b, if_pos p1b, ltI_eq, if_pos p1b, p1x, if_neg y, show 68 + ix (cI 0) = 68 from rfl, show 68 + ix (cI 2) = 70 from rfl, show 68 + ix (cI 3) = 71 from rfl, e4]
        have n1 : p - 1 ≠ p := by omega
        simp (disch := decide) only [ix_0, ix_1, ix_2, ix_3, ix_4, ix_5, ix_6, ix_7, ix_8, ix_9, ix_10, ix_11, ix_12, ix_13, ix_14, ix_15, ix_16, ix_17, ix_18, ix_19, ix_20, ix_21, Nat.reduceAdd, wI_c, wI_ne, wL_1, lupd_ne, up1_eq, up1_ne, up1_ne n1, up1_eq]
        by_cases x : cI 5 * (s.1 56 a - s.1 68 (p - 1) - s.1 70 (p - 1)) < cI 2 * s.1 71 (p - 1)
        · rw [if_pos x, if_pos x, if_pos (show cI 0 = 0 from rfl)]
          exact (eb _).1
        · rw [if_neg x, if_neg x, if_neg (show ¬ cI 1 = 0 by decide)]
          exact (eb _).2
    · rw [if_neg z, if_neg z, if_neg z]
      exact (eb _).2
  refine ⟨_, key, ⟨?_, ?_, ?_, ?_, ?_, ?_, ?_, ?_, ?_⟩, fun c j h1 h2 hj => ?_, f7.wI rfl⟩
  · rw [e4]; simp (disch := decide) only [ix_0, ix_1, ix_2, ix_3, ix_4, ix_5, ix_6, ix_7, ix_8, ix_9, ix_10, ix_11, ix_12, ix_13, ix_14, ix_15, ix_16, ix_17, ix_18, ix_19, ix_20, ix_21, Nat.reduceAdd, wI_c, wI_ne, wL_1, lupd_ne, up1_eq, up1_ne]
  · rw [e4]; simp (disch := decide) only [ix_0, ix_1, ix_2, ix_3, ix_4, ix_5, ix_6, ix_7, ix_8, ix_9, ix_10, ix_11, ix_12, ix_13, ix_14, ix_15, ix_16, ix_17, ix_18, ix_19, ix_20, ix_21, Nat.reduceAdd, wI_c, wI_ne, wL_1, lupd_ne, up1_eq, up1_ne]
  · rw [e4]; simp (disch := decide) only [ix_0, ix_1, ix_2, ix_3, ix_4, ix_5, ix_6, ix_7, ix_8, ix_9, ix_10, ix_11, ix_12, ix_13, ix_14, ix_15, ix_16, ix_17, ix_18, ix_19, ix_20, ix_21, Nat.reduceAdd, wI_c, wI_ne, wL_1, lupd_ne, up1_eq, up1_ne]
  · rw [e4]; simp (disch := decide) only [ix_0, ix_1, ix_2, ix_3, ix_4, ix_5, ix_6, ix_7, ix_8, ix_9, ix_10, ix_11, ix_12, ix_13, ix_14, ix_15, ix_16, ix_17, ix_18, ix_19, ix_20, ix_21, Nat.reduceAdd, wI_c, wI_ne, wL_1, lupd_ne, up1_eq, up1_ne]
  · simp (disch := decide) only [ix_0, ix_1, ix_2, ix_3, ix_4, ix_5, ix_6, ix_7, ix_8, ix_9, ix_10, ix_11, ix_12, ix_13, ix_14, ix_15, ix_16, ix_17, ix_18, ix_19, ix_20, ix_21, Nat.reduceAdd, wI_c, wI_ne, wL_1, lupd_ne, up1_eq, up1_ne]; exact v1
  · simp (disch := decide) only [ix_0, ix_1, ix_2, ix_3, ix_4, ix_5, ix_6, ix_7, ix_8, ix_9, ix_10, ix_11, ix_12, ix_13, ix_14, ix_15, ix_16, ix_17, ix_18, ix_19, ix_20, ix_21, Nat.reduceAdd, wI_c, wI_ne, wL_1, lupd_ne, up1_eq, up1_ne]; rw [← g0]; exact v2
  · simp (disch := decide) only [ix_0, ix_1, ix_2, ix_3, ix_4, ix_5, ix_6, ix_7, ix_8, ix_9, ix_10, ix_11, ix_12, ix_13, ix_14, ix_15, ix_16, ix_17, ix_18, ix_19, ix_20, ix_21, Nat.reduceAdd, wI_c, wI_ne, wL_1, lupd_ne, up1_eq, up1_ne]; exact g1.symm.trans b1
  · simp (disch := decide) only [ix_0, ix_1, ix_2, ix_3, ix_4, ix_5, ix_6, ix_7, ix_8, ix_9, ix_10, ix_11, ix_12, ix_13, ix_14, ix_15, ix_16, ix_17, ix_18, ix_19, ix_20, ix_21, Nat.reduceAdd, wI_c, wI_ne, wL_1, lupd_ne, up1_eq, up1_ne]; exact g2.symm.trans c1
  · simp (disch := decide) only [ix_0, ix_1, ix_2, ix_3, ix_4, ix_5, ix_6, ix_7, ix_8, ix_9, ix_10, ix_11, ix_12, ix_13, ix_14, ix_15, ix_16, ix_17, ix_18, ix_19, ix_20, ix_21, Nat.reduceAdd, wI_c, wI_ne, wL_1, lupd_ne, up1_eq, up1_ne]
  · rw [e4]
    simp only [wI_1, if_neg hj, ite_self]
