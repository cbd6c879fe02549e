/-! ===== LEVEL 3: the act book ===== -/
def BxLc : List (Nat × Nat) := [(30, 0), (31, 0), (33, 0), (34, 0), (35, 0), (36, 0), (37, 0), (39, 0), (40, 0), (41, 0), (42, 0), (44, 0), (45, 0)]
def BxLm : List (Nat × Nat) := [(558, 0), (560, 0), (561, 0), (562, 0), (563, 0), (564, 0), (565, 0), (566, 0), (567, 0), (568, 0), (569, 0), (570, 0), (571, 0)]
theorem BxC.of {F : List (Nat × (Nat × Nat))} {s t : ev_M} (h : fr F s t) (d : nof F BxLc = true) : BxC s t := by
  have e : ∀ c, BxLc.contains (c, 0) = true → t.1 c = s.1 c := fun c hc => (nof_c h d hc).1
  have e37 : t.2.1 37 = s.2.1 37 := (nof_c h d (c := 37) (by decide)).2
  unfold BxC
  rw [e 30 (by decide), e 31 (by decide), e 33 (by decide), e 34 (by decide), e 35 (by decide), e 36 (by decide), e 39 (by decide), e 40 (by decide), e 41 (by decide), e 42 (by decide), e 44 (by decide), e 45 (by decide), e37]
  exact BxC.rf
theorem BxM.of {G : List (Nat × (Nat × Nat))} {a b s t : ev_M} (hc : s.1 30 9 = a.1 30 9) (h : fr G b t) (d : nof G BxLm = true) : BxM a b s t := by
  have e : ∀ c, BxLm.contains (c, 0) = true → t.1 c = b.1 c := fun c hc => (nof_c h d hc).1
  have e37 : t.2.1 561 = b.2.1 561 := (nof_c h d (c := 561) (by decide)).2
  unfold BxM
  rw [e 558 (by decide), e 560 (by decide), e 562 (by decide), e 563 (by decide), e 564 (by decide), e 565 (by decide), e 566 (by decide), e 567 (by decide), e 568 (by decide), e 569 (by decide), e 570 (by decide), e 571 (by decide), e37, hc]
  exact ⟨fun _ _ => rfl, fun _ _ => ⟨rfl, rfl, rfl, rfl, rfl⟩, fun _ _ => ⟨rfl, rfl, rfl, rfl⟩, fun _ _ => ⟨rfl, rfl, rfl⟩, fun q h1 h2 => absurd h1 (Nat.not_le.mpr h2)⟩
theorem RBk.keep {s t s' t' : ev_M} {F G : List (Nat × (Nat × Nat))} (h : RBk s t) (hs : fr F s s') (ht : fr G t t') (d1 : (nof F RPl_C && (nof F RSt_C && (nof F RRn_C && nof F RPo_C))) = true) (d2 : (nof G RPl_M && (nof G RSt_M && (nof G RRn_M && nof G RPo_M))) = true) : RBk s' t' := by
  simp only [Bool.and_eq_true] at d1 d2
  exact ⟨h.1.keep hs ht d1.1 d2.1, h.2.1.keep hs ht d1.2.1 d2.2.1, h.2.2.1.keep hs ht d1.2.2.1 d2.2.2.1, h.2.2.2.keep hs ht d1.2.2.2 d2.2.2.2⟩
/-- the counts laid back: the book is as it was -/
theorem RBk.eqv {a b s t : ev_M} (h : RBk a b) (c2 : s.1 30 2 = a.1 30 2) (c4 : s.1 30 4 = a.1 30 4) (c7 : s.1 30 7 = a.1 30 7) (c9 : s.1 30 9 = a.1 30 9) (m2 : t.1 549 24 = b.1 549 24) (m4 : t.1 549 27 = b.1 549 27) (m7 : t.1 549 33 = b.1 549 33) (m9 : t.1 549 38 = b.1 549 38) (hC : BxC a s) (hM : BxM a b s t) : RBk s t := by
  obtain ⟨⟨p1, p2, p3⟩, ⟨s1, s2, s3, s4, s5, s6, s7, s8, s9, s10, s11, s12⟩, ⟨r1, r2, r3, r4, r5, r6, r7, r8, r9⟩, ⟨o1, o2, o3, o4, o5, o6⟩⟩ := h
  obtain ⟨-, x5, x6, x7, x8⟩ := hC
  obtain ⟨y5, y6, y7, y8, -⟩ := hM
  refine ⟨?_, ?_, ?_, ?_⟩
  · unfold RPl
    rw [c2, m2]
    exact ⟨p1, fun q hq => by rw [x5 q hq, y5 q hq]; exact p2 q hq, fun i j hij hj => by rw [x5 i (by omega), x5 j hj]; exact p3 i j hij hj⟩
  · unfold RSt
    rw [c4, m4, c2]
    refine ⟨s1, fun q hq => ?_, fun q hq => ?_, fun q hq => ?_, fun q hq => ?_, fun q hq => ?_, fun q hq => ?_, fun q hq => ?_, fun q hq => ?_, fun q hq => ?_, fun q hq => ?_, fun i j hij hj => ?_⟩
    · rw [(x6 q hq).1, (y6 q hq).1]; exact s2 q hq
    · rw [(x6 q hq).2.1, (y6 q hq).2.1]; exact s3 q hq
    · rw [(x6 q hq).2.2.1, (y6 q hq).2.2.1]; exact s4 q hq
    · rw [(x6 q hq).2.2.2.1, (y6 q hq).2.2.2.1]; exact s5 q hq
    · rw [(x6 q hq).2.2.2.2, (y6 q hq).2.2.2.2]; exact s6 q hq
    · rw [(x6 q hq).1]; exact s7 q hq
    · rw [(x6 q hq).2.1]; exact s8 q hq
    · rw [(x6 q hq).2.2.1]; exact s9 q hq
    · rw [(x6 q hq).2.2.2.1]; exact s10 q hq
    · rw [(x6 q hq).2.2.2.2]; exact s11 q hq
    · rw [(x6 i (by omega)).2.2.2.1, (x6 j hj).2.2.2.1, (x6 i (by omega)).2.2.2.2, (x6 j hj).2.2.2.2]; exact s12 i j hij hj
  · unfold RRn
    rw [c7, m7, c4]
    refine ⟨r1, fun q hq => ?_, fun q hq => ?_, fun q hq => ?_, fun q hq => ?_, fun q hq => ?_, fun q hq => ?_, fun q hq => ?_, fun q hq => ?_⟩
    · rw [(x7 q hq).1, (y7 q hq).1]; exact r2 q hq
    · rw [(x7 q hq).2.1, (y7 q hq).2.1]; exact r3 q hq
    · rw [(x7 q hq).2.2.1, (y7 q hq).2.2.1]; exact r4 q hq
    · rw [(x7 q hq).2.2.2, (y7 q hq).2.2.2]; exact r5 q hq
    · rw [(x7 q hq).1]; exact r6 q hq
    · rw [(x7 q hq).2.1]; exact r7 q hq
    · rw [(x7 q hq).2.2.1]; exact r8 q hq
    · rw [(x7 q hq).2.2.2]; exact r9 q hq
  · unfold RPo
    rw [c9, m9, c4]
    refine ⟨o1, fun q hq => ?_, fun q hq => ?_, fun q hq => ?_, fun q hq => ?_, fun i j hij hj => ?_⟩
    · rw [(x8 q hq).1, (y8 q hq).1]; exact o2 q hq
    · rw [(x8 q hq).2, (y8 q hq).2.1]; exact o3 q hq
    · rw [(x8 q hq).1]; exact o4 q hq
    · rw [(x8 q hq).2]; exact o5 q hq
    · rw [(x8 i (by omega)).1, (x8 j hj).1, (x8 i (by omega)).2, (x8 j hj).2]; exact o6 i j hij hj
theorem cntE_ext {f : Nat → Int32} {x : Int32} {n : Nat} : ∀ m, n ≤ m → (∀ p, n ≤ p → p < m → ¬ f p = x) → cntE f x m = cntE f x n
  | 0, h, _ => by rw [show n = 0 by omega]
  | m + 1, h, hn => by
    by_cases z : n = m + 1
    · rw [z]
    · have ih := cntE_ext (f := f) (x := x) (n := n) m (by omega) (fun p h1 h2 => hn p h1 (by omega))
      simp only [cntE]
      rw [ih, if_neg (hn m (by omega) (by omega))]
      rfl
/-- points that are new are stops of no round -/
theorem RSp.ext {a b s t : ev_M} (h : RSp a b) (hC : BxC a s) (hM : BxM a b s t) (h120 : (s.1 30 9).toInt ≤ 120) (e138 : s.1 138 = a.1 138) (e143 : s.1 143 = a.1 143) (e158 : s.1 158 = a.1 158) (er : ∀ r, r < 12 → s.1 (146 + r) = a.1 (146 + r)) (e572 : t.1 572 = b.1 572) (h3 : (a.1 138 3).toInt ≤ 12) : RSp s t := by
  obtain ⟨q0, q1, q2, q3, q4, q5⟩ := h
  have g9 := hC.1.2.2.2
  have g9' := ix_mono g9
  have n120 : ix (s.1 30 9) ≤ 120 := by rw [ix_toNat]; omega
  obtain ⟨-, -, -, y8, y9⟩ := hM
  have rows : ∀ r, rowsOf s 146 12 r = rowsOf a 146 12 r := fun r => by
    unfold rowsOf
    by_cases z : r < 12
    · rw [if_pos z, if_pos z, er r z]
    · rw [if_neg z, if_neg z]
  unfold RSp
  rw [e138, e143, e158, e572]
  simp only [rows]
  refine ⟨fun r hr => ?_, q1, fun p hp => ?_, fun p h1 h2 => q3 p (by omega) h2, fun p hp => ?_, fun r k hr hk => ?_⟩
  · have n12 : ix (a.1 138 3) ≤ 12 := by rw [ix_toNat]; omega
    rw [q0 r hr, cntE_ext (ix (s.1 30 9)) g9' (fun p h1 h2 h3 => by
      rw [q3 p h1 (by omega)] at h3
      exact neg1_ne (n := r) (by omega) h3)]
  · by_cases z : p < ix (a.1 30 9)
    · rw [(y8 p z).2.2]; exact q2 p z
    · rw [y9 p (by omega) hp, q3 p (by omega) (by omega)]
  · by_cases z : p < ix (a.1 30 9)
    · exact q4 p z
    · exact Or.inl (q3 p (by omega) (by omega))
  · obtain ⟨w1, w2, w3⟩ := q5 r k hr hk
    exact ⟨⟨w1.1, by have := w1.2; omega⟩, w2, w3⟩
theorem ib1 {p : Nat} {s t : ev_M} (h : Ps1 p s t) (hB : RBk s t) : ∃ (s' t' : ev_M) (f : Int32), (∀ k33 x2 x3 x4 x5 x7, fBook_readText_1_b59 k33 s x2 x3 x4 x5 (cI (-1)) x7 = k33 s' x2 x3 x4 x5 f (x7 + cI 1)) ∧ (∀ k32 x1 x2 x3 x4 x5, fM_doBook_b54 k32 t x1 x2 x3 x4 x5 = k32 t' x1 x2 x3 x4 (x5 + cI 1) f) ∧ ((f = cI (-1) ∧ ∃ p', p < p' ∧ Ps1 p' s' t') ∨ (0 ≤ f.toInt ∧ f.toInt ≤ 4096)) ∧ RBk s' t' ∧ BxC s s' ∧ BxM s t s' t' ∧ fr (FrdC1 ++ FbkC) s s' ∧ fr (FrdM ++ FbkM) t t' := by
  have lA := lk1 h
  have pl := h.le
  obtain ⟨q1, q2⟩ := lb1 h
  have nope : ∀ {s1 t1 : ev_M} {p1 : Nat}, fTape_readsEntry_1_1010 s = some (s1, cI (-1)) → fM_entryOfBook t = some (t1, cI 0) → t1.1 549 140 = cI 1 → Ps1 p1 s1 t1 → fr FrdC1 s s1 → fr FrdM t t1 → ∃ (s' t' : ev_M) (f : Int32), (∀ k33 x2 x3 x4 x5 x7, fBook_readText_1_b59 k33 s x2 x3 x4 x5 (cI (-1)) x7 = k33 s' x2 x3 x4 x5 f (x7 + cI 1)) ∧ (∀ k32 x1 x2 x3 x4 x5, fM_doBook_b54 k32 t x1 x2 x3 x4 x5 = k32 t' x1 x2 x3 x4 (x5 + cI 1) f) ∧ ((f = cI (-1) ∧ ∃ p', p < p' ∧ Ps1 p' s' t') ∨ (0 ≤ f.toInt ∧ f.toInt ≤ 4096)) ∧ RBk s' t' ∧ BxC s s' ∧ BxM s t s' t' ∧ fr (FrdC1 ++ FbkC) s s' ∧ fr (FrdM ++ FbkM) t t' := by
    intro s1 t1 p1 a1 a2 a3 a4 a5 a6
    have pl1 := a4.le
    refine ⟨s1, t1, cI (p1 : Int), fun k33 x2 x3 x4 x5 x7 => ?_, fun k32 x1 x2 x3 x4 x5 => ?_, Or.inr ⟨by rw [q_ti (by omega)]; omega, by rw [q_ti (by omega)]; omega⟩, hB.keep a5 a6 (by decide +kernel) (by decide +kernel), BxC.of a5 (by decide +kernel), BxM.of (a5.1 30 9 (by decide +kernel)).1 a6 (by decide +kernel), a5.mono (by decide +kernel), a6.mono (by decide +kernel)⟩
    · unfold fBook_readText_1_b59 fBook_readText_1_b102
      rw [ltI_eq, a1, bd2_some, if_pos rfl, ltI_eq, a4.2.1]
    · unfold fM_doBook_b54 fM_doBook_b91
      rw [ltI_eq, a2, bd2_some, if_pos (show cI 0 = 0 from rfl), if_neg (by rw [a3]; decide), a4.2.2.1]
  have judge : ∀ {s1 t1 : ev_M} {p1 : Nat} {x a b c d : Int32} {nm : Int64}, fTape_readsEntry_1_1010 s = some (s1, x) → fM_entryOfBook t = RBL t1 x a nm b c d → (x = cI 80 ∨ x = cI 83 ∨ x = cI 82 ∨ x = cI 72) → s1.1 3 0 = a → (¬ x = cI 80 → s1.1 3 1 = b ∧ 0 ≤ b.toInt) → (x = cI 83 ∨ x = cI 82 → s1.1 3 2 = c ∧ s1.1 3 3 = d) → s1.2.1 1 5 = nm → Nm nm → t1.1 549 140 = 0 → Ps1 p1 s1 t1 → p < p1 → fr FrdC1 s s1 → fr FrdM t t1 → ∃ (s' t' : ev_M) (f : Int32), (∀ k33 x2 x3 x4 x5 x7, fBook_readText_1_b59 k33 s x2 x3 x4 x5 (cI (-1)) x7 = k33 s' x2 x3 x4 x5 f (x7 + cI 1)) ∧ (∀ k32 x1 x2 x3 x4 x5, fM_doBook_b54 k32 t x1 x2 x3 x4 x5 = k32 t' x1 x2 x3 x4 (x5 + cI 1) f) ∧ ((f = cI (-1) ∧ ∃ p', p < p' ∧ Ps1 p' s' t') ∨ (0 ≤ f.toInt ∧ f.toInt ≤ 4096)) ∧ RBk s' t' ∧ BxC s s' ∧ BxM s t s' t' ∧ fr (FrdC1 ++ FbkC) s s' ∧ fr (FrdM ++ FbkM) t t' := by
    intro s1 t1 p1 x a b c d nm a1 a2 hx e0 e1 e2 e5 hn a5 a8 a9 b1 b2
    obtain ⟨s2, t2, v, r1, r2, r3, r4, r5, r6, b3, b4⟩ := adds1 (hB.keep b1 b2 (by decide +kernel) (by decide +kernel)) hx e0 e1 e2 e5 hn
    have nx : ¬ x = cI (-1) := by rcases hx with u | u | u | u <;> rw [u] <;> decide
    have fC : fr (FrdC1 ++ FbkC) s s2 := (b1.mono (by decide +kernel)).tr (b3.mono (by decide +kernel))
    have fM : fr (FrdM ++ FbkM) t t2 := (b2.mono (by decide +kernel)).tr (b4.mono (by decide +kernel))
    have x1 : BxC s s1 := BxC.of b1 (by decide +kernel)
    have x2 : BxM s t s1 t1 := BxM.of (b1.1 30 9 (by decide +kernel)).1 b2 (by decide +kernel)
    have e140 : t2.1 549 140 = 0 := by rw [(b4.1 549 140 (by decide +kernel)).1]; exact a5
    rw [r2] at a2
    rcases r3 with a6 | a6
    · refine ⟨s2, t2, cI (p : Int), fun k33 x2 x3 x4 x5 x7 => ?_, fun k32 x1 x2 x3 x4 x5 => ?_, Or.inr ⟨by rw [q_ti (by omega)]; omega, by rw [q_ti (by omega)]; omega⟩, r4, x1.tr r5, BxM.tr x1 x2 r6, fC, fM⟩
      · unfold fBook_readText_1_b59 fBook_readText_1_b102
        rw [ltI_eq, a1, bd2_some, if_neg nx, r1, bd2_some, if_pos (show v = 0 by rw [a6]; rfl), h.2.1]
      · unfold fM_doBook_b54 fM_doBook_b91
        rw [ltI_eq, a2, bd2_some, if_pos (show v = 0 by rw [a6]; rfl), if_pos e140, h.2.2.1]
    · refine ⟨s2, t2, cI (-1), fun k33 x2 x3 x4 x5 x7 => ?_, fun k32 x1 x2 x3 x4 x5 => ?_, Or.inl ⟨rfl, p1, a9, ?_⟩, r4, x1.tr r5, BxM.tr x1 x2 r6, fC, fM⟩
      · unfold fBook_readText_1_b59 fBook_readText_1_b102
        rw [ltI_eq, a1, bd2_some, if_neg nx, r1, bd2_some, if_neg (show ¬ v = 0 by rw [a6]; decide)]
      · unfold fM_doBook_b54 fM_doBook_b91
        rw [ltI_eq, a2, bd2_some, if_neg (show ¬ v = 0 by rw [a6]; decide)]
      · obtain ⟨⟨y1, y2, y3, y4⟩, y5, y6, y7⟩ := a8
        refine ⟨⟨?_, ?_, ?_, fun k hk => ?_⟩, ?_, ?_, ?_⟩
        · rw [(b3.1 1 1 (by decide +kernel)).1, (b4.1 549 13 (by decide +kernel)).1]; exact y1
        · rw [(b3.1 1 1 (by decide +kernel)).1]; exact y2
        · rw [(b3.1 1 1 (by decide +kernel)).1]; exact y3
        · rw [(b3.1 1 1 (by decide +kernel)).1] at hk
          rw [cF (c := 554) b4 (by decide +kernel), cF (c := 2) b3 (by decide +kernel)]; exact y4 k hk
        · rw [(b3.1 1 2 (by decide +kernel)).1]; exact y5
        · rw [(b4.1 549 139 (by decide +kernel)).1]; exact y6
        · rw [(b3.1 1 1 (by decide +kernel)).1]; exact y7
  -- the four letters
  by_cases z1 : tx1 s p = cI 80
  · have hp := tx1_lt z1 (by decide)
    obtain ⟨P1, f1, n1, fr1, gr1⟩ := h.lt hp
    rw [z1] at lA
    obtain ⟨s', t', p', l, n, a1, a2, a3, a4, a5, a6⟩ := sq1_1010 (x2 := cI 80) [35, 44, 64, 59] 1 0 (p + 1) 1048576 (bfL1 s) (afL t) (by unfold Shp; decide) (by decide) (by decide) (by decide) (by decide) P1 f1 n1
    obtain ⟨a, e1, e2⟩ := entP lA a1
    have k := q2 80 1 (by decide) (by decide) (Or.inl ⟨rfl, rfl⟩) z1
    rcases a6 with ⟨b1, b2⟩ | ⟨b1, b2, b3, b4, b5, b6, -⟩
    · exact nope (k.trans b2) (by rw [e2, if_neg (by rw [b1]; decide)]) b1 a3 (fr1.tr a4) (gr1.tr a5)
    · subst e1
      exact judge (a := a) (b := cI 0) (c := cI 0) (d := cI 0) (nm := n) (k.trans b3) (by rw [e2, if_pos b1]) (Or.inl rfl) (b5 0 (show 0 < 1 by decide)).1 (fun u => absurd rfl u) (fun u => by rcases u with u | u <;> exact absurd u (by decide)) (b6 (by decide)) (a1.nm b1) b1 a3 (by omega) (fr1.tr a4) (gr1.tr a5)
  by_cases z2 : tx1 s p = cI 83
  · have hp := tx1_lt z2 (by decide)
    obtain ⟨P1, f1, n1, fr1, gr1⟩ := h.lt hp
    rw [z2] at lA
    obtain ⟨s', t', p', l, n, a1, a2, a3, a4, a5, a6⟩ := sq1_1010 (x2 := cI 83) [35, 44, 64, 44, 35, 44, 35, 44, 35, 59] 6 0 (p + 1) 1048576 (bfL1 s) (afL t) (by unfold Shp; decide) (by decide) (by decide) (by decide) (by decide) P1 f1 n1
    obtain ⟨a, b, c, d, e1, e2⟩ := entS lA (Or.inl rfl) a1
    have k := q2 83 6 (by decide) (by decide) (Or.inr (Or.inl ⟨rfl, rfl⟩)) z2
    rcases a6 with ⟨b1, b2⟩ | ⟨b1, b2, b3, b4, b5, b6, -⟩
    · exact nope (k.trans b2) (by rw [e2, if_neg (by rw [b1]; decide)]) b1 a3 (fr1.tr a4) (gr1.tr a5)
    · subst e1
      exact judge (a := a) (b := b) (c := c) (d := d) (nm := n) (k.trans b3) (by rw [e2, if_pos b1]) (Or.inr (Or.inl rfl)) (b5 0 (show 0 < 4 by decide)).1 (fun _ => ⟨(b5 1 (show 1 < 4 by decide)).1, (b5 1 (show 1 < 4 by decide)).2.1⟩) (fun _ => ⟨(b5 2 (show 2 < 4 by decide)).1, (b5 3 (show 3 < 4 by decide)).1⟩) (b6 (by decide)) (a1.nm b1) b1 a3 (by omega) (fr1.tr a4) (gr1.tr a5)
  by_cases z3 : tx1 s p = cI 82
  · have hp := tx1_lt z3 (by decide)
    obtain ⟨P1, f1, n1, fr1, gr1⟩ := h.lt hp
    rw [z3] at lA
    obtain ⟨s', t', p', l, n, a1, a2, a3, a4, a5, a6⟩ := sq1_1010 (x2 := cI 82) [35, 44, 64, 44, 35, 44, 35, 44, 35, 59] 17 0 (p + 1) 1048576 (bfL1 s) (afL t) (by unfold Shp; decide) (by decide) (by decide) (by decide) (by decide) P1 f1 n1
    obtain ⟨a, b, c, d, e1, e2⟩ := entS lA (Or.inr rfl) a1
    have k := q2 82 17 (by decide) (by decide) (Or.inr (Or.inr (Or.inl ⟨rfl, rfl⟩))) z3
    rcases a6 with ⟨b1, b2⟩ | ⟨b1, b2, b3, b4, b5, b6, -⟩
    · exact nope (k.trans b2) (by rw [e2, if_neg (by rw [b1]; decide)]) b1 a3 (fr1.tr a4) (gr1.tr a5)
    · subst e1
      exact judge (a := a) (b := b) (c := c) (d := d) (nm := n) (k.trans b3) (by rw [e2, if_pos b1]) (Or.inr (Or.inr (Or.inl rfl))) (b5 0 (show 0 < 4 by decide)).1 (fun _ => ⟨(b5 1 (show 1 < 4 by decide)).1, (b5 1 (show 1 < 4 by decide)).2.1⟩) (fun _ => ⟨(b5 2 (show 2 < 4 by decide)).1, (b5 3 (show 3 < 4 by decide)).1⟩) (b6 (by decide)) (a1.nm b1) b1 a3 (by omega) (fr1.tr a4) (gr1.tr a5)
  by_cases z4 : tx1 s p = cI 72
  · have hp := tx1_lt z4 (by decide)
    obtain ⟨P1, f1, n1, fr1, gr1⟩ := h.lt hp
    rw [z4] at lA
    obtain ⟨s', t', p', l, n, a1, a2, a3, a4, a5, a6⟩ := sq1_1010 (x2 := cI 72) [35, 44, 64, 44, 35, 59] 28 0 (p + 1) 1048576 (bfL1 s) (afL t) (by unfold Shp; decide) (by decide) (by decide) (by decide) (by decide) P1 f1 n1
    obtain ⟨a, b, e1, e2⟩ := entHo lA a1
    have k := q2 72 28 (by decide) (by decide) (Or.inr (Or.inr (Or.inr ⟨rfl, rfl⟩))) z4
    rcases a6 with ⟨b1, b2⟩ | ⟨b1, b2, b3, b4, b5, b6, -⟩
    · exact nope (k.trans b2) (by rw [e2, if_neg (by rw [b1]; decide)]) b1 a3 (fr1.tr a4) (gr1.tr a5)
    · subst e1
      exact judge (a := a) (b := b) (c := cI 0) (d := cI 0) (nm := n) (k.trans b3) (by rw [e2, if_pos b1]) (Or.inr (Or.inr (Or.inr rfl))) (b5 0 (show 0 < 2 by decide)).1 (fun _ => ⟨(b5 1 (show 1 < 2 by decide)).1, (b5 1 (show 1 < 2 by decide)).2.1⟩) (fun u => by rcases u with u | u <;> exact absurd u (by decide)) (b6 (by decide)) (a1.nm b1) b1 a3 (by omega) (fr1.tr a4) (gr1.tr a5)
  have f1 : fr FrdC1 s (wI s 1 4 (cI 0)) := fr.rf.wI rfl
  have f2 : fr FrdM t (wI t 549 140 (cI 1)) := fr.rf.wI rfl
  exact nope (p1 := p) (q1 z1 z2 z3 z4) (entF lA z1 z2 z3 z4) (by rw [wI_c, up1_eq]) ⟨h.1.kp f1 f2, by rw [wI_c, up1_ne (by decide)]; exact h.2.1, by rw [wI_c, up1_ne (by decide)]; exact h.2.2.1, by rw [wI_c, up1_ne (by decide)]; exact h.2.2.2⟩ f1 f2
theorem tb1 {x1 x2 x3 x4 : Int32} : ∀ (r m m' k p : Nat) (s t : ev_M), ix (s.1 1 1) < p + r → r < m → r < m' → Ps1 p s t → RBk s t → k ≤ p → ∃ (s' t' : ev_M) (f : Int32) (k' : Nat), fBook_readText_1_h33 m s x1 x2 x3 x4 (cI (-1)) (cI (k : Int)) = fBook_readText_1_b108 s' x1 x2 x3 x4 f (cI (k' : Int)) ∧ fM_doBook_h32 m' t x1 x2 x3 x4 (cI (k : Int)) (cI (-1)) = fM_doBook_b99 t' x1 x2 x3 x4 (cI (k' : Int)) f ∧ (f = cI (-1) ∨ (0 ≤ f.toInt ∧ f.toInt ≤ 4096)) ∧ RBk s' t' ∧ BxC s s' ∧ BxM s t s' t' ∧ fr (FrdC1 ++ FbkC) s s' ∧ fr (FrdM ++ FbkM) t t'
  | 0, m, m', k, p, s, t, hr, hm, hm', hP, hB, hk => by
    have := hP.2.2.2
    omega
  | r + 1, m, m', k, p, s, t, hr, hm, hm', hP, hB, hk => by
    obtain ⟨m, rfl⟩ : ∃ k, m = k + 1 := ⟨m - 1, by omega⟩
    obtain ⟨m', rfl⟩ : ∃ k, m' = k + 1 := ⟨m' - 1, by omega⟩
    obtain ⟨m', rfl⟩ : ∃ k, m' = k + 1 := ⟨m' - 1, by omega⟩
    obtain ⟨m, rfl⟩ : ∃ k, m = k + 1 := ⟨m - 1, by omega⟩
    have pl := hP.le
    obtain ⟨⟨t1, t2, t3, t4⟩, p1, p2, p3⟩ := id hP
    have ll := ix_toNat (s.1 1 1)
    have ek0 : cI (k : Int) = 0 ↔ k = 0 := by rw [eq_i, q_ti (by omega), i32_0]; omega
    have em : (s.1 1 2 < s.1 1 1) ↔ p < ix (s.1 1 1) := by rw [p1, lt_i, q_ti (by omega)]; omega
    have em2 : (t.1 549 139 < t.1 549 13) ↔ p < ix (s.1 1 1) := by rw [p2, t1, lt_i, q_ti (by omega)]; omega
    by_cases z : k = 0 ∨ p < ix (s.1 1 1)
    · obtain ⟨s1, t1', f, a1, a2, a3, a4, c5, c6, a5, a6⟩ := ib1 hP hB
      have kC : fBook_readText_1_h33 (m + 1 + 1) s x1 x2 x3 x4 (cI (-1)) (cI (k : Int)) = fBook_readText_1_h33 (m + 1) s1 x1 x2 x3 x4 f (cI ((k + 1 : Nat) : Int)) := by
        rw [fBook_readText_1_h33, if_pos rfl, if_pos (by rw [lt_i, q_ti (by omega), show (cI 4096).toInt = 4096 from rfl]; omega)]
        by_cases y : k = 0
        · rw [if_pos (ek0.mpr y), a1, q_s (by omega)]
        · rw [if_neg (fun u => y (ek0.mp u))]
          unfold fTape_hasMore_1
          rw [if_pos (em.mpr (z.resolve_left y)), bd1_some, if_neg (show ¬ (cI 1 : Int32) = 0 by decide), a1, q_s (by omega)]
      have kM : fM_doBook_h32 (m' + 1 + 1) t x1 x2 x3 x4 (cI (k : Int)) (cI (-1)) = fM_doBook_h32 (m' + 1) t1' x1 x2 x3 x4 (cI ((k + 1 : Nat) : Int)) f := by
        rw [fM_doBook_h32, if_pos rfl]
        by_cases y : p < ix (s.1 1 1)
        · rw [if_pos (em2.mpr y), a2, q_s (by omega)]
        · rw [if_neg (fun u => y (em2.mp u)), if_pos (ek0.mpr (z.resolve_right y)), a2, q_s (by omega)]
      rcases a3 with ⟨b1, p', b3, b4⟩ | ⟨b1, b2⟩
      · have el : s1.1 1 1 = s.1 1 1 := (a5.1 1 1 (by decide +kernel)).1
        obtain ⟨s', t', f', k', d1, d2, d3, d4, d5, d6, d7, d8⟩ := tb1 (x1 := x1) (x2 := x2) (x3 := x3) (x4 := x4) r (m + 1) (m' + 1) (k + 1) p' s1 t1' (by rw [el]; omega) (by omega) (by omega) b4 a4 (by omega)
        rw [b1] at kC kM
        exact ⟨s', t', f', k', kC.trans d1, kM.trans d2, d3, d4, c5.tr d5, BxM.tr c5 c6 d6, a5.tr d7, a6.tr d8⟩
      · have nf : ¬ f = cI (-1) := fun u => by rw [u] at b1; exact absurd b1 (by decide)
        refine ⟨s1, t1', f, k + 1, kC.trans ?_, kM.trans ?_, Or.inr ⟨b1, b2⟩, a4, c5, c6, a5, a6⟩
        · rw [fBook_readText_1_h33, if_neg nf]
        · rw [fM_doBook_h32, if_neg nf]
    · have z1 : ¬ k = 0 := fun u => z (Or.inl u)
      have z2 : ¬ p < ix (s.1 1 1) := fun u => z (Or.inr u)
      refine ⟨s, t, cI (-1), k, ?_, ?_, Or.inl rfl, hB, BxC.rf, BxM.rf, fr.rf, fr.rf⟩
      · rw [fBook_readText_1_h33, if_pos rfl, if_neg (fun u => z1 (ek0.mp u))]
        unfold fTape_hasMore_1
        rw [if_neg (fun u => z2 (em.mp u)), bd1_some, if_pos (show (cI 0 : Int32) = 0 from rfl), ite_self]
      · rw [fM_doBook_h32, if_pos rfl, if_neg (fun u => z2 (em2.mp u)), if_neg (fun u => z1 (ek0.mp u))]
theorem a_book1 {s t : ev_M} {F : Bool} {A : Nat → Nat → Int32} (hA : AdmC s F A) (hM : FulM t F) (h0 : t.1 549 15 = 0) (h : RBk s t) (hp : RSp s t) (h3 : (s.1 138 3).toInt ≤ 12) (hx : RTx1 s t) : Ok (fBook_readText_1 s) fun x => Ok (fM_doBook t) fun y => AP (fun s' t' => RBk s' t' ∧ RSp s' t' ∧ BxC s s') (fun s' t' => RBk s' t' ∧ RSp s' t' ∧ BxC s s') F A s x y := by
  obtain ⟨⟨⟨l1, -⟩, -⟩, ⟨⟨l2, -⟩, -⟩, ⟨⟨l3, -⟩, -⟩, ⟨⟨l4, -⟩, -⟩⟩ := id h
  obtain ⟨s0, es0⟩ : ∃ x, x = wI s 1 2 (cI 0) := ⟨_, rfl⟩
  obtain ⟨t0, et0⟩ : ∃ x, x = wI t 549 139 (cI 0) := ⟨_, rfl⟩
  have fs0 : fr FrdC1 s s0 := by rw [es0]; exact fr.rf.wI rfl
  have ft0 : fr FrdM t t0 := by rw [et0]; exact fr.rf.wI rfl
  have P0 : Ps1 0 s0 t0 := ⟨hx.kp fs0 ft0, by rw [es0, wI_c, up1_eq]; rfl, by rw [et0, wI_c, up1_eq]; rfl, Nat.zero_le _⟩
  have L4 : ix (s0.1 1 1) ≤ 4096 := by
    have := P0.1.2.2.1
    rw [ix_toNat]; omega
  obtain ⟨s1, t1, f, k, d1, d2, d3, d4, d5, d6, d7, d8⟩ := tb1 (x1 := s.1 30 2) (x2 := s.1 30 4) (x3 := s.1 30 7) (x4 := s.1 30 9) (ix (s0.1 1 1) + 1) 1048576 1048576 0 0 s0 t0 (by omega) (by omega) (by omega) P0 (h.keep fs0 ft0 (by decide +kernel) (by decide +kernel)) (Nat.le_refl _)
  have X0 : BxC s s0 := BxC.of fs0 (by decide +kernel)
  have X1 : BxC s s1 := X0.tr d5
  have Y0 : BxM s t s0 t0 := BxM.of (fs0.1 30 9 (by decide +kernel)).1 ft0 (by decide +kernel)
  have Y1 : BxM s t s1 t1 := BxM.tr X0 Y0 d6
  have fs1 : fr (FrdC1 ++ FbkC) s s1 := (fs0.mono (by decide +kernel)).tr d7
  have ft1 : fr (FrdM ++ FbkM) t t1 := (ft0.mono (by decide +kernel)).tr d8
  have kC : fBook_readText_1 s = fBook_readText_1_b108 s1 (s.1 30 2) (s.1 30 4) (s.1 30 7) (s.1 30 9) f (cI (k : Int)) := by
    unfold fBook_readText_1
    rw [ltI_eq, ltI_eq, ltI_eq, ltI_eq, ltM_eq, ← es0]
    exact d1
  have kM : fM_doBook t = fM_doBook_b99 t1 (s.1 30 2) (s.1 30 4) (s.1 30 7) (s.1 30 9) (cI (k : Int)) f := by
    unfold fM_doBook
    rw [ltI_eq, ltI_eq, ltI_eq, ltI_eq, ltM_eq, ← et0, l1, l2, l3, l4]
    exact d2
  have sS1 : lgS s s1 := lgS.fr fs1 (by decide +kernel) (by decide +kernel)
  have sT1 : lgT t t1 := ⟨(ft1.1 549 4 (by decide +kernel)).1, (ft1.1 549 9 (by decide +kernel)).1, (ft1.1 549 13 (by decide +kernel)).1, (ft1.1 549 14 (by decide +kernel)).1, (ft1.1 549 16 (by decide +kernel)).1⟩
  have h120 : (s1.1 30 9).toInt ≤ 120 := d4.2.2.2.1.2.2
  have rsp : ∀ {s2 t2 : ev_M}, BxC s s2 → BxM s t s2 t2 → (s2.1 30 9).toInt ≤ 120 → fr (FrdC1 ++ FbkC) s s2 → t2.1 572 = t.1 572 → RSp s2 t2 := by
    intro s2 t2 g1 g2 g3 g4 g5
    exact hp.ext g1 g2 g3 (cF (c := 138) g4 (by decide +kernel)) (cF (c := 143) g4 (by decide +kernel)) (cF (c := 158) g4 (by decide +kernel)) (fun r hr => by
      have : ∀ r, r < 12 → nof (FrdC1 ++ FbkC) [(146 + r, 0)] = true := by decide +kernel
      exact cF (c := 146 + r) g4 (this r hr)) g5 h3
  -- refused: the counts are laid back
  obtain ⟨s2, es2⟩ : ∃ x, x = wI (wI (wI (wI s1 30 2 (s.1 30 2)) 30 4 (s.1 30 4)) 30 7 (s.1 30 7)) 30 9 (s.1 30 9) := ⟨_, rfl⟩
  obtain ⟨t2, et2⟩ : ∃ x, x = wI (wI (wI (wI (wI t1 549 24 (s.1 30 2)) 549 27 (s.1 30 4)) 549 33 (s.1 30 7)) 549 38 (s.1 30 9)) 549 15 (cI 1) := ⟨_, rfl⟩
  have fs2 : fr (FrdC1 ++ FbkC) s s2 := by rw [es2]; exact (((fs1.wI rfl).wI rfl).wI rfl).wI rfl
  have c30 : s2.1 30 2 = s.1 30 2 ∧ s2.1 30 4 = s.1 30 4 ∧ s2.1 30 7 = s.1 30 7 ∧ s2.1 30 9 = s.1 30 9 := by
    rw [es2]
    simp (disch := decide) only [ix_0, ix_1, ix_2, ix_3, ix_4, ix_5, ix_6, ix_7, ix_8, ix_9, ix_10, ix_11, ix_12, ix_13, ix_14, ix_15, ix_16, ix_17, ix_18, ix_19, ix_20, ix_21, Nat.reduceAdd, wI_c, wI_ne, wL_1, lupd_ne, up1_eq, up1_ne]
    exact ⟨trivial, trivial, trivial, trivial⟩
  obtain ⟨c2, c4, c7, c9⟩ := c30
  have X2 : BxC s s2 := by
    obtain ⟨-, x5, x6, x7, x8⟩ := X1
    refine ⟨⟨by rw [c2]; exact Int.le_refl _, by rw [c4]; exact Int.le_refl _, by rw [c7]; exact Int.le_refl _, by rw [c9]; exact Int.le_refl _⟩, ?_, ?_, ?_, ?_⟩ <;> rw [es2] <;> simp (disch := decide) only [ix_0, ix_1, ix_2, ix_3, ix_4, ix_5, ix_6, ix_7, ix_8, ix_9, ix_10, ix_11, ix_12, ix_13, ix_14, ix_15, ix_16, ix_17, ix_18, ix_19, ix_20, ix_21, Nat.reduceAdd, wI_c, wI_ne, wL_1, lupd_ne, up1_eq, up1_ne]
    · exact x5
    · exact x6
    · exact x7
    · exact x8
  have g30 : (s.1 30 9).toInt ≤ (s1.1 30 9).toInt := X1.1.2.2.2
  have Y2 : BxM s t s2 t2 := by
    obtain ⟨y5, y6, y7, y8, y9⟩ := Y1
    refine ⟨?_, ?_, ?_, ?_, fun q h1 h2 => by rw [c9] at h2; omega⟩ <;> rw [et2] <;> simp (disch := decide) only [ix_0, ix_1, ix_2, ix_3, ix_4, ix_5, ix_6, ix_7, ix_8, ix_9, ix_10, ix_11, ix_12, ix_13, ix_14, ix_15, ix_16, ix_17, ix_18, ix_19, ix_20, ix_21, Nat.reduceAdd, wI_c, wI_ne, wL_1, lupd_ne, up1_eq, up1_ne]
    · exact y5
    · exact y6
    · exact y7
    · exact y8
  have B2 : RBk s2 t2 := by
    refine h.eqv c2 c4 c7 c9 ?_ ?_ ?_ ?_ X2 Y2 <;> rw [et2] <;> simp (disch := decide) only [ix_0, ix_1, ix_2, ix_3, ix_4, ix_5, ix_6, ix_7, ix_8, ix_9, ix_10, ix_11, ix_12, ix_13, ix_14, ix_15, ix_16, ix_17, ix_18, ix_19, ix_20, ix_21, Nat.reduceAdd, wI_c, wI_ne, wL_1, lupd_ne, up1_eq, up1_ne]
    · exact l1.symm
    · exact l2.symm
    · exact l3.symm
    · exact l4.symm
  have S2 : RSp s2 t2 := rsp X2 Y2 (by rw [c9]; omega) fs2 (by
    rw [et2]
    simp (disch := decide) only [ix_0, ix_1, ix_2, ix_3, ix_4, ix_5, ix_6, ix_7, ix_8, ix_9, ix_10, ix_11, ix_12, ix_13, ix_14, ix_15, ix_16, ix_17, ix_18, ix_19, ix_20, ix_21, Nat.reduceAdd, wI_c, wI_ne, wL_1, lupd_ne, up1_eq, up1_ne]
    exact cF (c := 572) ft1 (by decide +kernel))
  have t15 : t2.1 549 15 = 1 := by rw [et2, wI_c, up1_eq]; rfl
  have kF : fBook_keepFirst s1 (s.1 30 2) (s.1 30 4) (s.1 30 7) (s.1 30 9) = some s2 := by
    unfold fBook_keepFirst
    rw [ltM_eq, ltM_eq, ltM_eq, ltM_eq, es2]
  have sS2 : lgS s s2 := lgS.fr fs2 (by decide +kernel) (by decide +kernel)
  have k130 : ∀ x7, fM_doBook_b130 t1 (s.1 30 2) (s.1 30 4) (s.1 30 7) (s.1 30 9) f x7 = if x7 = 0 then some (t2, cI (-1000) - f) else some (t2, cI (-104)) := by
    intro x7
    unfold fM_doBook_b130 fM_doBook_b168
    rw [ltM_eq, ltM_eq, ltM_eq, ltM_eq, no_eq, no_eq, bd2_some, bd2_some, ← et2]
  rw [kC, kM]
  rcases d3 with d3 | ⟨d3, d3'⟩
  · subst d3
    unfold fBook_readText_1_b108 fM_doBook_b99
    rw [if_pos rfl, if_pos rfl]
    by_cases hF : F = true
    · subst hF
      have aY : fLog_admits s1 = some (s1, 0) := hA s1 sS1
      have bY : fM_full t1 = some 1 := hM t1 sT1
      rw [aY, bd2_some, bY, bd1_some, if_pos rfl, if_neg (show ¬ (1 : Int32) = 0 by decide)]
      unfold fBook_readText_1_b127 fM_doBook_b117
      rw [kF, bd1_some, if_pos rfl, if_pos rfl, if_neg (show ¬ (cI 1 : Int32) = 0 by decide), k130, if_neg (show ¬ (cI 1 : Int32) = 0 by decide), ok_some, ok_some]
      exact ⟨rfl, Or.inl ⟨t15, sS2, B2, S2, X2⟩⟩
    · have hF2 : F = false := by cases F <;> simp_all
      subst hF2
      have aY : fLog_admits s1 = some (lupd A s1, 1) := hA s1 sS1
      have bY : fM_full t1 = some 0 := hM t1 sT1
      rw [aY, bd2_some, bY, bd1_some, if_neg (show ¬ (1 : Int32) = 0 by decide), if_pos rfl]
      unfold fM_doBook_b116 fM_doBook_b117
      rw [if_pos rfl, if_pos (show (cI 0 : Int32) = 0 from rfl), ok_some, ok_some]
      have q1 : fr (FrdC1 ++ FbkC) (lupd A s) (lupd A s1) := by
        refine ⟨fun c k hc => ⟨?_, ?_⟩, ?_⟩
        · show (if 9 ≤ c ∧ c ≤ 14 then A c k else s1.1 c k) = (if 9 ≤ c ∧ c ≤ 14 then A c k else s.1 c k)
          by_cases y : 9 ≤ c ∧ c ≤ 14
          · rw [if_pos y, if_pos y]
          · rw [if_neg y, if_neg y]; exact (fs1.1 c k hc).1
        · exact (fs1.1 c k hc).2
        · exact fs1.2
      have B1 : RBk (lupd A s1) t1 := d4.keep lupd_fr rf_fr (by decide +kernel) (by decide +kernel)
      have S1 : RSp s1 t1 := rsp X1 Y1 h120 fs1 (cF (c := 572) ft1 (by decide +kernel))
      refine ⟨rfl, Or.inr ⟨?_, rfl, lgS.fr q1 (by decide +kernel) (by decide +kernel), B1, S1.keep lupd_fr rf_fr (by decide +kernel) (by decide +kernel), X1.tr (BxC.of lupd_fr (by decide +kernel))⟩⟩
      rw [(ft1.1 549 15 (by decide +kernel)).1]; exact h0
  · have nf : ¬ f = cI (-1) := fun u => by rw [u] at d3; exact absurd d3 (by decide)
    unfold fBook_readText_1_b108 fM_doBook_b99 fBook_readText_1_b127 fM_doBook_b116 fM_doBook_b117
    rw [if_neg nf, if_neg nf, kF, bd1_some, if_neg nf, if_neg nf, k130, if_pos (show (cI 0 : Int32) = 0 from rfl), ok_some, ok_some]
    exact ⟨rfl, Or.inl ⟨t15, sS2, B2, S2, X2⟩⟩
theorem ib4 {p : Nat} {s t : ev_M} (h : Ps4 p s t) (hB : RBk s t) : ∃ (s' t' : ev_M) (f : Int32), (∀ k33 x2 x3 x4 x5 x7, fBook_readText_4_b59 k33 s x2 x3 x4 x5 (cI (-1)) x7 = k33 s' x2 x3 x4 x5 f (x7 + cI 1)) ∧ (∀ k32 x1 x2 x3 x4 x5, fM_doBook_b54 k32 t x1 x2 x3 x4 x5 = k32 t' x1 x2 x3 x4 (x5 + cI 1) f) ∧ ((f = cI (-1) ∧ ∃ p', p < p' ∧ Ps4 p' s' t') ∨ (0 ≤ f.toInt ∧ f.toInt ≤ 4096)) ∧ RBk s' t' ∧ BxC s s' ∧ BxM s t s' t' ∧ fr (FrdC4 ++ FbkC) s s' ∧ fr (FrdM ++ FbkM) t t' := by
  have lA := lk4 h
  have pl := h.le
  obtain ⟨q1, q2⟩ := lb4 h
  have nope : ∀ {s1 t1 : ev_M} {p1 : Nat}, fTape_readsEntry_4_1010 s = some (s1, cI (-1)) → fM_entryOfBook t = some (t1, cI 0) → t1.1 549 140 = cI 1 → Ps4 p1 s1 t1 → fr FrdC4 s s1 → fr FrdM t t1 → ∃ (s' t' : ev_M) (f : Int32), (∀ k33 x2 x3 x4 x5 x7, fBook_readText_4_b59 k33 s x2 x3 x4 x5 (cI (-1)) x7 = k33 s' x2 x3 x4 x5 f (x7 + cI 1)) ∧ (∀ k32 x1 x2 x3 x4 x5, fM_doBook_b54 k32 t x1 x2 x3 x4 x5 = k32 t' x1 x2 x3 x4 (x5 + cI 1) f) ∧ ((f = cI (-1) ∧ ∃ p', p < p' ∧ Ps4 p' s' t') ∨ (0 ≤ f.toInt ∧ f.toInt ≤ 4096)) ∧ RBk s' t' ∧ BxC s s' ∧ BxM s t s' t' ∧ fr (FrdC4 ++ FbkC) s s' ∧ fr (FrdM ++ FbkM) t t' := by
    intro s1 t1 p1 a1 a2 a3 a4 a5 a6
    have pl1 := a4.le
    refine ⟨s1, t1, cI (p1 : Int), fun k33 x2 x3 x4 x5 x7 => ?_, fun k32 x1 x2 x3 x4 x5 => ?_, Or.inr ⟨by rw [q_ti (by omega)]; omega, by rw [q_ti (by omega)]; omega⟩, hB.keep a5 a6 (by decide +kernel) (by decide +kernel), BxC.of a5 (by decide +kernel), BxM.of (a5.1 30 9 (by decide +kernel)).1 a6 (by decide +kernel), a5.mono (by decide +kernel), a6.mono (by decide +kernel)⟩
    · unfold fBook_readText_4_b59 fBook_readText_4_b102
      rw [ltI_eq, a1, bd2_some, if_pos rfl, ltI_eq, a4.2.1]
    · unfold fM_doBook_b54 fM_doBook_b91
      rw [ltI_eq, a2, bd2_some, if_pos (show cI 0 = 0 from rfl), if_neg (by rw [a3]; decide), a4.2.2.1]
  have judge : ∀ {s1 t1 : ev_M} {p1 : Nat} {x a b c d : Int32} {nm : Int64}, fTape_readsEntry_4_1010 s = some (s1, x) → fM_entryOfBook t = RBL t1 x a nm b c d → (x = cI 80 ∨ x = cI 83 ∨ x = cI 82 ∨ x = cI 72) → s1.1 6 0 = a → (¬ x = cI 80 → s1.1 6 1 = b ∧ 0 ≤ b.toInt) → (x = cI 83 ∨ x = cI 82 → s1.1 6 2 = c ∧ s1.1 6 3 = d) → s1.2.1 4 5 = nm → Nm nm → t1.1 549 140 = 0 → Ps4 p1 s1 t1 → p < p1 → fr FrdC4 s s1 → fr FrdM t t1 → ∃ (s' t' : ev_M) (f : Int32), (∀ k33 x2 x3 x4 x5 x7, fBook_readText_4_b59 k33 s x2 x3 x4 x5 (cI (-1)) x7 = k33 s' x2 x3 x4 x5 f (x7 + cI 1)) ∧ (∀ k32 x1 x2 x3 x4 x5, fM_doBook_b54 k32 t x1 x2 x3 x4 x5 = k32 t' x1 x2 x3 x4 (x5 + cI 1) f) ∧ ((f = cI (-1) ∧ ∃ p', p < p' ∧ Ps4 p' s' t') ∨ (0 ≤ f.toInt ∧ f.toInt ≤ 4096)) ∧ RBk s' t' ∧ BxC s s' ∧ BxM s t s' t' ∧ fr (FrdC4 ++ FbkC) s s' ∧ fr (FrdM ++ FbkM) t t' := by
    intro s1 t1 p1 x a b c d nm a1 a2 hx e0 e1 e2 e5 hn a5 a8 a9 b1 b2
    obtain ⟨s2, t2, v, r1, r2, r3, r4, r5, r6, b3, b4⟩ := adds4 (hB.keep b1 b2 (by decide +kernel) (by decide +kernel)) hx e0 e1 e2 e5 hn
    have nx : ¬ x = cI (-1) := by rcases hx with u | u | u | u <;> rw [u] <;> decide
    have fC : fr (FrdC4 ++ FbkC) s s2 := (b1.mono (by decide +kernel)).tr (b3.mono (by decide +kernel))
    have fM : fr (FrdM ++ FbkM) t t2 := (b2.mono (by decide +kernel)).tr (b4.mono (by decide +kernel))
    have x1 : BxC s s1 := BxC.of b1 (by decide +kernel)
    have x2 : BxM s t s1 t1 := BxM.of (b1.1 30 9 (by decide +kernel)).1 b2 (by decide +kernel)
    have e140 : t2.1 549 140 = 0 := by rw [(b4.1 549 140 (by decide +kernel)).1]; exact a5
    rw [r2] at a2
    rcases r3 with a6 | a6
    · refine ⟨s2, t2, cI (p : Int), fun k33 x2 x3 x4 x5 x7 => ?_, fun k32 x1 x2 x3 x4 x5 => ?_, Or.inr ⟨by rw [q_ti (by omega)]; omega, by rw [q_ti (by omega)]; omega⟩, r4, x1.tr r5, BxM.tr x1 x2 r6, fC, fM⟩
      · unfold fBook_readText_4_b59 fBook_readText_4_b102
        rw [ltI_eq, a1, bd2_some, if_neg nx, r1, bd2_some, if_pos (show v = 0 by rw [a6]; rfl), h.2.1]
      · unfold fM_doBook_b54 fM_doBook_b91
        rw [ltI_eq, a2, bd2_some, if_pos (show v = 0 by rw [a6]; rfl), if_pos e140, h.2.2.1]
    · refine ⟨s2, t2, cI (-1), fun k33 x2 x3 x4 x5 x7 => ?_, fun k32 x1 x2 x3 x4 x5 => ?_, Or.inl ⟨rfl, p1, a9, ?_⟩, r4, x1.tr r5, BxM.tr x1 x2 r6, fC, fM⟩
      · unfold fBook_readText_4_b59 fBook_readText_4_b102
        rw [ltI_eq, a1, bd2_some, if_neg nx, r1, bd2_some, if_neg (show ¬ v = 0 by rw [a6]; decide)]
      · unfold fM_doBook_b54 fM_doBook_b91
        rw [ltI_eq, a2, bd2_some, if_neg (show ¬ v = 0 by rw [a6]; decide)]
      · obtain ⟨⟨y1, y2, y3, y4⟩, y5, y6, y7⟩ := a8
        refine ⟨⟨?_, ?_, ?_, fun k hk => ?_⟩, ?_, ?_, ?_⟩
        · rw [(b3.1 4 1 (by decide +kernel)).1, (b4.1 549 13 (by decide +kernel)).1]; exact y1
        · rw [(b3.1 4 1 (by decide +kernel)).1]; exact y2
        · rw [(b3.1 4 1 (by decide +kernel)).1]; exact y3
        · rw [(b3.1 4 1 (by decide +kernel)).1] at hk
          rw [cF (c := 554) b4 (by decide +kernel), cF (c := 5) b3 (by decide +kernel)]; exact y4 k hk
        · rw [(b3.1 4 2 (by decide +kernel)).1]; exact y5
        · rw [(b4.1 549 139 (by decide +kernel)).1]; exact y6
        · rw [(b3.1 4 1 (by decide +kernel)).1]; exact y7
  -- the four letters
  by_cases z1 : tx4 s p = cI 80
  · have hp := tx4_lt z1 (by decide)
    obtain ⟨P1, f1, n1, fr1, gr1⟩ := h.lt hp
    rw [z1] at lA
    obtain ⟨s', t', p', l, n, a1, a2, a3, a4, a5, a6⟩ := sq4_1010 (x2 := cI 80) [35, 44, 64, 59] 1 0 (p + 1) 1048576 (bfL4 s) (afL t) (by unfold Shp; decide) (by decide) (by decide) (by decide) (by decide) P1 f1 n1
    obtain ⟨a, e1, e2⟩ := entP lA a1
    have k := q2 80 1 (by decide) (by decide) (Or.inl ⟨rfl, rfl⟩) z1
    rcases a6 with ⟨b1, b2⟩ | ⟨b1, b2, b3, b4, b5, b6, -⟩
    · exact nope (k.trans b2) (by rw [e2, if_neg (by rw [b1]; decide)]) b1 a3 (fr1.tr a4) (gr1.tr a5)
    · subst e1
      exact judge (a := a) (b := cI 0) (c := cI 0) (d := cI 0) (nm := n) (k.trans b3) (by rw [e2, if_pos b1]) (Or.inl rfl) (b5 0 (show 0 < 1 by decide)).1 (fun u => absurd rfl u) (fun u => by rcases u with u | u <;> exact absurd u (by decide)) (b6 (by decide)) (a1.nm b1) b1 a3 (by omega) (fr1.tr a4) (gr1.tr a5)
  by_cases z2 : tx4 s p = cI 83
  · have hp := tx4_lt z2 (by decide)
    obtain ⟨P1, f1, n1, fr1, gr1⟩ := h.lt hp
    rw [z2] at lA
    obtain ⟨s', t', p', l, n, a1, a2, a3, a4, a5, a6⟩ := sq4_1010 (x2 := cI 83) [35, 44, 64, 44, 35, 44, 35, 44, 35, 59] 6 0 (p + 1) 1048576 (bfL4 s) (afL t) (by unfold Shp; decide) (by decide) (by decide) (by decide) (by decide) P1 f1 n1
    obtain ⟨a, b, c, d, e1, e2⟩ := entS lA (Or.inl rfl) a1
    have k := q2 83 6 (by decide) (by decide) (Or.inr (Or.inl ⟨rfl, rfl⟩)) z2
    rcases a6 with ⟨b1, b2⟩ | ⟨b1, b2, b3, b4, b5, b6, -⟩
    · exact nope (k.trans b2) (by rw [e2, if_neg (by rw [b1]; decide)]) b1 a3 (fr1.tr a4) (gr1.tr a5)
    · subst e1
      exact judge (a := a) (b := b) (c := c) (d := d) (nm := n) (k.trans b3) (by rw [e2, if_pos b1]) (Or.inr (Or.inl rfl)) (b5 0 (show 0 < 4 by decide)).1 (fun _ => ⟨(b5 1 (show 1 < 4 by decide)).1, (b5 1 (show 1 < 4 by decide)).2.1⟩) (fun _ => ⟨(b5 2 (show 2 < 4 by decide)).1, (b5 3 (show 3 < 4 by decide)).1⟩) (b6 (by decide)) (a1.nm b1) b1 a3 (by omega) (fr1.tr a4) (gr1.tr a5)
  by_cases z3 : tx4 s p = cI 82
  · have hp := tx4_lt z3 (by decide)
    obtain ⟨P1, f1, n1, fr1, gr1⟩ := h.lt hp
    rw [z3] at lA
    obtain ⟨s', t', p', l, n, a1, a2, a3, a4, a5, a6⟩ := sq4_1010 (x2 := cI 82) [35, 44, 64, 44, 35, 44, 35, 44, 35, 59] 17 0 (p + 1) 1048576 (bfL4 s) (afL t) (by unfold Shp; decide) (by decide) (by decide) (by decide) (by decide) P1 f1 n1
    obtain ⟨a, b, c, d, e1, e2⟩ := entS lA (Or.inr rfl) a1
    have k := q2 82 17 (by decide) (by decide) (Or.inr (Or.inr (Or.inl ⟨rfl, rfl⟩))) z3
    rcases a6 with ⟨b1, b2⟩ | ⟨b1, b2, b3, b4, b5, b6, -⟩
    · exact nope (k.trans b2) (by rw [e2, if_neg (by rw [b1]; decide)]) b1 a3 (fr1.tr a4) (gr1.tr a5)
    · subst e1
      exact judge (a := a) (b := b) (c := c) (d := d) (nm := n) (k.trans b3) (by rw [e2, if_pos b1]) (Or.inr (Or.inr (Or.inl rfl))) (b5 0 (show 0 < 4 by decide)).1 (fun _ => ⟨(b5 1 (show 1 < 4 by decide)).1, (b5 1 (show 1 < 4 by decide)).2.1⟩) (fun _ => ⟨(b5 2 (show 2 < 4 by decide)).1, (b5 3 (show 3 < 4 by decide)).1⟩) (b6 (by decide)) (a1.nm b1) b1 a3 (by omega) (fr1.tr a4) (gr1.tr a5)
  by_cases z4 : tx4 s p = cI 72
  · have hp := tx4_lt z4 (by decide)
    obtain ⟨P1, f1, n1, fr1, gr1⟩ := h.lt hp
    rw [z4] at lA
    obtain ⟨s', t', p', l, n, a1, a2, a3, a4, a5, a6⟩ := sq4_1010 (x2 := cI 72) [35, 44, 64, 44, 35, 59] 28 0 (p + 1) 1048576 (bfL4 s) (afL t) (by unfold Shp; decide) (by decide) (by decide) (by decide) (by decide) P1 f1 n1
    obtain ⟨a, b, e1, e2⟩ := entHo lA a1
    have k := q2 72 28 (by decide) (by decide) (Or.inr (Or.inr (Or.inr ⟨rfl, rfl⟩))) z4
    rcases a6 with ⟨b1, b2⟩ | ⟨b1, b2, b3, b4, b5, b6, -⟩
    · exact nope (k.trans b2) (by rw [e2, if_neg (by rw [b1]; decide)]) b1 a3 (fr1.tr a4) (gr1.tr a5)
    · subst e1
      exact judge (a := a) (b := b) (c := cI 0) (d := cI 0) (nm := n) (k.trans b3) (by rw [e2, if_pos b1]) (Or.inr (Or.inr (Or.inr rfl))) (b5 0 (show 0 < 2 by decide)).1 (fun _ => ⟨(b5 1 (show 1 < 2 by decide)).1, (b5 1 (show 1 < 2 by decide)).2.1⟩) (fun u => by rcases u with u | u <;> exact absurd u (by decide)) (b6 (by decide)) (a1.nm b1) b1 a3 (by omega) (fr1.tr a4) (gr1.tr a5)
  have f1 : fr FrdC4 s (wI s 4 4 (cI 0)) := fr.rf.wI rfl
  have f2 : fr FrdM t (wI t 549 140 (cI 1)) := fr.rf.wI rfl
  exact nope (p1 := p) (q1 z1 z2 z3 z4) (entF lA z1 z2 z3 z4) (by rw [wI_c, up1_eq]) ⟨h.1.kp f1 f2, by rw [wI_c, up1_ne (by decide)]; exact h.2.1, by rw [wI_c, up1_ne (by decide)]; exact h.2.2.1, by rw [wI_c, up1_ne (by decide)]; exact h.2.2.2⟩ f1 f2
theorem tb4 {x1 x2 x3 x4 : Int32} : ∀ (r m m' k p : Nat) (s t : ev_M), ix (s.1 4 1) < p + r → r < m → r < m' → Ps4 p s t → RBk s t → k ≤ p → ∃ (s' t' : ev_M) (f : Int32) (k' : Nat), fBook_readText_4_h33 m s x1 x2 x3 x4 (cI (-1)) (cI (k : Int)) = fBook_readText_4_b108 s' x1 x2 x3 x4 f (cI (k' : Int)) ∧ fM_doBook_h32 m' t x1 x2 x3 x4 (cI (k : Int)) (cI (-1)) = fM_doBook_b99 t' x1 x2 x3 x4 (cI (k' : Int)) f ∧ (f = cI (-1) ∨ (0 ≤ f.toInt ∧ f.toInt ≤ 4096)) ∧ RBk s' t' ∧ BxC s s' ∧ BxM s t s' t' ∧ fr (FrdC4 ++ FbkC) s s' ∧ fr (FrdM ++ FbkM) t t'
  | 0, m, m', k, p, s, t, hr, hm, hm', hP, hB, hk => by
    have := hP.2.2.2
    omega
  | r + 1, m, m', k, p, s, t, hr, hm, hm', hP, hB, hk => by
    obtain ⟨m, rfl⟩ : ∃ k, m = k + 1 := ⟨m - 1, by omega⟩
    obtain ⟨m', rfl⟩ : ∃ k, m' = k + 1 := ⟨m' - 1, by omega⟩
    obtain ⟨m', rfl⟩ : ∃ k, m' = k + 1 := ⟨m' - 1, by omega⟩
    obtain ⟨m, rfl⟩ : ∃ k, m = k + 1 := ⟨m - 1, by omega⟩
    have pl := hP.le
    obtain ⟨⟨t1, t2, t3, t4⟩, p1, p2, p3⟩ := id hP
    have ll := ix_toNat (s.1 4 1)
    have ek0 : cI (k : Int) = 0 ↔ k = 0 := by rw [eq_i, q_ti (by omega), i32_0]; omega
    have em : (s.1 4 2 < s.1 4 1) ↔ p < ix (s.1 4 1) := by rw [p1, lt_i, q_ti (by omega)]; omega
    have em2 : (t.1 549 139 < t.1 549 13) ↔ p < ix (s.1 4 1) := by rw [p2, t1, lt_i, q_ti (by omega)]; omega
    by_cases z : k = 0 ∨ p < ix (s.1 4 1)
    · obtain ⟨s1, t1', f, a1, a2, a3, a4, c5, c6, a5, a6⟩ := ib4 hP hB
      have kC : fBook_readText_4_h33 (m + 1 + 1) s x1 x2 x3 x4 (cI (-1)) (cI (k : Int)) = fBook_readText_4_h33 (m + 1) s1 x1 x2 x3 x4 f (cI ((k + 1 : Nat) : Int)) := by
        rw [fBook_readText_4_h33, if_pos rfl, if_pos (by rw [lt_i, q_ti (by omega), show (cI 4096).toInt = 4096 from rfl]; omega)]
        by_cases y : k = 0
        · rw [if_pos (ek0.mpr y), a1, q_s (by omega)]
        · rw [if_neg (fun u => y (ek0.mp u))]
          unfold fTape_hasMore_4
          rw [if_pos (em.mpr (z.resolve_left y)), bd1_some, if_neg (show ¬ (cI 1 : Int32) = 0 by decide), a1, q_s (by omega)]
      have kM : fM_doBook_h32 (m' + 1 + 1) t x1 x2 x3 x4 (cI (k : Int)) (cI (-1)) = fM_doBook_h32 (m' + 1) t1' x1 x2 x3 x4 (cI ((k + 1 : Nat) : Int)) f := by
        rw [fM_doBook_h32, if_pos rfl]
        by_cases y : p < ix (s.1 4 1)
        · rw [if_pos (em2.mpr y), a2, q_s (by omega)]
        · rw [if_neg (fun u => y (em2.mp u)), if_pos (ek0.mpr (z.resolve_right y)), a2, q_s (by omega)]
      rcases a3 with ⟨b1, p', b3, b4⟩ | ⟨b1, b2⟩
      · have el : s1.1 4 1 = s.1 4 1 := (a5.1 4 1 (by decide +kernel)).1
        obtain ⟨s', t', f', k', d1, d2, d3, d4, d5, d6, d7, d8⟩ := tb4 (x1 := x1) (x2 := x2) (x3 := x3) (x4 := x4) r (m + 1) (m' + 1) (k + 1) p' s1 t1' (by rw [el]; omega) (by omega) (by omega) b4 a4 (by omega)
        rw [b1] at kC kM
        exact ⟨s', t', f', k', kC.trans d1, kM.trans d2, d3, d4, c5.tr d5, BxM.tr c5 c6 d6, a5.tr d7, a6.tr d8⟩
      · have nf : ¬ f = cI (-1) := fun u => by rw [u] at b1; exact absurd b1 (by decide)
        refine ⟨s1, t1', f, k + 1, kC.trans ?_, kM.trans ?_, Or.inr ⟨b1, b2⟩, a4, c5, c6, a5, a6⟩
        · rw [fBook_readText_4_h33, if_neg nf]
        · rw [fM_doBook_h32, if_neg nf]
    · have z1 : ¬ k = 0 := fun u => z (Or.inl u)
      have z2 : ¬ p < ix (s.1 4 1) := fun u => z (Or.inr u)
      refine ⟨s, t, cI (-1), k, ?_, ?_, Or.inl rfl, hB, BxC.rf, BxM.rf, fr.rf, fr.rf⟩
      · rw [fBook_readText_4_h33, if_pos rfl, if_neg (fun u => z1 (ek0.mp u))]
        unfold fTape_hasMore_4
        rw [if_neg (fun u => z2 (em.mp u)), bd1_some, if_pos (show (cI 0 : Int32) = 0 from rfl), ite_self]
      · rw [fM_doBook_h32, if_pos rfl, if_neg (fun u => z2 (em2.mp u)), if_neg (fun u => z1 (ek0.mp u))]
theorem a_book4 {s t : ev_M} {F : Bool} {A : Nat → Nat → Int32} (hA : AdmC s F A) (hM : FulM t F) (h0 : t.1 549 15 = 0) (h : RBk s t) (hp : RSp s t) (h3 : (s.1 138 3).toInt ≤ 12) (hx : RTx4 s t) : Ok (fBook_readText_4 s) fun x => Ok (fM_doBook t) fun y => AP (fun s' t' => RBk s' t' ∧ RSp s' t' ∧ BxC s s') (fun s' t' => RBk s' t' ∧ RSp s' t' ∧ BxC s s') F A s x y := by
  obtain ⟨⟨⟨l1, -⟩, -⟩, ⟨⟨l2, -⟩, -⟩, ⟨⟨l3, -⟩, -⟩, ⟨⟨l4, -⟩, -⟩⟩ := id h
  obtain ⟨s0, es0⟩ : ∃ x, x = wI s 4 2 (cI 0) := ⟨_, rfl⟩
  obtain ⟨t0, et0⟩ : ∃ x, x = wI t 549 139 (cI 0) := ⟨_, rfl⟩
  have fs0 : fr FrdC4 s s0 := by rw [es0]; exact fr.rf.wI rfl
  have ft0 : fr FrdM t t0 := by rw [et0]; exact fr.rf.wI rfl
  have P0 : Ps4 0 s0 t0 := ⟨hx.kp fs0 ft0, by rw [es0, wI_c, up1_eq]; rfl, by rw [et0, wI_c, up1_eq]; rfl, Nat.zero_le _⟩
  have L4 : ix (s0.1 4 1) ≤ 4096 := by
    have := P0.1.2.2.1
    rw [ix_toNat]; omega
  obtain ⟨s1, t1, f, k, d1, d2, d3, d4, d5, d6, d7, d8⟩ := tb4 (x1 := s.1 30 2) (x2 := s.1 30 4) (x3 := s.1 30 7) (x4 := s.1 30 9) (ix (s0.1 4 1) + 1) 1048576 1048576 0 0 s0 t0 (by omega) (by omega) (by omega) P0 (h.keep fs0 ft0 (by decide +kernel) (by decide +kernel)) (Nat.le_refl _)
  have X0 : BxC s s0 := BxC.of fs0 (by decide +kernel)
  have X1 : BxC s s1 := X0.tr d5
  have Y0 : BxM s t s0 t0 := BxM.of (fs0.1 30 9 (by decide +kernel)).1 ft0 (by decide +kernel)
  have Y1 : BxM s t s1 t1 := BxM.tr X0 Y0 d6
  have fs1 : fr (FrdC4 ++ FbkC) s s1 := (fs0.mono (by decide +kernel)).tr d7
  have ft1 : fr (FrdM ++ FbkM) t t1 := (ft0.mono (by decide +kernel)).tr d8
  have kC : fBook_readText_4 s = fBook_readText_4_b108 s1 (s.1 30 2) (s.1 30 4) (s.1 30 7) (s.1 30 9) f (cI (k : Int)) := by
    unfold fBook_readText_4
    rw [ltI_eq, ltI_eq, ltI_eq, ltI_eq, ltM_eq, ← es0]
    exact d1
  have kM : fM_doBook t = fM_doBook_b99 t1 (s.1 30 2) (s.1 30 4) (s.1 30 7) (s.1 30 9) (cI (k : Int)) f := by
    unfold fM_doBook
    rw [ltI_eq, ltI_eq, ltI_eq, ltI_eq, ltM_eq, ← et0, l1, l2, l3, l4]
    exact d2
  have sS1 : lgS s s1 := lgS.fr fs1 (by decide +kernel) (by decide +kernel)
  have sT1 : lgT t t1 := ⟨(ft1.1 549 4 (by decide +kernel)).1, (ft1.1 549 9 (by decide +kernel)).1, (ft1.1 549 13 (by decide +kernel)).1, (ft1.1 549 14 (by decide +kernel)).1, (ft1.1 549 16 (by decide +kernel)).1⟩
  have h120 : (s1.1 30 9).toInt ≤ 120 := d4.2.2.2.1.2.2
  have rsp : ∀ {s2 t2 : ev_M}, BxC s s2 → BxM s t s2 t2 → (s2.1 30 9).toInt ≤ 120 → fr (FrdC4 ++ FbkC) s s2 → t2.1 572 = t.1 572 → RSp s2 t2 := by
    intro s2 t2 g1 g2 g3 g4 g5
    exact hp.ext g1 g2 g3 (cF (c := 138) g4 (by decide +kernel)) (cF (c := 143) g4 (by decide +kernel)) (cF (c := 158) g4 (by decide +kernel)) (fun r hr => by
      have : ∀ r, r < 12 → nof (FrdC4 ++ FbkC) [(146 + r, 0)] = true := by decide +kernel
      exact cF (c := 146 + r) g4 (this r hr)) g5 h3
  -- refused: the counts are laid back
  obtain ⟨s2, es2⟩ : ∃ x, x = wI (wI (wI (wI s1 30 2 (s.1 30 2)) 30 4 (s.1 30 4)) 30 7 (s.1 30 7)) 30 9 (s.1 30 9) := ⟨_, rfl⟩
  obtain ⟨t2, et2⟩ : ∃ x, x = wI (wI (wI (wI (wI t1 549 24 (s.1 30 2)) 549 27 (s.1 30 4)) 549 33 (s.1 30 7)) 549 38 (s.1 30 9)) 549 15 (cI 1) := ⟨_, rfl⟩
  have fs2 : fr (FrdC4 ++ FbkC) s s2 := by rw [es2]; exact (((fs1.wI rfl).wI rfl).wI rfl).wI rfl
  have c30 : s2.1 30 2 = s.1 30 2 ∧ s2.1 30 4 = s.1 30 4 ∧ s2.1 30 7 = s.1 30 7 ∧ s2.1 30 9 = s.1 30 9 := by
    rw [es2]
    simp (disch := decide) only [ix_0, ix_1, ix_2, ix_3, ix_4, ix_5, ix_6, ix_7, ix_8, ix_9, ix_10, ix_11, ix_12, ix_13, ix_14, ix_15, ix_16, ix_17, ix_18, ix_19, ix_20, ix_21, Nat.reduceAdd, wI_c, wI_ne, wL_1, lupd_ne, up1_eq, up1_ne]
    exact ⟨trivial, trivial, trivial, trivial⟩
  obtain ⟨c2, c4, c7, c9⟩ := c30
  have X2 : BxC s s2 := by
    obtain ⟨-, x5, x6, x7, x8⟩ := X1
    refine ⟨⟨by rw [c2]; exact Int.le_refl _, by rw [c4]; exact Int.le_refl _, by rw [c7]; exact Int.le_refl _, by rw [c9]; exact Int.le_refl _⟩, ?_, ?_, ?_, ?_⟩ <;> rw [es2] <;> simp (disch := decide) only [ix_0, ix_1, ix_2, ix_3, ix_4, ix_5, ix_6, ix_7, ix_8, ix_9, ix_10, ix_11, ix_12, ix_13, ix_14, ix_15, ix_16, ix_17, ix_18, ix_19, ix_20, ix_21, Nat.reduceAdd, wI_c, wI_ne, wL_1, lupd_ne, up1_eq, up1_ne]
    · exact x5
    · exact x6
    · exact x7
    · exact x8
  have g30 : (s.1 30 9).toInt ≤ (s1.1 30 9).toInt := X1.1.2.2.2
  have Y2 : BxM s t s2 t2 := by
    obtain ⟨y5, y6, y7, y8, y9⟩ := Y1
    refine ⟨?_, ?_, ?_, ?_, fun q h1 h2 => by rw [c9] at h2; omega⟩ <;> rw [et2] <;> simp (disch := decide) only [ix_0, ix_1, ix_2, ix_3, ix_4, ix_5, ix_6, ix_7, ix_8, ix_9, ix_10, ix_11, ix_12, ix_13, ix_14, ix_15, ix_16, ix_17, ix_18, ix_19, ix_20, ix_21, Nat.reduceAdd, wI_c, wI_ne, wL_1, lupd_ne, up1_eq, up1_ne]
    · exact y5
    · exact y6
    · exact y7
    · exact y8
  have B2 : RBk s2 t2 := by
    refine h.eqv c2 c4 c7 c9 ?_ ?_ ?_ ?_ X2 Y2 <;> rw [et2] <;> simp (disch := decide) only [ix_0, ix_1, ix_2, ix_3, ix_4, ix_5, ix_6, ix_7, ix_8, ix_9, ix_10, ix_11, ix_12, ix_13, ix_14, ix_15, ix_16, ix_17, ix_18, ix_19, ix_20, ix_21, Nat.reduceAdd, wI_c, wI_ne, wL_1, lupd_ne, up1_eq, up1_ne]
    · exact l1.symm
    · exact l2.symm
    · exact l3.symm
    · exact l4.symm
  have S2 : RSp s2 t2 := rsp X2 Y2 (by rw [c9]; omega) fs2 (by
    rw [et2]
    simp (disch := decide) only [ix_0, ix_1, ix_2, ix_3, ix_4, ix_5, ix_6, ix_7, ix_8, ix_9, ix_10, ix_11, ix_12, ix_13, ix_14, ix_15, ix_16, ix_17, ix_18, ix_19, ix_20, ix_21, Nat.reduceAdd, wI_c, wI_ne, wL_1, lupd_ne, up1_eq, up1_ne]
    exact cF (c := 572) ft1 (by decide +kernel))
  have t15 : t2.1 549 15 = 1 := by rw [et2, wI_c, up1_eq]; rfl
  have kF : fBook_keepFirst s1 (s.1 30 2) (s.1 30 4) (s.1 30 7) (s.1 30 9) = some s2 := by
    unfold fBook_keepFirst
    rw [ltM_eq, ltM_eq, ltM_eq, ltM_eq, es2]
  have sS2 : lgS s s2 := lgS.fr fs2 (by decide +kernel) (by decide +kernel)
  have k130 : ∀ x7, fM_doBook_b130 t1 (s.1 30 2) (s.1 30 4) (s.1 30 7) (s.1 30 9) f x7 = if x7 = 0 then some (t2, cI (-1000) - f) else some (t2, cI (-104)) := by
    intro x7
    unfold fM_doBook_b130 fM_doBook_b168
    rw [ltM_eq, ltM_eq, ltM_eq, ltM_eq, no_eq, no_eq, bd2_some, bd2_some, ← et2]
  rw [kC, kM]
  rcases d3 with d3 | ⟨d3, d3'⟩
  · subst d3
    unfold fBook_readText_4_b108 fM_doBook_b99
    rw [if_pos rfl, if_pos rfl]
    by_cases hF : F = true
    · subst hF
      have aY : fLog_admits s1 = some (s1, 0) := hA s1 sS1
      have bY : fM_full t1 = some 1 := hM t1 sT1
      rw [aY, bd2_some, bY, bd1_some, if_pos rfl, if_neg (show ¬ (1 : Int32) = 0 by decide)]
      unfold fBook_readText_4_b127 fM_doBook_b117
      rw [kF, bd1_some, if_pos rfl, if_pos rfl, if_neg (show ¬ (cI 1 : Int32) = 0 by decide), k130, if_neg (show ¬ (cI 1 : Int32) = 0 by decide), ok_some, ok_some]
      exact ⟨rfl, Or.inl ⟨t15, sS2, B2, S2, X2⟩⟩
    · have hF2 : F = false := by cases F <;> simp_all
      subst hF2
      have aY : fLog_admits s1 = some (lupd A s1, 1) := hA s1 sS1
      have bY : fM_full t1 = some 0 := hM t1 sT1
      rw [aY, bd2_some, bY, bd1_some, if_neg (show ¬ (1 : Int32) = 0 by decide), if_pos rfl]
      unfold fM_doBook_b116 fM_doBook_b117
      rw [if_pos rfl, if_pos (show (cI 0 : Int32) = 0 from rfl), ok_some, ok_some]
      have q1 : fr (FrdC4 ++ FbkC) (lupd A s) (lupd A s1) := by
        refine ⟨fun c k hc => ⟨?_, ?_⟩, ?_⟩
        · show (if 9 ≤ c ∧ c ≤ 14 then A c k else s1.1 c k) = (if 9 ≤ c ∧ c ≤ 14 then A c k else s.1 c k)
          by_cases y : 9 ≤ c ∧ c ≤ 14
          · rw [if_pos y, if_pos y]
          · rw [if_neg y, if_neg y]; exact (fs1.1 c k hc).1
        · exact (fs1.1 c k hc).2
        · exact fs1.2
      have B1 : RBk (lupd A s1) t1 := d4.keep lupd_fr rf_fr (by decide +kernel) (by decide +kernel)
      have S1 : RSp s1 t1 := rsp X1 Y1 h120 fs1 (cF (c := 572) ft1 (by decide +kernel))
      refine ⟨rfl, Or.inr ⟨?_, rfl, lgS.fr q1 (by decide +kernel) (by decide +kernel), B1, S1.keep lupd_fr rf_fr (by decide +kernel) (by decide +kernel), X1.tr (BxC.of lupd_fr (by decide +kernel))⟩⟩
      rw [(ft1.1 549 15 (by decide +kernel)).1]; exact h0
  · have nf : ¬ f = cI (-1) := fun u => by rw [u] at d3; exact absurd d3 (by decide)
    unfold fBook_readText_4_b108 fM_doBook_b99 fBook_readText_4_b127 fM_doBook_b116 fM_doBook_b117
    rw [if_neg nf, if_neg nf, kF, bd1_some, if_neg nf, if_neg nf, k130, if_pos (show (cI 0 : Int32) = 0 from rfl), ok_some, ok_some]
    exact ⟨rfl, Or.inl ⟨t15, sS2, B2, S2, X2⟩⟩
